section
-- ===== PART A: goes FIRST, ahead of the names: the tables' words, and 'selects' of the private methods out of them =====
/-- a private method of a class that the tables say can be made, by its rows of tables_1 -/
def lw_okq (q : MethodName × Nat) : Prop := (q.1.cls ≠ "java/lang/invoke/MethodHandle" ∧ q.1.cls ≠ "java/lang/invoke/VarHandle") ∧ Cond.instantiable q.1.cls q.2 ∈ tables_1 ∧ Cond.privateMethod q.1 ∈ tables_1 ∧ Cond.instanceMethod q.1 ∈ tables_1
theorem lw_p0 : lw_okq (⟨"TermServer$Closure", "catchUp", "()V"⟩, 12) := ⟨⟨by decide +kernel, by decide +kernel⟩, List.mem_of_getElem? (i := 106) (by decide +kernel), List.mem_of_getElem? (i := 207) (by decide +kernel), List.mem_of_getElem? (i := 208) (by decide +kernel)⟩
theorem lw_p1 : lw_okq (⟨"TermServer$Closure", "admitBoth", "(I)V"⟩, 12) := ⟨⟨by decide +kernel, by decide +kernel⟩, List.mem_of_getElem? (i := 106) (by decide +kernel), List.mem_of_getElem? (i := 230) (by decide +kernel), List.mem_of_getElem? (i := 231) (by decide +kernel)⟩
theorem lw_p2 : lw_okq (⟨"TermServer$Closure", "add", "(III)V"⟩, 12) := ⟨⟨by decide +kernel, by decide +kernel⟩, List.mem_of_getElem? (i := 106) (by decide +kernel), List.mem_of_getElem? (i := 259) (by decide +kernel), List.mem_of_getElem? (i := 260) (by decide +kernel)⟩
theorem lw_p3 : lw_okq (⟨"TermServer$Closure", "admitSome", "(I)V"⟩, 12) := ⟨⟨by decide +kernel, by decide +kernel⟩, List.mem_of_getElem? (i := 106) (by decide +kernel), List.mem_of_getElem? (i := 264) (by decide +kernel), List.mem_of_getElem? (i := 265) (by decide +kernel)⟩
theorem lw_p4 : lw_okq (⟨"TermServer$Closure", "addFromAll", "(III)V"⟩, 12) := ⟨⟨by decide +kernel, by decide +kernel⟩, List.mem_of_getElem? (i := 106) (by decide +kernel), List.mem_of_getElem? (i := 268) (by decide +kernel), List.mem_of_getElem? (i := 269) (by decide +kernel)⟩
theorem lw_p5 : lw_okq (⟨"TermServer$Closure", "emptySources", "(I)V"⟩, 12) := ⟨⟨by decide +kernel, by decide +kernel⟩, List.mem_of_getElem? (i := 106) (by decide +kernel), List.mem_of_getElem? (i := 315) (by decide +kernel), List.mem_of_getElem? (i := 316) (by decide +kernel)⟩
theorem lw_p6 : lw_okq (⟨"TermServer$Closure", "addAll", "(IILTermServer$Bits;I)V"⟩, 12) := ⟨⟨by decide +kernel, by decide +kernel⟩, List.mem_of_getElem? (i := 106) (by decide +kernel), List.mem_of_getElem? (i := 323) (by decide +kernel), List.mem_of_getElem? (i := 324) (by decide +kernel)⟩
theorem lw_p7 : lw_okq (⟨"TermServer$Closure", "drawParts", "(II)V"⟩, 12) := ⟨⟨by decide +kernel, by decide +kernel⟩, List.mem_of_getElem? (i := 106) (by decide +kernel), List.mem_of_getElem? (i := 327) (by decide +kernel), List.mem_of_getElem? (i := 328) (by decide +kernel)⟩
theorem lw_p8 : lw_okq (⟨"TermServer$Closure", "drawBoths", "(II)V"⟩, 12) := ⟨⟨by decide +kernel, by decide +kernel⟩, List.mem_of_getElem? (i := 106) (by decide +kernel), List.mem_of_getElem? (i := 331) (by decide +kernel), List.mem_of_getElem? (i := 332) (by decide +kernel)⟩
theorem lw_p9 : lw_okq (⟨"TermServer$Closure", "drawSomes", "(II)V"⟩, 12) := ⟨⟨by decide +kernel, by decide +kernel⟩, List.mem_of_getElem? (i := 106) (by decide +kernel), List.mem_of_getElem? (i := 339) (by decide +kernel), List.mem_of_getElem? (i := 340) (by decide +kernel)⟩
theorem lw_p10 : lw_okq (⟨"TermServer$Closure", "drawFromLink", "(III)V"⟩, 12) := ⟨⟨by decide +kernel, by decide +kernel⟩, List.mem_of_getElem? (i := 106) (by decide +kernel), List.mem_of_getElem? (i := 347) (by decide +kernel), List.mem_of_getElem? (i := 348) (by decide +kernel)⟩
theorem lw_p11 : lw_okq (⟨"TermServer$Closure", "drawFromChains", "(III)V"⟩, 12) := ⟨⟨by decide +kernel, by decide +kernel⟩, List.mem_of_getElem? (i := 106) (by decide +kernel), List.mem_of_getElem? (i := 351) (by decide +kernel), List.mem_of_getElem? (i := 352) (by decide +kernel)⟩
theorem lw_p12 : lw_okq (⟨"TermServer", "countPairs", "()I"⟩, 5) := ⟨⟨by decide +kernel, by decide +kernel⟩, List.mem_of_getElem? (i := 15) (by decide +kernel), List.mem_of_getElem? (i := 365) (by decide +kernel), List.mem_of_getElem? (i := 366) (by decide +kernel)⟩
theorem lw_p13 : lw_okq (⟨"TermServer", "countEmpty", "()I"⟩, 5) := ⟨⟨by decide +kernel, by decide +kernel⟩, List.mem_of_getElem? (i := 15) (by decide +kernel), List.mem_of_getElem? (i := 373) (by decide +kernel), List.mem_of_getElem? (i := 374) (by decide +kernel)⟩
theorem lw_p14 : lw_okq (⟨"TermServer", "countClasses", "()I"⟩, 5) := ⟨⟨by decide +kernel, by decide +kernel⟩, List.mem_of_getElem? (i := 15) (by decide +kernel), List.mem_of_getElem? (i := 378) (by decide +kernel), List.mem_of_getElem? (i := 379) (by decide +kernel)⟩
theorem lw_p15 : lw_okq (⟨"TermServer", "leastEqual", "(I)I"⟩, 5) := ⟨⟨by decide +kernel, by decide +kernel⟩, List.mem_of_getElem? (i := 15) (by decide +kernel), List.mem_of_getElem? (i := 382) (by decide +kernel), List.mem_of_getElem? (i := 383) (by decide +kernel)⟩
def lw_privs_1 : List (MethodName × Nat) := [(⟨"TermServer$Closure", "catchUp", "()V"⟩, 12), (⟨"TermServer$Closure", "admitBoth", "(I)V"⟩, 12), (⟨"TermServer$Closure", "add", "(III)V"⟩, 12), (⟨"TermServer$Closure", "admitSome", "(I)V"⟩, 12), (⟨"TermServer$Closure", "addFromAll", "(III)V"⟩, 12), (⟨"TermServer$Closure", "emptySources", "(I)V"⟩, 12), (⟨"TermServer$Closure", "addAll", "(IILTermServer$Bits;I)V"⟩, 12), (⟨"TermServer$Closure", "drawParts", "(II)V"⟩, 12), (⟨"TermServer$Closure", "drawBoths", "(II)V"⟩, 12), (⟨"TermServer$Closure", "drawSomes", "(II)V"⟩, 12), (⟨"TermServer$Closure", "drawFromLink", "(III)V"⟩, 12), (⟨"TermServer$Closure", "drawFromChains", "(III)V"⟩, 12), (⟨"TermServer", "countPairs", "()I"⟩, 5), (⟨"TermServer", "countEmpty", "()I"⟩, 5), (⟨"TermServer", "countClasses", "()I"⟩, 5), (⟨"TermServer", "leastEqual", "(I)I"⟩, 5)]
theorem lw_r1 : ∀ q ∈ lw_privs_1, lw_okq q := List.forall_mem_cons.mpr ⟨lw_p0, List.forall_mem_cons.mpr ⟨lw_p1, List.forall_mem_cons.mpr ⟨lw_p2, List.forall_mem_cons.mpr ⟨lw_p3, List.forall_mem_cons.mpr ⟨lw_p4, List.forall_mem_cons.mpr ⟨lw_p5, List.forall_mem_cons.mpr ⟨lw_p6, List.forall_mem_cons.mpr ⟨lw_p7, List.forall_mem_cons.mpr ⟨lw_p8, List.forall_mem_cons.mpr ⟨lw_p9, List.forall_mem_cons.mpr ⟨lw_p10, List.forall_mem_cons.mpr ⟨lw_p11, List.forall_mem_cons.mpr ⟨lw_p12, List.forall_mem_cons.mpr ⟨lw_p13, List.forall_mem_cons.mpr ⟨lw_p14, List.forall_mem_cons.mpr ⟨lw_p15, fun _ h => absurd h List.not_mem_nil⟩⟩⟩⟩⟩⟩⟩⟩⟩⟩⟩⟩⟩⟩⟩⟩
theorem lw_p16 : lw_okq (⟨"TermServer", "checkTerm", "(I)V"⟩, 5) := ⟨⟨by decide +kernel, by decide +kernel⟩, List.mem_of_getElem? (i := 15) (by decide +kernel), List.mem_of_getElem? (i := 394) (by decide +kernel), List.mem_of_getElem? (i := 395) (by decide +kernel)⟩
theorem lw_p17 : lw_okq (⟨"java/lang/Throwable", "fillInStackTrace", "(I)Ljava/lang/Throwable;"⟩, 6) := ⟨⟨by decide +kernel, by decide +kernel⟩, List.mem_of_getElem? (i := 434) (by decide +kernel), List.mem_of_getElem? (i := 432) (by decide +kernel), List.mem_of_getElem? (i := 433) (by decide +kernel)⟩
theorem lw_p18 : lw_okq (⟨"TermServer", "isNameAbove", "(II)Z"⟩, 5) := ⟨⟨by decide +kernel, by decide +kernel⟩, List.mem_of_getElem? (i := 15) (by decide +kernel), List.mem_of_getElem? (i := 531) (by decide +kernel), List.mem_of_getElem? (i := 532) (by decide +kernel)⟩
theorem lw_p19 : lw_okq (⟨"TermServer", "isStrictlyBelow", "(II)Z"⟩, 5) := ⟨⟨by decide +kernel, by decide +kernel⟩, List.mem_of_getElem? (i := 15) (by decide +kernel), List.mem_of_getElem? (i := 558) (by decide +kernel), List.mem_of_getElem? (i := 559) (by decide +kernel)⟩
theorem lw_p20 : lw_okq (⟨"TermServer", "isNameAboveBoth", "(III)Z"⟩, 5) := ⟨⟨by decide +kernel, by decide +kernel⟩, List.mem_of_getElem? (i := 15) (by decide +kernel), List.mem_of_getElem? (i := 576) (by decide +kernel), List.mem_of_getElem? (i := 577) (by decide +kernel)⟩
theorem lw_p21 : lw_okq (⟨"TermServer", "isLowestAboveBoth", "(III)Z"⟩, 5) := ⟨⟨by decide +kernel, by decide +kernel⟩, List.mem_of_getElem? (i := 15) (by decide +kernel), List.mem_of_getElem? (i := 580) (by decide +kernel), List.mem_of_getElem? (i := 581) (by decide +kernel)⟩
theorem lw_p22 : lw_okq (⟨"TermServer", "reasonBefore", "(III)I"⟩, 5) := ⟨⟨by decide +kernel, by decide +kernel⟩, List.mem_of_getElem? (i := 15) (by decide +kernel), List.mem_of_getElem? (i := 591) (by decide +kernel), List.mem_of_getElem? (i := 592) (by decide +kernel)⟩
theorem lw_p23 : lw_okq (⟨"TermServerModel", "made", "(III)I"⟩, 19) := ⟨⟨by decide +kernel, by decide +kernel⟩, List.mem_of_getElem? (i := 610) (by decide +kernel), List.mem_of_getElem? (i := 682) (by decide +kernel), List.mem_of_getElem? (i := 683) (by decide +kernel)⟩
theorem lw_p24 : lw_okq (⟨"TermServerModel", "isThere", "(I)Z"⟩, 19) := ⟨⟨by decide +kernel, by decide +kernel⟩, List.mem_of_getElem? (i := 610) (by decide +kernel), List.mem_of_getElem? (i := 690) (by decide +kernel), List.mem_of_getElem? (i := 691) (by decide +kernel)⟩
theorem lw_p25 : lw_okq (⟨"TermServerModel", "fails", "(Z)Z"⟩, 19) := ⟨⟨by decide +kernel, by decide +kernel⟩, List.mem_of_getElem? (i := 610) (by decide +kernel), List.mem_of_getElem? (i := 694) (by decide +kernel), List.mem_of_getElem? (i := 695) (by decide +kernel)⟩
theorem lw_p26 : lw_okq (⟨"TermServerModel", "axiom", "(IIII)I"⟩, 19) := ⟨⟨by decide +kernel, by decide +kernel⟩, List.mem_of_getElem? (i := 610) (by decide +kernel), List.mem_of_getElem? (i := 709) (by decide +kernel), List.mem_of_getElem? (i := 710) (by decide +kernel)⟩
theorem lw_p27 : lw_okq (⟨"TermServerModel", "close", "()V"⟩, 19) := ⟨⟨by decide +kernel, by decide +kernel⟩, List.mem_of_getElem? (i := 610) (by decide +kernel), List.mem_of_getElem? (i := 733) (by decide +kernel), List.mem_of_getElem? (i := 734) (by decide +kernel)⟩
theorem lw_p28 : lw_okq (⟨"TermServerModel", "follow", "(II)V"⟩, 19) := ⟨⟨by decide +kernel, by decide +kernel⟩, List.mem_of_getElem? (i := 610) (by decide +kernel), List.mem_of_getElem? (i := 737) (by decide +kernel), List.mem_of_getElem? (i := 738) (by decide +kernel)⟩
theorem lw_p29 : lw_okq (⟨"TermServerModel", "add", "(II)V"⟩, 19) := ⟨⟨by decide +kernel, by decide +kernel⟩, List.mem_of_getElem? (i := 610) (by decide +kernel), List.mem_of_getElem? (i := 741) (by decide +kernel), List.mem_of_getElem? (i := 742) (by decide +kernel)⟩
theorem lw_p30 : lw_okq (⟨"TermServerModel", "byAxioms", "(I)V"⟩, 19) := ⟨⟨by decide +kernel, by decide +kernel⟩, List.mem_of_getElem? (i := 610) (by decide +kernel), List.mem_of_getElem? (i := 751) (by decide +kernel), List.mem_of_getElem? (i := 752) (by decide +kernel)⟩
theorem lw_p31 : lw_okq (⟨"TermServerModel", "join", "(II)V"⟩, 19) := ⟨⟨by decide +kernel, by decide +kernel⟩, List.mem_of_getElem? (i := 610) (by decide +kernel), List.mem_of_getElem? (i := 758) (by decide +kernel), List.mem_of_getElem? (i := 759) (by decide +kernel)⟩
def lw_privs_2 : List (MethodName × Nat) := [(⟨"TermServer", "checkTerm", "(I)V"⟩, 5), (⟨"java/lang/Throwable", "fillInStackTrace", "(I)Ljava/lang/Throwable;"⟩, 6), (⟨"TermServer", "isNameAbove", "(II)Z"⟩, 5), (⟨"TermServer", "isStrictlyBelow", "(II)Z"⟩, 5), (⟨"TermServer", "isNameAboveBoth", "(III)Z"⟩, 5), (⟨"TermServer", "isLowestAboveBoth", "(III)Z"⟩, 5), (⟨"TermServer", "reasonBefore", "(III)I"⟩, 5), (⟨"TermServerModel", "made", "(III)I"⟩, 19), (⟨"TermServerModel", "isThere", "(I)Z"⟩, 19), (⟨"TermServerModel", "fails", "(Z)Z"⟩, 19), (⟨"TermServerModel", "axiom", "(IIII)I"⟩, 19), (⟨"TermServerModel", "close", "()V"⟩, 19), (⟨"TermServerModel", "follow", "(II)V"⟩, 19), (⟨"TermServerModel", "add", "(II)V"⟩, 19), (⟨"TermServerModel", "byAxioms", "(I)V"⟩, 19), (⟨"TermServerModel", "join", "(II)V"⟩, 19)]
theorem lw_r2 : ∀ q ∈ lw_privs_2, lw_okq q := List.forall_mem_cons.mpr ⟨lw_p16, List.forall_mem_cons.mpr ⟨lw_p17, List.forall_mem_cons.mpr ⟨lw_p18, List.forall_mem_cons.mpr ⟨lw_p19, List.forall_mem_cons.mpr ⟨lw_p20, List.forall_mem_cons.mpr ⟨lw_p21, List.forall_mem_cons.mpr ⟨lw_p22, List.forall_mem_cons.mpr ⟨lw_p23, List.forall_mem_cons.mpr ⟨lw_p24, List.forall_mem_cons.mpr ⟨lw_p25, List.forall_mem_cons.mpr ⟨lw_p26, List.forall_mem_cons.mpr ⟨lw_p27, List.forall_mem_cons.mpr ⟨lw_p28, List.forall_mem_cons.mpr ⟨lw_p29, List.forall_mem_cons.mpr ⟨lw_p30, List.forall_mem_cons.mpr ⟨lw_p31, fun _ h => absurd h List.not_mem_nil⟩⟩⟩⟩⟩⟩⟩⟩⟩⟩⟩⟩⟩⟩⟩⟩
theorem lw_p32 : lw_okq (⟨"TermServerModel", "byChain", "(IIII)V"⟩, 19) := ⟨⟨by decide +kernel, by decide +kernel⟩, List.mem_of_getElem? (i := 610) (by decide +kernel), List.mem_of_getElem? (i := 762) (by decide +kernel), List.mem_of_getElem? (i := 763) (by decide +kernel)⟩
theorem lw_p33 : lw_okq (⟨"TermServerModel", "byDescriptions", "(I)V"⟩, 19) := ⟨⟨by decide +kernel, by decide +kernel⟩, List.mem_of_getElem? (i := 610) (by decide +kernel), List.mem_of_getElem? (i := 766) (by decide +kernel), List.mem_of_getElem? (i := 767) (by decide +kernel)⟩
theorem lw_p34 : lw_okq (⟨"TermServerModel", "meets", "(III)Z"⟩, 19) := ⟨⟨by decide +kernel, by decide +kernel⟩, List.mem_of_getElem? (i := 610) (by decide +kernel), List.mem_of_getElem? (i := 770) (by decide +kernel), List.mem_of_getElem? (i := 771) (by decide +kernel)⟩
theorem lw_p35 : lw_okq (⟨"TermServerModel", "byNothing", "(I)V"⟩, 19) := ⟨⟨by decide +kernel, by decide +kernel⟩, List.mem_of_getElem? (i := 610) (by decide +kernel), List.mem_of_getElem? (i := 774) (by decide +kernel), List.mem_of_getElem? (i := 775) (by decide +kernel)⟩
theorem lw_p36 : lw_okq (⟨"TermServerModel", "strictly", "(II)Z"⟩, 19) := ⟨⟨by decide +kernel, by decide +kernel⟩, List.mem_of_getElem? (i := 610) (by decide +kernel), List.mem_of_getElem? (i := 790) (by decide +kernel), List.mem_of_getElem? (i := 791) (by decide +kernel)⟩
theorem lw_p37 : lw_okq (⟨"TermServerModel", "least", "(I)I"⟩, 19) := ⟨⟨by decide +kernel, by decide +kernel⟩, List.mem_of_getElem? (i := 610) (by decide +kernel), List.mem_of_getElem? (i := 798) (by decide +kernel), List.mem_of_getElem? (i := 799) (by decide +kernel)⟩
theorem lw_p38 : lw_okq (⟨"TermServerModel", "isCommon", "(III)Z"⟩, 19) := ⟨⟨by decide +kernel, by decide +kernel⟩, List.mem_of_getElem? (i := 610) (by decide +kernel), List.mem_of_getElem? (i := 806) (by decide +kernel), List.mem_of_getElem? (i := 807) (by decide +kernel)⟩
theorem lw_p39 : lw_okq (⟨"TermServerModel", "pairs", "()I"⟩, 19) := ⟨⟨by decide +kernel, by decide +kernel⟩, List.mem_of_getElem? (i := 610) (by decide +kernel), List.mem_of_getElem? (i := 826) (by decide +kernel), List.mem_of_getElem? (i := 827) (by decide +kernel)⟩
def lw_privs_3 : List (MethodName × Nat) := [(⟨"TermServerModel", "byChain", "(IIII)V"⟩, 19), (⟨"TermServerModel", "byDescriptions", "(I)V"⟩, 19), (⟨"TermServerModel", "meets", "(III)Z"⟩, 19), (⟨"TermServerModel", "byNothing", "(I)V"⟩, 19), (⟨"TermServerModel", "strictly", "(II)Z"⟩, 19), (⟨"TermServerModel", "least", "(I)I"⟩, 19), (⟨"TermServerModel", "isCommon", "(III)Z"⟩, 19), (⟨"TermServerModel", "pairs", "()I"⟩, 19)]
theorem lw_r3 : ∀ q ∈ lw_privs_3, lw_okq q := List.forall_mem_cons.mpr ⟨lw_p32, List.forall_mem_cons.mpr ⟨lw_p33, List.forall_mem_cons.mpr ⟨lw_p34, List.forall_mem_cons.mpr ⟨lw_p35, List.forall_mem_cons.mpr ⟨lw_p36, List.forall_mem_cons.mpr ⟨lw_p37, List.forall_mem_cons.mpr ⟨lw_p38, List.forall_mem_cons.mpr ⟨lw_p39, fun _ h => absurd h List.not_mem_nil⟩⟩⟩⟩⟩⟩⟩⟩
def lw_privs : List (MethodName × Nat) := lw_privs_1 ++ (lw_privs_2 ++ (lw_privs_3))
def lw_tbl : List Cond := k2_sels lw_privs ++ tables_1
theorem lw_privs_ok : ∀ q ∈ lw_privs, lw_okq q := by
  show ∀ q ∈ lw_privs_1 ++ (lw_privs_2 ++ (lw_privs_3)), lw_okq q
  exact List.forall_mem_append.mpr ⟨lw_r1, List.forall_mem_append.mpr ⟨lw_r2, lw_r3⟩⟩
end
section
/-! Names: classes, fields, methods; the words of the tables by their places; rows of fields and calls. Written by wip/whole/gen/mknames.py. -/
theorem tb_1 {w : Cond} (h : w ∈ tables_1_1) : w ∈ lw_tbl := List.mem_append_right _ (List.mem_append_left _ h)
theorem tb_2 {w : Cond} (h : w ∈ tables_1_2) : w ∈ lw_tbl := List.mem_append_right _ (List.mem_append_right _ (List.mem_append_left _ h))
theorem tb_3 {w : Cond} (h : w ∈ tables_1_3) : w ∈ lw_tbl := List.mem_append_right _ (List.mem_append_right _ (List.mem_append_right _ (List.mem_append_left _ h)))
theorem tb_4 {w : Cond} (h : w ∈ tables_1_4) : w ∈ lw_tbl := List.mem_append_right _ (List.mem_append_right _ (List.mem_append_right _ (List.mem_append_right _ (h))))
theorem tb_p1 {w : Cond} (h : w ∈ k2_sels lw_privs_1) : w ∈ lw_tbl := by
  refine List.mem_append_left _ ?_
  obtain ⟨q, hq, e⟩ := List.mem_map.mp h
  exact List.mem_map.mpr ⟨q, (show q ∈ lw_privs from (by unfold lw_privs; exact List.mem_append_left _ hq)), e⟩
theorem tb_p2 {w : Cond} (h : w ∈ k2_sels lw_privs_2) : w ∈ lw_tbl := by
  refine List.mem_append_left _ ?_
  obtain ⟨q, hq, e⟩ := List.mem_map.mp h
  exact List.mem_map.mpr ⟨q, (show q ∈ lw_privs from (by unfold lw_privs; exact List.mem_append_right _ (List.mem_append_left _ hq))), e⟩
theorem tb_p3 {w : Cond} (h : w ∈ k2_sels lw_privs_3) : w ∈ lw_tbl := by
  refine List.mem_append_left _ ?_
  obtain ⟨q, hq, e⟩ := List.mem_map.mp h
  exact List.mem_map.mpr ⟨q, (show q ∈ lw_privs from (by unfold lw_privs; exact List.mem_append_right _ (List.mem_append_right _ (hq)))), e⟩
def wA : List Cond := lw_tbl.filter goodWord
theorem wA_m {w : Cond} (h : w ∈ lw_tbl) (g : goodWord w = true) : w ∈ wA := List.mem_filter.mpr ⟨h, g⟩
theorem wA_tbl {w : Cond} (h : w ∈ wA) : w ∈ lw_tbl := (List.mem_filter.mp h).1
theorem wA_good : GoodIn wA wA := fun w h => ⟨h, good_of_word (List.mem_filter.mp h).2⟩
theorem gdC {w : Cond} (h : w ∈ wA) : GoodIn wA (w :: wA) := fun v hv => (List.mem_cons.mp hv).elim (fun q => q ▸ wA_good w h) (wA_good v)
theorem gdV {own C : String} {i : Nat} {y : MethodName} {w : Cond} (h1 : .methodLink own i y ∈ wA) (h2 : .instanceMethod y ∈ wA) (h3 : .selects C y y ∈ wA) (h4 : .initialized C ∈ wA) (h5 : w ∈ wA) : GoodIn wA (wsV own i C y (w :: wA)) := by
  intro v hv
  rcases List.mem_append.mp hv with h | h
  · simp only [List.mem_cons, List.not_mem_nil, or_false] at h
    rcases h with rfl | rfl | rfl | rfl
    · exact wA_good _ h1
    · exact wA_good _ h2
    · exact wA_good _ h3
    · exact wA_good _ h4
  · exact gdC h5 v h
theorem gdS {own : String} {i : Nat} {y : MethodName} {w : Cond} (h1 : .methodLink own i y ∈ wA) (h2 : .static y ∈ wA) (h3 : .initialized own ∈ wA) (h5 : w ∈ wA) : GoodIn wA (wsS own i y (w :: wA)) := by
  intro v hv
  rcases List.mem_append.mp hv with h | h
  · simp only [List.mem_cons, List.not_mem_nil, or_false] at h
    rcases h with rfl | rfl | rfl
    · exact wA_good _ h1
    · exact wA_good _ h2
    · exact wA_good _ h3
  · exact gdC h5 v h
def RcB : String := "TermServer$Bits"
def FcB : u_T := fun k => match k with
  | 0 => ("TermServer$Bits", "width", "I", true)
  | 1 => ("TermServer$Bits", "wordsARow", "I", true)
  | _ => ("TermServer$Bits", "words", "[J", true)
def tcB : Nat → FieldType := fun k => match k with
  | 0 => .int
  | 1 => .int
  | _ => .array .long
theorem nmB : ∀ a, a < 3 → ∀ b, b < 3 → a ≠ b → (FcB a).2.1 ≠ (FcB b).2.1 := by decide +kernel
theorem okB : ∀ k, k < 3 → parseFieldDescriptor (FcB k).2.2.1 = some (tcB k) := by decide +kernel
theorem inB : ∀ w ∈ u_ws RcB FcB 3, w ∈ wA := fun w h => wA_m (List.mem_append_right _ ((by decide +kernel : ∀ w ∈ u_ws RcB FcB 3, w ∈ tables_1) w h)) ((by decide +kernel : ∀ w ∈ u_ws RcB FcB 3, goodWord w = true) w h)
def RcT : String := "TermServer$Terms"
def FcT : u_T := fun k => match k with
  | 0 => ("TermServer$Terms", "kinds", "[I", true)
  | 1 => ("TermServer$Terms", "lefts", "[I", true)
  | 2 => ("TermServer$Terms", "rights", "[I", true)
  | 3 => ("TermServer$Terms", "somes", "[I", true)
  | 4 => ("TermServer$Terms", "boths", "LTermServer$Bits;", true)
  | 5 => ("TermServer$Terms", "fillers", "LTermServer$Bits;", true)
  | 6 => ("TermServer$Terms", "size", "I", false)
  | _ => ("TermServer$Terms", "names", "I", false)
def tcT : Nat → FieldType := fun k => match k with
  | 0 => .array .int
  | 1 => .array .int
  | 2 => .array .int
  | 3 => .array .int
  | 4 => .object "TermServer$Bits"
  | 5 => .object "TermServer$Bits"
  | 6 => .int
  | _ => .int
theorem nmT : ∀ a, a < 8 → ∀ b, b < 8 → a ≠ b → (FcT a).2.1 ≠ (FcT b).2.1 := by decide +kernel
theorem okT : ∀ k, k < 8 → parseFieldDescriptor (FcT k).2.2.1 = some (tcT k) := by decide +kernel
theorem inT : ∀ w ∈ u_ws RcT FcT 8, w ∈ wA := fun w h => wA_m (List.mem_append_right _ ((by decide +kernel : ∀ w ∈ u_ws RcT FcT 8, w ∈ tables_1) w h)) ((by decide +kernel : ∀ w ∈ u_ws RcT FcT 8, goodWord w = true) w h)
def RcA : String := "TermServer$Axioms"
def FcA : u_T := fun k => match k with
  | 0 => ("TermServer$Axioms", "kinds", "[I", true)
  | 1 => ("TermServer$Axioms", "firsts", "[I", true)
  | 2 => ("TermServer$Axioms", "seconds", "[I", true)
  | 3 => ("TermServer$Axioms", "thirds", "[I", true)
  | 4 => ("TermServer$Axioms", "takenBack", "[Z", true)
  | 5 => ("TermServer$Axioms", "told", "I", false)
  | _ => ("TermServer$Axioms", "inForce", "I", false)
def tcA : Nat → FieldType := fun k => match k with
  | 0 => .array .int
  | 1 => .array .int
  | 2 => .array .int
  | 3 => .array .int
  | 4 => .array .boolean
  | 5 => .int
  | _ => .int
theorem nmA : ∀ a, a < 7 → ∀ b, b < 7 → a ≠ b → (FcA a).2.1 ≠ (FcA b).2.1 := by decide +kernel
theorem okA : ∀ k, k < 7 → parseFieldDescriptor (FcA k).2.2.1 = some (tcA k) := by decide +kernel
theorem inA : ∀ w ∈ u_ws RcA FcA 7, w ∈ wA := fun w h => wA_m (List.mem_append_right _ ((by decide +kernel : ∀ w ∈ u_ws RcA FcA 7, w ∈ tables_1) w h)) ((by decide +kernel : ∀ w ∈ u_ws RcA FcA 7, goodWord w = true) w h)
def RcC : String := "TermServer$Closure"
def FcC : u_T := fun k => match k with
  | 0 => ("TermServer$Closure", "terms", "LTermServer$Terms;", true)
  | 1 => ("TermServer$Closure", "axioms", "LTermServer$Axioms;", true)
  | 2 => ("TermServer$Closure", "facts", "LTermServer$Bits;", true)
  | 3 => ("TermServer$Closure", "sources", "LTermServer$Bits;", true)
  | 4 => ("TermServer$Closure", "fresh", "LTermServer$Bits;", true)
  | 5 => ("TermServer$Closure", "freshRows", "LTermServer$Bits;", true)
  | 6 => ("TermServer$Closure", "toldAbove", "LTermServer$Bits;", true)
  | 7 => ("TermServer$Closure", "toldRoles", "LTermServer$Bits;", true)
  | 8 => ("TermServer$Closure", "toldChains", "LTermServer$Bits;", true)
  | 9 => ("TermServer$Closure", "admitted", "I", false)
  | 10 => ("TermServer$Closure", "heard", "I", false)
  | _ => ("TermServer$Closure", "spoiled", "Z", false)
def tcC : Nat → FieldType := fun k => match k with
  | 0 => .object "TermServer$Terms"
  | 1 => .object "TermServer$Axioms"
  | 2 => .object "TermServer$Bits"
  | 3 => .object "TermServer$Bits"
  | 4 => .object "TermServer$Bits"
  | 5 => .object "TermServer$Bits"
  | 6 => .object "TermServer$Bits"
  | 7 => .object "TermServer$Bits"
  | 8 => .object "TermServer$Bits"
  | 9 => .int
  | 10 => .int
  | _ => .boolean
theorem nmC : ∀ a, a < 12 → ∀ b, b < 12 → a ≠ b → (FcC a).2.1 ≠ (FcC b).2.1 := by decide +kernel
theorem okC : ∀ k, k < 12 → parseFieldDescriptor (FcC k).2.2.1 = some (tcC k) := by decide +kernel
theorem inC : ∀ w ∈ u_ws RcC FcC 12, w ∈ wA := fun w h => wA_m (List.mem_append_right _ ((by decide +kernel : ∀ w ∈ u_ws RcC FcC 12, w ∈ tables_1) w h)) ((by decide +kernel : ∀ w ∈ u_ws RcC FcC 12, goodWord w = true) w h)
def RcS : String := "TermServer"
def FcS : u_T := fun k => match k with
  | 0 => ("TermServer", "terms", "LTermServer$Terms;", true)
  | 1 => ("TermServer", "axioms", "LTermServer$Axioms;", true)
  | 2 => ("TermServer", "closure", "LTermServer$Closure;", true)
  | 3 => ("TermServer", "reasons", "[I", true)
  | _ => ("TermServer", "reasonCount", "I", false)
def tcS : Nat → FieldType := fun k => match k with
  | 0 => .object "TermServer$Terms"
  | 1 => .object "TermServer$Axioms"
  | 2 => .object "TermServer$Closure"
  | 3 => .array .int
  | _ => .int
theorem nmS : ∀ a, a < 5 → ∀ b, b < 5 → a ≠ b → (FcS a).2.1 ≠ (FcS b).2.1 := by decide +kernel
theorem okS : ∀ k, k < 5 → parseFieldDescriptor (FcS k).2.2.1 = some (tcS k) := by decide +kernel
theorem inS : ∀ w ∈ u_ws RcS FcS 5, w ∈ wA := fun w h => wA_m (List.mem_append_right _ ((by decide +kernel : ∀ w ∈ u_ws RcS FcS 5, w ∈ tables_1) w h)) ((by decide +kernel : ∀ w ∈ u_ws RcS FcS 5, goodWord w = true) w h)
def RcM : String := "TermServerModel"
def FcM : u_T := fun k => match k with
  | 0 => ("TermServerModel", "thrown", "I", false)
  | 1 => ("TermServerModel", "size", "I", false)
  | 2 => ("TermServerModel", "kinds", "[I", true)
  | 3 => ("TermServerModel", "firsts", "[I", true)
  | 4 => ("TermServerModel", "seconds", "[I", true)
  | 5 => ("TermServerModel", "told", "I", false)
  | 6 => ("TermServerModel", "sorts", "[I", true)
  | 7 => ("TermServerModel", "as", "[I", true)
  | 8 => ("TermServerModel", "bs", "[I", true)
  | 9 => ("TermServerModel", "cs", "[I", true)
  | 10 => ("TermServerModel", "force", "[Z", true)
  | 11 => ("TermServerModel", "used", "[Z", true)
  | 12 => ("TermServerModel", "closed", "Z", false)
  | 13 => ("TermServerModel", "more", "Z", false)
  | 14 => ("TermServerModel", "above", "[J", true)
  | 15 => ("TermServerModel", "below", "[J", true)
  | 16 => ("TermServerModel", "leads", "[J", true)
  | 17 => ("TermServerModel", "many", "I", false)
  | _ => ("TermServerModel", "reasons", "[I", true)
def tcM : Nat → FieldType := fun k => match k with
  | 0 => .int
  | 1 => .int
  | 2 => .array .int
  | 3 => .array .int
  | 4 => .array .int
  | 5 => .int
  | 6 => .array .int
  | 7 => .array .int
  | 8 => .array .int
  | 9 => .array .int
  | 10 => .array .boolean
  | 11 => .array .boolean
  | 12 => .boolean
  | 13 => .boolean
  | 14 => .array .long
  | 15 => .array .long
  | 16 => .array .long
  | 17 => .int
  | _ => .array .int
theorem nmM : ∀ a, a < 19 → ∀ b, b < 19 → a ≠ b → (FcM a).2.1 ≠ (FcM b).2.1 := by decide +kernel
theorem okM : ∀ k, k < 19 → parseFieldDescriptor (FcM k).2.2.1 = some (tcM k) := by decide +kernel
theorem inM : ∀ w ∈ u_ws RcM FcM 19, w ∈ wA := fun w h => wA_m (List.mem_append_right _ ((by decide +kernel : ∀ w ∈ u_ws RcM FcM 19, w ∈ tables_1) w h)) ((by decide +kernel : ∀ w ∈ u_ws RcM FcM 19, goodWord w = true) w h)
def RcL : String := "TermServerLaw"
def RcJl : String := "java/lang/Long"
def RcJa : String := "java/util/Arrays"
def RcJm : String := "java/lang/Math"
abbrev vwA : List vw_C := [(RcB, FcB, 3), (RcT, FcT, 8), (RcA, FcA, 7), (RcC, FcC, 12), (RcS, FcS, 5), (RcM, FcM, 19)]
abbrev bS_init : ByteArray := prog_1_method_1_code
def yS_init : MethodName := ⟨RcS, "<init>", "()V"⟩
abbrev wS_init : Cond := .code yS_init bS_init 1 none
theorem mc_S_init : wS_init ∈ wA := wA_m (tb_1 (List.mem_of_getElem? (i := 18) rfl)) rfl
abbrev bT_init : ByteArray := prog_5_method_1_code
def yT_init : MethodName := ⟨RcT, "<init>", "()V"⟩
abbrev wT_init : Cond := .code yT_init bT_init 1 none
theorem mc_T_init : wT_init ∈ wA := wA_m (tb_1 (List.mem_of_getElem? (i := 26) rfl)) rfl
abbrev bB_init : ByteArray := prog_3_method_1_code
def yB_init : MethodName := ⟨RcB, "<init>", "(II)V"⟩
abbrev wB_init : Cond := .code yB_init bB_init 3 none
theorem mc_B_init : wB_init ∈ wA := wA_m (tb_1 (List.mem_of_getElem? (i := 32) rfl)) rfl
abbrev bJa_fill : ByteArray := prog_15_method_103_code
def yJa_fill : MethodName := ⟨RcJa, "fill", "([II)V"⟩
abbrev wJa_fill : Cond := .code yJa_fill bJa_fill 4 none
theorem mc_Ja_fill : wJa_fill ∈ wA := wA_m (tb_1 (List.mem_of_getElem? (i := 48) rfl)) rfl
abbrev bA_init : ByteArray := prog_2_method_1_code
def yA_init : MethodName := ⟨RcA, "<init>", "()V"⟩
abbrev wA_init : Cond := .code yA_init bA_init 1 none
theorem mc_A_init : wA_init ∈ wA := wA_m (tb_1 (List.mem_of_getElem? (i := 80) rfl)) rfl
abbrev bC_init : ByteArray := prog_4_method_1_code
def yC_init : MethodName := ⟨RcC, "<init>", "(LTermServer$Terms;LTermServer$Axioms;)V"⟩
abbrev wC_init : Cond := .code yC_init bC_init 3 none
theorem mc_C_init : wC_init ∈ wA := wA_m (tb_1 (List.mem_of_getElem? (i := 109) rfl)) rfl
abbrev bS_name : ByteArray := prog_1_method_2_code
def yS_name : MethodName := ⟨RcS, "name", "()I"⟩
abbrev wS_name : Cond := .code yS_name bS_name 1 (some .int)
theorem mc_S_name : wS_name ∈ wA := wA_m (tb_1 (List.mem_of_getElem? (i := 169) rfl)) rfl
abbrev bT_make : ByteArray := prog_5_method_11_code
def yT_make : MethodName := ⟨RcT, "make", "(III)I"⟩
abbrev wT_make : Cond := .code yT_make bT_make 5 (some .int)
theorem mc_T_make : wT_make ∈ wA := wA_m (tb_1 (List.mem_of_getElem? (i := 173) rfl)) rfl
abbrev bB_put : ByteArray := prog_3_method_3_code
def yB_put : MethodName := ⟨RcB, "put", "(II)Z"⟩
abbrev wB_put : Cond := .code yB_put bB_put 6 (some .boolean)
theorem mc_B_put : wB_put ∈ wA := wA_m (tb_1 (List.mem_of_getElem? (i := 177) rfl)) rfl
abbrev bS_retract : ByteArray := prog_1_method_9_code
def yS_retract : MethodName := ⟨RcS, "retract", "(I)Z"⟩
abbrev wS_retract : Cond := .code yS_retract bS_retract 2 (some .boolean)
theorem mc_S_retract : wS_retract ∈ wA := wA_m (tb_1 (List.mem_of_getElem? (i := 181) rfl)) rfl
abbrev bA_isInForce : ByteArray := prog_2_method_8_code
def yA_isInForce : MethodName := ⟨RcA, "isInForce", "(I)Z"⟩
abbrev wA_isInForce : Cond := .code yA_isInForce bA_isInForce 2 (some .boolean)
theorem mc_A_isInForce : wA_isInForce ∈ wA := wA_m (tb_1 (List.mem_of_getElem? (i := 185) rfl)) rfl
abbrev bA_takeBack : ByteArray := prog_2_method_10_code
def yA_takeBack : MethodName := ⟨RcA, "takeBack", "(I)V"⟩
abbrev wA_takeBack : Cond := .code yA_takeBack bA_takeBack 2 none
theorem mc_A_takeBack : wA_takeBack ∈ wA := wA_m (tb_1 (List.mem_of_getElem? (i := 189) rfl)) rfl
abbrev bC_spoil : ByteArray := prog_4_method_2_code
def yC_spoil : MethodName := ⟨RcC, "spoil", "()V"⟩
abbrev wC_spoil : Cond := .code yC_spoil bC_spoil 1 none
theorem mc_C_spoil : wC_spoil ∈ wA := wA_m (tb_1 (List.mem_of_getElem? (i := 193) rfl)) rfl
abbrev bS_reason : ByteArray := prog_1_method_17_code
def yS_reason : MethodName := ⟨RcS, "reason", "(I)I"⟩
abbrev wS_reason : Cond := .code yS_reason bS_reason 2 (some .int)
theorem mc_S_reason : wS_reason ∈ wA := wA_m (tb_1 (List.mem_of_getElem? (i := 197) rfl)) rfl
abbrev bS_count : ByteArray := prog_1_method_19_code
def yS_count : MethodName := ⟨RcS, "count", "(I)I"⟩
abbrev wS_count : Cond := .code yS_count bS_count 2 (some .int)
theorem mc_S_count : wS_count ∈ wA := wA_m (tb_1 (List.mem_of_getElem? (i := 201) rfl)) rfl
abbrev bC_placeAll : ByteArray := prog_4_method_8_code
def yC_placeAll : MethodName := ⟨RcC, "placeAll", "()V"⟩
abbrev wC_placeAll : Cond := .code yC_placeAll bC_placeAll 2 none
theorem mc_C_placeAll : wC_placeAll ∈ wA := wA_m (tb_1 (List.mem_of_getElem? (i := 205) rfl)) rfl
abbrev bC_catchUp : ByteArray := prog_4_method_14_code
def yC_catchUp : MethodName := ⟨RcC, "catchUp", "()V"⟩
abbrev wC_catchUp : Cond := .code yC_catchUp bC_catchUp 2 none
theorem mc_C_catchUp : wC_catchUp ∈ wA := wA_m (tb_1 (List.mem_of_getElem? (i := 209) rfl)) rfl
abbrev bC_forget : ByteArray := prog_4_method_9_code
def yC_forget : MethodName := ⟨RcC, "forget", "()V"⟩
abbrev wC_forget : Cond := .code yC_forget bC_forget 2 none
theorem mc_C_forget : wC_forget ∈ wA := wA_m (tb_1 (List.mem_of_getElem? (i := 213) rfl)) rfl
abbrev bT_size : ByteArray := prog_5_method_2_code
def yT_size : MethodName := ⟨RcT, "size", "()I"⟩
abbrev wT_size : Cond := .code yT_size bT_size 1 (some .int)
theorem mc_T_size : wT_size ∈ wA := wA_m (tb_1 (List.mem_of_getElem? (i := 217) rfl)) rfl
abbrev bB_clear : ByteArray := prog_3_method_7_code
def yB_clear : MethodName := ⟨RcB, "clear", "(I)V"⟩
abbrev wB_clear : Cond := .code yB_clear bB_clear 4 none
theorem mc_B_clear : wB_clear ∈ wA := wA_m (tb_1 (List.mem_of_getElem? (i := 221) rfl)) rfl
abbrev bJm_min : ByteArray := prog_11_method_69_code
def yJm_min : MethodName := ⟨RcJm, "min", "(II)I"⟩
abbrev wJm_min : Cond := .code yJm_min bJm_min 2 (some .int)
theorem mc_Jm_min : wJm_min ∈ wA := wA_m (tb_1 (List.mem_of_getElem? (i := 224) rfl)) rfl
abbrev bT_kind : ByteArray := prog_5_method_4_code
def yT_kind : MethodName := ⟨RcT, "kind", "(I)I"⟩
abbrev wT_kind : Cond := .code yT_kind bT_kind 2 (some .int)
theorem mc_T_kind : wT_kind ∈ wA := wA_m (tb_1 (List.mem_of_getElem? (i := 228) rfl)) rfl
abbrev bC_admitBoth : ByteArray := prog_4_method_15_code
def yC_admitBoth : MethodName := ⟨RcC, "admitBoth", "(I)V"⟩
abbrev wC_admitBoth : Cond := .code yC_admitBoth bC_admitBoth 4 none
theorem mc_C_admitBoth : wC_admitBoth ∈ wA := wA_m (tb_1 (List.mem_of_getElem? (i := 232) rfl)) rfl
abbrev bT_left : ByteArray := prog_5_method_6_code
def yT_left : MethodName := ⟨RcT, "left", "(I)I"⟩
abbrev wT_left : Cond := .code yT_left bT_left 2 (some .int)
theorem mc_T_left : wT_left ∈ wA := wA_m (tb_1 (List.mem_of_getElem? (i := 236) rfl)) rfl
abbrev bC_row : ByteArray := prog_4_method_13_code
def yC_row : MethodName := ⟨RcC, "row", "(II)I"⟩
abbrev wC_row : Cond := .code yC_row bC_row 2 (some .int)
theorem mc_C_row : wC_row ∈ wA := wA_m (tb_1 (List.mem_of_getElem? (i := 239) rfl)) rfl
abbrev bB_next : ByteArray := prog_3_method_5_code
def yB_next : MethodName := ⟨RcB, "next", "(II)I"⟩
abbrev wB_next : Cond := .code yB_next bB_next 6 (some .int)
theorem mc_B_next : wB_next ∈ wA := wA_m (tb_2 (List.mem_of_getElem? (i := 3) rfl)) rfl
abbrev bJl_bitCount : ByteArray := prog_10_method_50_code
def yJl_bitCount : MethodName := ⟨RcJl, "bitCount", "(J)I"⟩
abbrev wJl_bitCount : Cond := .code yJl_bitCount bJl_bitCount 2 (some .int)
theorem mc_Jl_bitCount : wJl_bitCount ∈ wA := wA_m (tb_2 (List.mem_of_getElem? (i := 6) rfl)) rfl
abbrev bT_right : ByteArray := prog_5_method_7_code
def yT_right : MethodName := ⟨RcT, "right", "(I)I"⟩
abbrev wT_right : Cond := .code yT_right bT_right 2 (some .int)
theorem mc_T_right : wT_right ∈ wA := wA_m (tb_2 (List.mem_of_getElem? (i := 13) rfl)) rfl
abbrev bB_holds : ByteArray := prog_3_method_2_code
def yB_holds : MethodName := ⟨RcB, "holds", "(II)Z"⟩
abbrev wB_holds : Cond := .code yB_holds bB_holds 3 (some .boolean)
theorem mc_B_holds : wB_holds ∈ wA := wA_m (tb_2 (List.mem_of_getElem? (i := 17) rfl)) rfl
abbrev bC_add : ByteArray := prog_4_method_23_code
def yC_add : MethodName := ⟨RcC, "add", "(III)V"⟩
abbrev wC_add : Cond := .code yC_add bC_add 5 none
theorem mc_C_add : wC_add ∈ wA := wA_m (tb_2 (List.mem_of_getElem? (i := 21) rfl)) rfl
abbrev bC_admitSome : ByteArray := prog_4_method_16_code
def yC_admitSome : MethodName := ⟨RcC, "admitSome", "(I)V"⟩
abbrev wC_admitSome : Cond := .code yC_admitSome bC_admitSome 4 none
theorem mc_C_admitSome : wC_admitSome ∈ wA := wA_m (tb_2 (List.mem_of_getElem? (i := 26) rfl)) rfl
abbrev bC_addFromAll : ByteArray := prog_4_method_25_code
def yC_addFromAll : MethodName := ⟨RcC, "addFromAll", "(III)V"⟩
abbrev wC_addFromAll : Cond := .code yC_addFromAll bC_addFromAll 6 none
theorem mc_C_addFromAll : wC_addFromAll ∈ wA := wA_m (tb_2 (List.mem_of_getElem? (i := 30) rfl)) rfl
abbrev bB_nextBeyond : ByteArray := prog_3_method_6_code
def yB_nextBeyond : MethodName := ⟨RcB, "nextBeyond", "(IILTermServer$Bits;I)I"⟩
abbrev wB_nextBeyond : Cond := .code yB_nextBeyond bB_nextBeyond 9 (some .int)
theorem mc_B_nextBeyond : wB_nextBeyond ∈ wA := wA_m (tb_2 (List.mem_of_getElem? (i := 34) rfl)) rfl
abbrev bA_told : ByteArray := prog_2_method_2_code
def yA_told : MethodName := ⟨RcA, "told", "()I"⟩
abbrev wA_told : Cond := .code yA_told bA_told 1 (some .int)
theorem mc_A_told : wA_told ∈ wA := wA_m (tb_2 (List.mem_of_getElem? (i := 39) rfl)) rfl
abbrev bC_hear : ByteArray := prog_4_method_11_code
def yC_hear : MethodName := ⟨RcC, "hear", "(I)V"⟩
abbrev wC_hear : Cond := .code yC_hear bC_hear 7 none
theorem mc_C_hear : wC_hear ∈ wA := wA_m (tb_2 (List.mem_of_getElem? (i := 44) rfl)) rfl
abbrev bA_first : ByteArray := prog_2_method_5_code
def yA_first : MethodName := ⟨RcA, "first", "(I)I"⟩
abbrev wA_first : Cond := .code yA_first bA_first 2 (some .int)
theorem mc_A_first : wA_first ∈ wA := wA_m (tb_2 (List.mem_of_getElem? (i := 48) rfl)) rfl
abbrev bA_second : ByteArray := prog_2_method_6_code
def yA_second : MethodName := ⟨RcA, "second", "(I)I"⟩
abbrev wA_second : Cond := .code yA_second bA_second 2 (some .int)
theorem mc_A_second : wA_second ∈ wA := wA_m (tb_2 (List.mem_of_getElem? (i := 52) rfl)) rfl
abbrev bA_kind : ByteArray := prog_2_method_4_code
def yA_kind : MethodName := ⟨RcA, "kind", "(I)I"⟩
abbrev wA_kind : Cond := .code yA_kind bA_kind 2 (some .int)
theorem mc_A_kind : wA_kind ∈ wA := wA_m (tb_2 (List.mem_of_getElem? (i := 56) rfl)) rfl
abbrev bA_third : ByteArray := prog_2_method_7_code
def yA_third : MethodName := ⟨RcA, "third", "(I)I"⟩
abbrev wA_third : Cond := .code yA_third bA_third 2 (some .int)
theorem mc_A_third : wA_third ∈ wA := wA_m (tb_2 (List.mem_of_getElem? (i := 60) rfl)) rfl
abbrev bC_begin : ByteArray := prog_4_method_10_code
def yC_begin : MethodName := ⟨RcC, "begin", "(I)V"⟩
abbrev wC_begin : Cond := .code yC_begin bC_begin 2 none
theorem mc_C_begin : wC_begin ∈ wA := wA_m (tb_2 (List.mem_of_getElem? (i := 64) rfl)) rfl
abbrev bC_saturate : ByteArray := prog_4_method_12_code
def yC_saturate : MethodName := ⟨RcC, "saturate", "()V"⟩
abbrev wC_saturate : Cond := .code yC_saturate bC_saturate 6 none
theorem mc_C_saturate : wC_saturate ∈ wA := wA_m (tb_2 (List.mem_of_getElem? (i := 68) rfl)) rfl
abbrev bB_drop : ByteArray := prog_3_method_4_code
def yB_drop : MethodName := ⟨RcB, "drop", "(II)V"⟩
abbrev wB_drop : Cond := .code yB_drop bB_drop 3 none
theorem mc_B_drop : wB_drop ∈ wA := wA_m (tb_2 (List.mem_of_getElem? (i := 73) rfl)) rfl
abbrev bC_emptySources : ByteArray := prog_4_method_17_code
def yC_emptySources : MethodName := ⟨RcC, "emptySources", "(I)V"⟩
abbrev wC_emptySources : Cond := .code yC_emptySources bC_emptySources 3 none
theorem mc_C_emptySources : wC_emptySources ∈ wA := wA_m (tb_2 (List.mem_of_getElem? (i := 77) rfl)) rfl
abbrev bC_isEmpty : ByteArray := prog_4_method_3_code
def yC_isEmpty : MethodName := ⟨RcC, "isEmpty", "(I)Z"⟩
abbrev wC_isEmpty : Cond := .code yC_isEmpty bC_isEmpty 2 (some .boolean)
theorem mc_C_isEmpty : wC_isEmpty ∈ wA := wA_m (tb_2 (List.mem_of_getElem? (i := 81) rfl)) rfl
abbrev bC_addAll : ByteArray := prog_4_method_24_code
def yC_addAll : MethodName := ⟨RcC, "addAll", "(IILTermServer$Bits;I)V"⟩
abbrev wC_addAll : Cond := .code yC_addAll bC_addAll 7 none
theorem mc_C_addAll : wC_addAll ∈ wA := wA_m (tb_2 (List.mem_of_getElem? (i := 85) rfl)) rfl
abbrev bC_drawParts : ByteArray := prog_4_method_18_code
def yC_drawParts : MethodName := ⟨RcC, "drawParts", "(II)V"⟩
abbrev wC_drawParts : Cond := .code yC_drawParts bC_drawParts 3 none
theorem mc_C_drawParts : wC_drawParts ∈ wA := wA_m (tb_2 (List.mem_of_getElem? (i := 89) rfl)) rfl
abbrev bC_drawBoths : ByteArray := prog_4_method_19_code
def yC_drawBoths : MethodName := ⟨RcC, "drawBoths", "(II)V"⟩
abbrev wC_drawBoths : Cond := .code yC_drawBoths bC_drawBoths 5 none
theorem mc_C_drawBoths : wC_drawBoths ∈ wA := wA_m (tb_2 (List.mem_of_getElem? (i := 93) rfl)) rfl
abbrev bT_otherPart : ByteArray := prog_5_method_10_code
def yT_otherPart : MethodName := ⟨RcT, "otherPart", "(II)I"⟩
abbrev wT_otherPart : Cond := .code yT_otherPart bT_otherPart 3 (some .int)
theorem mc_T_otherPart : wT_otherPart ∈ wA := wA_m (tb_2 (List.mem_of_getElem? (i := 97) rfl)) rfl
abbrev bC_drawSomes : ByteArray := prog_4_method_20_code
def yC_drawSomes : MethodName := ⟨RcC, "drawSomes", "(II)V"⟩
abbrev wC_drawSomes : Cond := .code yC_drawSomes bC_drawSomes 5 none
theorem mc_C_drawSomes : wC_drawSomes ∈ wA := wA_m (tb_2 (List.mem_of_getElem? (i := 101) rfl)) rfl
abbrev bT_findSome : ByteArray := prog_5_method_8_code
def yT_findSome : MethodName := ⟨RcT, "findSome", "(II)I"⟩
abbrev wT_findSome : Cond := .code yT_findSome bT_findSome 3 (some .int)
theorem mc_T_findSome : wT_findSome ∈ wA := wA_m (tb_2 (List.mem_of_getElem? (i := 105) rfl)) rfl
abbrev bC_drawFromLink : ByteArray := prog_4_method_21_code
def yC_drawFromLink : MethodName := ⟨RcC, "drawFromLink", "(III)V"⟩
abbrev wC_drawFromLink : Cond := .code yC_drawFromLink bC_drawFromLink 7 none
theorem mc_C_drawFromLink : wC_drawFromLink ∈ wA := wA_m (tb_2 (List.mem_of_getElem? (i := 109) rfl)) rfl
abbrev bC_drawFromChains : ByteArray := prog_4_method_22_code
def yC_drawFromChains : MethodName := ⟨RcC, "drawFromChains", "(III)V"⟩
abbrev wC_drawFromChains : Cond := .code yC_drawFromChains bC_drawFromChains 8 none
theorem mc_C_drawFromChains : wC_drawFromChains ∈ wA := wA_m (tb_2 (List.mem_of_getElem? (i := 113) rfl)) rfl
abbrev bT_names : ByteArray := prog_5_method_3_code
def yT_names : MethodName := ⟨RcT, "names", "()I"⟩
abbrev wT_names : Cond := .code yT_names bT_names 1 (some .int)
theorem mc_T_names : wT_names ∈ wA := wA_m (tb_2 (List.mem_of_getElem? (i := 118) rfl)) rfl
abbrev bA_inForce : ByteArray := prog_2_method_3_code
def yA_inForce : MethodName := ⟨RcA, "inForce", "()I"⟩
abbrev wA_inForce : Cond := .code yA_inForce bA_inForce 1 (some .int)
theorem mc_A_inForce : wA_inForce ∈ wA := wA_m (tb_2 (List.mem_of_getElem? (i := 123) rfl)) rfl
abbrev bS_countPairs : ByteArray := prog_1_method_28_code
def yS_countPairs : MethodName := ⟨RcS, "countPairs", "()I"⟩
abbrev wS_countPairs : Cond := .code yS_countPairs bS_countPairs 4 (some .int)
theorem mc_S_countPairs : wS_countPairs ∈ wA := wA_m (tb_2 (List.mem_of_getElem? (i := 127) rfl)) rfl
abbrev bC_covers : ByteArray := prog_4_method_4_code
def yC_covers : MethodName := ⟨RcC, "covers", "(II)Z"⟩
abbrev wC_covers : Cond := .code yC_covers bC_covers 3 (some .boolean)
theorem mc_C_covers : wC_covers ∈ wA := wA_m (tb_2 (List.mem_of_getElem? (i := 131) rfl)) rfl
abbrev bS_countEmpty : ByteArray := prog_1_method_29_code
def yS_countEmpty : MethodName := ⟨RcS, "countEmpty", "()I"⟩
abbrev wS_countEmpty : Cond := .code yS_countEmpty bS_countEmpty 3 (some .int)
theorem mc_S_countEmpty : wS_countEmpty ∈ wA := wA_m (tb_2 (List.mem_of_getElem? (i := 135) rfl)) rfl
abbrev bS_countClasses : ByteArray := prog_1_method_30_code
def yS_countClasses : MethodName := ⟨RcS, "countClasses", "()I"⟩
abbrev wS_countClasses : Cond := .code yS_countClasses bS_countClasses 3 (some .int)
theorem mc_S_countClasses : wS_countClasses ∈ wA := wA_m (tb_2 (List.mem_of_getElem? (i := 140) rfl)) rfl
abbrev bS_leastEqual : ByteArray := prog_1_method_26_code
def yS_leastEqual : MethodName := ⟨RcS, "leastEqual", "(I)I"⟩
abbrev wS_leastEqual : Cond := .code yS_leastEqual bS_leastEqual 3 (some .int)
theorem mc_S_leastEqual : wS_leastEqual ∈ wA := wA_m (tb_2 (List.mem_of_getElem? (i := 144) rfl)) rfl
abbrev bL_both : ByteArray := method_3_code
def yL_both : MethodName := ⟨RcL, "both", "(LTermServer;II[J)I"⟩
abbrev bS_both : ByteArray := prog_1_method_3_code
def yS_both : MethodName := ⟨RcS, "both", "(II)I"⟩
abbrev wS_both : Cond := .code yS_both bS_both 4 (some .int)
theorem mc_S_both : wS_both ∈ wA := wA_m (tb_2 (List.mem_of_getElem? (i := 152) rfl)) rfl
abbrev bS_checkTerm : ByteArray := prog_1_method_20_code
def yS_checkTerm : MethodName := ⟨RcS, "checkTerm", "(I)V"⟩
abbrev wS_checkTerm : Cond := .code yS_checkTerm bS_checkTerm 2 none
theorem mc_S_checkTerm : wS_checkTerm ∈ wA := wA_m (tb_2 (List.mem_of_getElem? (i := 156) rfl)) rfl
abbrev bT_findBoth : ByteArray := prog_5_method_9_code
def yT_findBoth : MethodName := ⟨RcT, "findBoth", "(II)I"⟩
abbrev wT_findBoth : Cond := .code yT_findBoth bT_findBoth 4 (some .int)
theorem mc_T_findBoth : wT_findBoth ∈ wA := wA_m (tb_2 (List.mem_of_getElem? (i := 226) rfl)) rfl
abbrev bL_some : ByteArray := method_4_code
def yL_some : MethodName := ⟨RcL, "some", "(LTermServer;II[J)I"⟩
abbrev bS_some : ByteArray := prog_1_method_4_code
def yS_some : MethodName := ⟨RcS, "some", "(II)I"⟩
abbrev wS_some : Cond := .code yS_some bS_some 4 (some .int)
theorem mc_S_some : wS_some ∈ wA := wA_m (tb_2 (List.mem_of_getElem? (i := 234) rfl)) rfl
abbrev bS_checkRole : ByteArray := prog_1_method_21_code
def yS_checkRole : MethodName := ⟨RcS, "checkRole", "(I)V"⟩
abbrev wS_checkRole : Cond := .code yS_checkRole bS_checkRole 1 none
theorem mc_S_checkRole : wS_checkRole ∈ wA := wA_m (tb_2 (List.mem_of_getElem? (i := 237) rfl)) rfl
abbrev bL_below : ByteArray := method_5_code
def yL_below : MethodName := ⟨RcL, "below", "(LTermServer;II[J)I"⟩
abbrev bS_below : ByteArray := prog_1_method_5_code
def yS_below : MethodName := ⟨RcS, "below", "(II)I"⟩
abbrev wS_below : Cond := .code yS_below bS_below 3 (some .int)
theorem mc_S_below : wS_below ∈ wA := wA_m (tb_3 (List.mem_of_getElem? (i := 6) rfl)) rfl
abbrev bA_tell : ByteArray := prog_2_method_9_code
def yA_tell : MethodName := ⟨RcA, "tell", "(IIII)I"⟩
abbrev wA_tell : Cond := .code yA_tell bA_tell 5 (some .int)
theorem mc_A_tell : wA_tell ∈ wA := wA_m (tb_3 (List.mem_of_getElem? (i := 10) rfl)) rfl
abbrev bL_equal : ByteArray := method_6_code
def yL_equal : MethodName := ⟨RcL, "equal", "(LTermServer;II[J)I"⟩
abbrev bS_equal : ByteArray := prog_1_method_6_code
def yS_equal : MethodName := ⟨RcS, "equal", "(II)I"⟩
abbrev wS_equal : Cond := .code yS_equal bS_equal 3 (some .int)
theorem mc_S_equal : wS_equal ∈ wA := wA_m (tb_3 (List.mem_of_getElem? (i := 17) rfl)) rfl
abbrev bL_roleBelow : ByteArray := method_7_code
def yL_roleBelow : MethodName := ⟨RcL, "roleBelow", "(LTermServer;II[J)I"⟩
abbrev bS_roleBelow : ByteArray := prog_1_method_7_code
def yS_roleBelow : MethodName := ⟨RcS, "roleBelow", "(II)I"⟩
abbrev wS_roleBelow : Cond := .code yS_roleBelow bS_roleBelow 3 (some .int)
theorem mc_S_roleBelow : wS_roleBelow ∈ wA := wA_m (tb_3 (List.mem_of_getElem? (i := 24) rfl)) rfl
abbrev bL_chain : ByteArray := method_8_code
def yL_chain : MethodName := ⟨RcL, "chain", "(LTermServer;III[J)I"⟩
abbrev bS_chain : ByteArray := prog_1_method_8_code
def yS_chain : MethodName := ⟨RcS, "chain", "(III)I"⟩
abbrev wS_chain : Cond := .code yS_chain bS_chain 4 (some .int)
theorem mc_S_chain : wS_chain ∈ wA := wA_m (tb_3 (List.mem_of_getElem? (i := 31) rfl)) rfl
abbrev bL_isBelow : ByteArray := method_9_code
def yL_isBelow : MethodName := ⟨RcL, "isBelow", "(LTermServer;II[J)I"⟩
abbrev bS_isBelow : ByteArray := prog_1_method_10_code
def yS_isBelow : MethodName := ⟨RcS, "isBelow", "(II)Z"⟩
abbrev wS_isBelow : Cond := .code yS_isBelow bS_isBelow 3 (some .boolean)
theorem mc_S_isBelow : wS_isBelow ∈ wA := wA_m (tb_3 (List.mem_of_getElem? (i := 38) rfl)) rfl
abbrev bC_place : ByteArray := prog_4_method_6_code
def yC_place : MethodName := ⟨RcC, "place", "(I)V"⟩
abbrev wC_place : Cond := .code yC_place bC_place 2 none
theorem mc_C_place : wC_place ∈ wA := wA_m (tb_3 (List.mem_of_getElem? (i := 42) rfl)) rfl
abbrev bL_supers : ByteArray := method_10_code
def yL_supers : MethodName := ⟨RcL, "supers", "(LTermServer;I[J)I"⟩
abbrev bS_supers : ByteArray := prog_1_method_11_code
def yS_supers : MethodName := ⟨RcS, "supers", "(I)I"⟩
abbrev wS_supers : Cond := .code yS_supers bS_supers 4 (some .int)
theorem mc_S_supers : wS_supers ∈ wA := wA_m (tb_3 (List.mem_of_getElem? (i := 49) rfl)) rfl
abbrev bS_isNameAbove : ByteArray := prog_1_method_22_code
def yS_isNameAbove : MethodName := ⟨RcS, "isNameAbove", "(II)Z"⟩
abbrev wS_isNameAbove : Cond := .code yS_isNameAbove bS_isNameAbove 3 (some .boolean)
theorem mc_S_isNameAbove : wS_isNameAbove ∈ wA := wA_m (tb_3 (List.mem_of_getElem? (i := 53) rfl)) rfl
abbrev bT_isName : ByteArray := prog_5_method_5_code
def yT_isName : MethodName := ⟨RcT, "isName", "(I)Z"⟩
abbrev wT_isName : Cond := .code yT_isName bT_isName 2 (some .boolean)
theorem mc_T_isName : wT_isName ∈ wA := wA_m (tb_3 (List.mem_of_getElem? (i := 57) rfl)) rfl
abbrev bL_sup : ByteArray := method_11_code
def yL_sup : MethodName := ⟨RcL, "sup", "(LTermServer;II[J)I"⟩
abbrev bS_sup : ByteArray := prog_1_method_12_code
def yS_sup : MethodName := ⟨RcS, "sup", "(II)I"⟩
abbrev wS_sup : Cond := .code yS_sup bS_sup 5 (some .int)
theorem mc_S_sup : wS_sup ∈ wA := wA_m (tb_3 (List.mem_of_getElem? (i := 64) rfl)) rfl
abbrev bL_direct : ByteArray := method_12_code
def yL_direct : MethodName := ⟨RcL, "direct", "(LTermServer;II[J)I"⟩
abbrev bS_direct : ByteArray := prog_1_method_13_code
def yS_direct : MethodName := ⟨RcS, "direct", "(II)Z"⟩
abbrev wS_direct : Cond := .code yS_direct bS_direct 4 (some .boolean)
theorem mc_S_direct : wS_direct ∈ wA := wA_m (tb_3 (List.mem_of_getElem? (i := 71) rfl)) rfl
abbrev bC_placeWithAbove : ByteArray := prog_4_method_7_code
def yC_placeWithAbove : MethodName := ⟨RcC, "placeWithAbove", "(I)V"⟩
abbrev wC_placeWithAbove : Cond := .code yC_placeWithAbove bC_placeWithAbove 3 none
theorem mc_C_placeWithAbove : wC_placeWithAbove ∈ wA := wA_m (tb_3 (List.mem_of_getElem? (i := 75) rfl)) rfl
abbrev bS_isStrictlyBelow : ByteArray := prog_1_method_24_code
def yS_isStrictlyBelow : MethodName := ⟨RcS, "isStrictlyBelow", "(II)Z"⟩
abbrev wS_isStrictlyBelow : Cond := .code yS_isStrictlyBelow bS_isStrictlyBelow 3 (some .boolean)
theorem mc_S_isStrictlyBelow : wS_isStrictlyBelow ∈ wA := wA_m (tb_3 (List.mem_of_getElem? (i := 80) rfl)) rfl
abbrev bL_twin : ByteArray := method_13_code
def yL_twin : MethodName := ⟨RcL, "twin", "(LTermServer;I[J)I"⟩
abbrev bS_twin : ByteArray := prog_1_method_14_code
def yS_twin : MethodName := ⟨RcS, "twin", "(I)I"⟩
abbrev wS_twin : Cond := .code yS_twin bS_twin 2 (some .int)
theorem mc_S_twin : wS_twin ∈ wA := wA_m (tb_3 (List.mem_of_getElem? (i := 87) rfl)) rfl
abbrev bL_common : ByteArray := method_14_code
def yL_common : MethodName := ⟨RcL, "common", "(LTermServer;III[J)I"⟩
abbrev bS_common : ByteArray := prog_1_method_15_code
def yS_common : MethodName := ⟨RcS, "common", "(III)I"⟩
abbrev wS_common : Cond := .code yS_common bS_common 6 (some .int)
theorem mc_S_common : wS_common ∈ wA := wA_m (tb_3 (List.mem_of_getElem? (i := 94) rfl)) rfl
abbrev bS_isNameAboveBoth : ByteArray := prog_1_method_23_code
def yS_isNameAboveBoth : MethodName := ⟨RcS, "isNameAboveBoth", "(III)Z"⟩
abbrev wS_isNameAboveBoth : Cond := .code yS_isNameAboveBoth bS_isNameAboveBoth 4 (some .boolean)
theorem mc_S_isNameAboveBoth : wS_isNameAboveBoth ∈ wA := wA_m (tb_3 (List.mem_of_getElem? (i := 98) rfl)) rfl
abbrev bS_isLowestAboveBoth : ByteArray := prog_1_method_25_code
def yS_isLowestAboveBoth : MethodName := ⟨RcS, "isLowestAboveBoth", "(III)Z"⟩
abbrev wS_isLowestAboveBoth : Cond := .code yS_isLowestAboveBoth bS_isLowestAboveBoth 5 (some .boolean)
theorem mc_S_isLowestAboveBoth : wS_isLowestAboveBoth ∈ wA := wA_m (tb_3 (List.mem_of_getElem? (i := 102) rfl)) rfl
abbrev bL_why : ByteArray := method_15_code
def yL_why : MethodName := ⟨RcL, "why", "(LTermServer;II[J)I"⟩
abbrev bS_why : ByteArray := prog_1_method_16_code
def yS_why : MethodName := ⟨RcS, "why", "(II)I"⟩
abbrev wS_why : Cond := .code yS_why bS_why 5 (some .int)
theorem mc_S_why : wS_why ∈ wA := wA_m (tb_3 (List.mem_of_getElem? (i := 109) rfl)) rfl
abbrev bS_reasonBefore : ByteArray := prog_1_method_27_code
def yS_reasonBefore : MethodName := ⟨RcS, "reasonBefore", "(III)I"⟩
abbrev wS_reasonBefore : Cond := .code yS_reasonBefore bS_reasonBefore 5 (some .int)
theorem mc_S_reasonBefore : wS_reasonBefore ∈ wA := wA_m (tb_3 (List.mem_of_getElem? (i := 113) rfl)) rfl
abbrev bL_has : ByteArray := method_16_code
def yL_has : MethodName := ⟨RcL, "has", "(LTermServer;III[J)I"⟩
abbrev bS_has : ByteArray := prog_1_method_18_code
def yS_has : MethodName := ⟨RcS, "has", "(III)Z"⟩
abbrev wS_has : Cond := .code yS_has bS_has 4 (some .boolean)
theorem mc_S_has : wS_has ∈ wA := wA_m (tb_3 (List.mem_of_getElem? (i := 124) rfl)) rfl
abbrev bC_reaches : ByteArray := prog_4_method_5_code
def yC_reaches : MethodName := ⟨RcC, "reaches", "(III)Z"⟩
abbrev wC_reaches : Cond := .code yC_reaches bC_reaches 6 (some .boolean)
theorem mc_C_reaches : wC_reaches ∈ wA := wA_m (tb_3 (List.mem_of_getElem? (i := 128) rfl)) rfl
abbrev bM_init : ByteArray := prog_7_method_1_code
def yM_init : MethodName := ⟨RcM, "<init>", "()V"⟩
abbrev wM_init : Cond := .code yM_init bM_init 1 none
theorem mc_M_init : wM_init ∈ wA := wA_m (tb_3 (List.mem_of_getElem? (i := 133) rfl)) rfl
abbrev bM_thrown : ByteArray := prog_7_method_2_code
def yM_thrown : MethodName := ⟨RcM, "thrown", "()I"⟩
abbrev wM_thrown : Cond := .code yM_thrown bM_thrown 1 (some .int)
theorem mc_M_thrown : wM_thrown ∈ wA := wA_m (tb_3 (List.mem_of_getElem? (i := 196) rfl)) rfl
abbrev bM_name : ByteArray := prog_7_method_7_code
def yM_name : MethodName := ⟨RcM, "name", "()I"⟩
abbrev wM_name : Cond := .code yM_name bM_name 1 (some .int)
theorem mc_M_name : wM_name ∈ wA := wA_m (tb_3 (List.mem_of_getElem? (i := 200) rfl)) rfl
abbrev bM_made : ByteArray := prog_7_method_6_code
def yM_made : MethodName := ⟨RcM, "made", "(III)I"⟩
abbrev wM_made : Cond := .code yM_made bM_made 5 (some .int)
theorem mc_M_made : wM_made ∈ wA := wA_m (tb_3 (List.mem_of_getElem? (i := 204) rfl)) rfl
abbrev bM_both : ByteArray := prog_7_method_8_code
def yM_both : MethodName := ⟨RcM, "both", "(II)I"⟩
abbrev wM_both : Cond := .code yM_both bM_both 3 (some .int)
theorem mc_M_both : wM_both ∈ wA := wA_m (tb_3 (List.mem_of_getElem? (i := 208) rfl)) rfl
abbrev bM_isThere : ByteArray := prog_7_method_4_code
def yM_isThere : MethodName := ⟨RcM, "isThere", "(I)Z"⟩
abbrev wM_isThere : Cond := .code yM_isThere bM_isThere 2 (some .boolean)
theorem mc_M_isThere : wM_isThere ∈ wA := wA_m (tb_3 (List.mem_of_getElem? (i := 212) rfl)) rfl
abbrev bM_fails : ByteArray := prog_7_method_3_code
def yM_fails : MethodName := ⟨RcM, "fails", "(Z)Z"⟩
abbrev wM_fails : Cond := .code yM_fails bM_fails 2 (some .boolean)
theorem mc_M_fails : wM_fails ∈ wA := wA_m (tb_3 (List.mem_of_getElem? (i := 216) rfl)) rfl
abbrev bM_some : ByteArray := prog_7_method_9_code
def yM_some : MethodName := ⟨RcM, "some", "(II)I"⟩
abbrev wM_some : Cond := .code yM_some bM_some 3 (some .int)
theorem mc_M_some : wM_some ∈ wA := wA_m (tb_3 (List.mem_of_getElem? (i := 220) rfl)) rfl
abbrev bM_isRole : ByteArray := prog_7_method_5_code
def yM_isRole : MethodName := ⟨RcM, "isRole", "(I)Z"⟩
abbrev wM_isRole : Cond := .code yM_isRole bM_isRole 1 (some .boolean)
theorem mc_M_isRole : wM_isRole ∈ wA := wA_m (tb_3 (List.mem_of_getElem? (i := 223) rfl)) rfl
abbrev bM_below : ByteArray := prog_7_method_11_code
def yM_below : MethodName := ⟨RcM, "below", "(II)I"⟩
abbrev wM_below : Cond := .code yM_below bM_below 3 (some .int)
theorem mc_M_below : wM_below ∈ wA := wA_m (tb_3 (List.mem_of_getElem? (i := 227) rfl)) rfl
abbrev bM_axiom : ByteArray := prog_7_method_10_code
def yM_axiom : MethodName := ⟨RcM, "axiom", "(IIII)I"⟩
abbrev wM_axiom : Cond := .code yM_axiom bM_axiom 5 (some .int)
theorem mc_M_axiom : wM_axiom ∈ wA := wA_m (tb_3 (List.mem_of_getElem? (i := 231) rfl)) rfl
abbrev bM_equal : ByteArray := prog_7_method_12_code
def yM_equal : MethodName := ⟨RcM, "equal", "(II)I"⟩
abbrev wM_equal : Cond := .code yM_equal bM_equal 3 (some .int)
theorem mc_M_equal : wM_equal ∈ wA := wA_m (tb_3 (List.mem_of_getElem? (i := 235) rfl)) rfl
abbrev bM_roleBelow : ByteArray := prog_7_method_13_code
def yM_roleBelow : MethodName := ⟨RcM, "roleBelow", "(II)I"⟩
abbrev wM_roleBelow : Cond := .code yM_roleBelow bM_roleBelow 3 (some .int)
theorem mc_M_roleBelow : wM_roleBelow ∈ wA := wA_m (tb_3 (List.mem_of_getElem? (i := 239) rfl)) rfl
abbrev bM_chain : ByteArray := prog_7_method_14_code
def yM_chain : MethodName := ⟨RcM, "chain", "(III)I"⟩
abbrev wM_chain : Cond := .code yM_chain bM_chain 4 (some .int)
theorem mc_M_chain : wM_chain ∈ wA := wA_m (tb_4 (List.mem_of_getElem? (i := 3) rfl)) rfl
abbrev bM_retract : ByteArray := prog_7_method_15_code
def yM_retract : MethodName := ⟨RcM, "retract", "(I)Z"⟩
abbrev wM_retract : Cond := .code yM_retract bM_retract 2 (some .boolean)
theorem mc_M_retract : wM_retract ∈ wA := wA_m (tb_4 (List.mem_of_getElem? (i := 7) rfl)) rfl
abbrev bM_isBelow : ByteArray := prog_7_method_29_code
def yM_isBelow : MethodName := ⟨RcM, "isBelow", "(II)Z"⟩
abbrev wM_isBelow : Cond := .code yM_isBelow bM_isBelow 3 (some .boolean)
theorem mc_M_isBelow : wM_isBelow ∈ wA := wA_m (tb_4 (List.mem_of_getElem? (i := 11) rfl)) rfl
abbrev bM_close : ByteArray := prog_7_method_27_code
def yM_close : MethodName := ⟨RcM, "close", "()V"⟩
abbrev wM_close : Cond := .code yM_close bM_close 2 none
theorem mc_M_close : wM_close ∈ wA := wA_m (tb_4 (List.mem_of_getElem? (i := 15) rfl)) rfl
abbrev bM_follow : ByteArray := prog_7_method_26_code
def yM_follow : MethodName := ⟨RcM, "follow", "(II)V"⟩
abbrev wM_follow : Cond := .code yM_follow bM_follow 4 none
theorem mc_M_follow : wM_follow ∈ wA := wA_m (tb_4 (List.mem_of_getElem? (i := 19) rfl)) rfl
abbrev bM_add : ByteArray := prog_7_method_18_code
def yM_add : MethodName := ⟨RcM, "add", "(II)V"⟩
abbrev wM_add : Cond := .code yM_add bM_add 3 none
theorem mc_M_add : wM_add ∈ wA := wA_m (tb_4 (List.mem_of_getElem? (i := 23) rfl)) rfl
abbrev bM_in : ByteArray := prog_7_method_16_code
def yM_in : MethodName := ⟨RcM, "in", "([JII)Z"⟩
abbrev wM_in : Cond := .code yM_in bM_in 3 (some .boolean)
theorem mc_M_in : wM_in ∈ wA := wA_m (tb_4 (List.mem_of_getElem? (i := 26) rfl)) rfl
abbrev bM_set : ByteArray := prog_7_method_17_code
def yM_set : MethodName := ⟨RcM, "set", "([JII)V"⟩
abbrev wM_set : Cond := .code yM_set bM_set 3 none
theorem mc_M_set : wM_set ∈ wA := wA_m (tb_4 (List.mem_of_getElem? (i := 29) rfl)) rfl
abbrev bM_byAxioms : ByteArray := prog_7_method_22_code
def yM_byAxioms : MethodName := ⟨RcM, "byAxioms", "(I)V"⟩
abbrev wM_byAxioms : Cond := .code yM_byAxioms bM_byAxioms 5 none
theorem mc_M_byAxioms : wM_byAxioms ∈ wA := wA_m (tb_4 (List.mem_of_getElem? (i := 33) rfl)) rfl
abbrev bM_row : ByteArray := prog_7_method_20_code
def yM_row : MethodName := ⟨RcM, "row", "(II)I"⟩
abbrev wM_row : Cond := .code yM_row bM_row 2 (some .int)
theorem mc_M_row : wM_row ∈ wA := wA_m (tb_4 (List.mem_of_getElem? (i := 36) rfl)) rfl
abbrev bM_join : ByteArray := prog_7_method_19_code
def yM_join : MethodName := ⟨RcM, "join", "(II)V"⟩
abbrev wM_join : Cond := .code yM_join bM_join 6 none
theorem mc_M_join : wM_join ∈ wA := wA_m (tb_4 (List.mem_of_getElem? (i := 40) rfl)) rfl
abbrev bM_byChain : ByteArray := prog_7_method_23_code
def yM_byChain : MethodName := ⟨RcM, "byChain", "(IIII)V"⟩
abbrev wM_byChain : Cond := .code yM_byChain bM_byChain 6 none
theorem mc_M_byChain : wM_byChain ∈ wA := wA_m (tb_4 (List.mem_of_getElem? (i := 44) rfl)) rfl
abbrev bM_byDescriptions : ByteArray := prog_7_method_24_code
def yM_byDescriptions : MethodName := ⟨RcM, "byDescriptions", "(I)V"⟩
abbrev wM_byDescriptions : Cond := .code yM_byDescriptions bM_byDescriptions 5 none
theorem mc_M_byDescriptions : wM_byDescriptions ∈ wA := wA_m (tb_4 (List.mem_of_getElem? (i := 48) rfl)) rfl
abbrev bM_meets : ByteArray := prog_7_method_21_code
def yM_meets : MethodName := ⟨RcM, "meets", "(III)Z"⟩
abbrev wM_meets : Cond := .code yM_meets bM_meets 7 (some .boolean)
theorem mc_M_meets : wM_meets ∈ wA := wA_m (tb_4 (List.mem_of_getElem? (i := 52) rfl)) rfl
abbrev bM_byNothing : ByteArray := prog_7_method_25_code
def yM_byNothing : MethodName := ⟨RcM, "byNothing", "(I)V"⟩
abbrev wM_byNothing : Cond := .code yM_byNothing bM_byNothing 3 none
theorem mc_M_byNothing : wM_byNothing ∈ wA := wA_m (tb_4 (List.mem_of_getElem? (i := 56) rfl)) rfl
abbrev bM_supers : ByteArray := prog_7_method_30_code
def yM_supers : MethodName := ⟨RcM, "supers", "(I)I"⟩
abbrev wM_supers : Cond := .code yM_supers bM_supers 4 (some .int)
theorem mc_M_supers : wM_supers ∈ wA := wA_m (tb_4 (List.mem_of_getElem? (i := 60) rfl)) rfl
abbrev bM_sup : ByteArray := prog_7_method_31_code
def yM_sup : MethodName := ⟨RcM, "sup", "(II)I"⟩
abbrev wM_sup : Cond := .code yM_sup bM_sup 5 (some .int)
theorem mc_M_sup : wM_sup ∈ wA := wA_m (tb_4 (List.mem_of_getElem? (i := 64) rfl)) rfl
abbrev bM_direct : ByteArray := prog_7_method_32_code
def yM_direct : MethodName := ⟨RcM, "direct", "(II)Z"⟩
abbrev wM_direct : Cond := .code yM_direct bM_direct 5 (some .boolean)
theorem mc_M_direct : wM_direct ∈ wA := wA_m (tb_4 (List.mem_of_getElem? (i := 68) rfl)) rfl
abbrev bM_strictly : ByteArray := prog_7_method_28_code
def yM_strictly : MethodName := ⟨RcM, "strictly", "(II)Z"⟩
abbrev wM_strictly : Cond := .code yM_strictly bM_strictly 3 (some .boolean)
theorem mc_M_strictly : wM_strictly ∈ wA := wA_m (tb_4 (List.mem_of_getElem? (i := 72) rfl)) rfl
abbrev bM_twin : ByteArray := prog_7_method_34_code
def yM_twin : MethodName := ⟨RcM, "twin", "(I)I"⟩
abbrev wM_twin : Cond := .code yM_twin bM_twin 2 (some .int)
theorem mc_M_twin : wM_twin ∈ wA := wA_m (tb_4 (List.mem_of_getElem? (i := 76) rfl)) rfl
abbrev bM_least : ByteArray := prog_7_method_33_code
def yM_least : MethodName := ⟨RcM, "least", "(I)I"⟩
abbrev wM_least : Cond := .code yM_least bM_least 3 (some .int)
theorem mc_M_least : wM_least ∈ wA := wA_m (tb_4 (List.mem_of_getElem? (i := 80) rfl)) rfl
abbrev bM_common : ByteArray := prog_7_method_36_code
def yM_common : MethodName := ⟨RcM, "common", "(III)I"⟩
abbrev wM_common : Cond := .code yM_common bM_common 9 (some .int)
theorem mc_M_common : wM_common ∈ wA := wA_m (tb_4 (List.mem_of_getElem? (i := 84) rfl)) rfl
abbrev bM_isCommon : ByteArray := prog_7_method_35_code
def yM_isCommon : MethodName := ⟨RcM, "isCommon", "(III)Z"⟩
abbrev wM_isCommon : Cond := .code yM_isCommon bM_isCommon 4 (some .boolean)
theorem mc_M_isCommon : wM_isCommon ∈ wA := wA_m (tb_4 (List.mem_of_getElem? (i := 88) rfl)) rfl
abbrev bM_why : ByteArray := prog_7_method_37_code
def yM_why : MethodName := ⟨RcM, "why", "(II)I"⟩
abbrev wM_why : Cond := .code yM_why bM_why 4 (some .int)
theorem mc_M_why : wM_why ∈ wA := wA_m (tb_4 (List.mem_of_getElem? (i := 92) rfl)) rfl
abbrev bM_reason : ByteArray := prog_7_method_38_code
def yM_reason : MethodName := ⟨RcM, "reason", "(I)I"⟩
abbrev wM_reason : Cond := .code yM_reason bM_reason 2 (some .int)
theorem mc_M_reason : wM_reason ∈ wA := wA_m (tb_4 (List.mem_of_getElem? (i := 96) rfl)) rfl
abbrev bM_has : ByteArray := prog_7_method_39_code
def yM_has : MethodName := ⟨RcM, "has", "(III)Z"⟩
abbrev wM_has : Cond := .code yM_has bM_has 4 (some .boolean)
theorem mc_M_has : wM_has ∈ wA := wA_m (tb_4 (List.mem_of_getElem? (i := 100) rfl)) rfl
abbrev bM_count : ByteArray := prog_7_method_41_code
def yM_count : MethodName := ⟨RcM, "count", "(I)I"⟩
abbrev wM_count : Cond := .code yM_count bM_count 4 (some .int)
theorem mc_M_count : wM_count ∈ wA := wA_m (tb_4 (List.mem_of_getElem? (i := 104) rfl)) rfl
abbrev bM_pairs : ByteArray := prog_7_method_40_code
def yM_pairs : MethodName := ⟨RcM, "pairs", "()I"⟩
abbrev wM_pairs : Cond := .code yM_pairs bM_pairs 4 (some .int)
theorem mc_M_pairs : wM_pairs ∈ wA := wA_m (tb_4 (List.mem_of_getElem? (i := 108) rfl)) rfl
theorem dm_S_init : yS_init.cls ≠ "java/lang/invoke/MethodHandle" ∧ yS_init.cls ≠ "java/lang/invoke/VarHandle" ∧ (parseMethodDescriptor yS_init.desc).map (fun d => d.parameters.length) = some 0 := by decide +kernel
theorem dm_T_init : yT_init.cls ≠ "java/lang/invoke/MethodHandle" ∧ yT_init.cls ≠ "java/lang/invoke/VarHandle" ∧ (parseMethodDescriptor yT_init.desc).map (fun d => d.parameters.length) = some 0 := by decide +kernel
theorem dm_B_init : yB_init.cls ≠ "java/lang/invoke/MethodHandle" ∧ yB_init.cls ≠ "java/lang/invoke/VarHandle" ∧ (parseMethodDescriptor yB_init.desc).map (fun d => d.parameters.length) = some 2 := by decide +kernel
theorem dm_Ja_fill : yJa_fill.cls ≠ "java/lang/invoke/MethodHandle" ∧ yJa_fill.cls ≠ "java/lang/invoke/VarHandle" ∧ (parseMethodDescriptor yJa_fill.desc).map (fun d => d.parameters.length) = some 2 := by decide +kernel
theorem dm_A_init : yA_init.cls ≠ "java/lang/invoke/MethodHandle" ∧ yA_init.cls ≠ "java/lang/invoke/VarHandle" ∧ (parseMethodDescriptor yA_init.desc).map (fun d => d.parameters.length) = some 0 := by decide +kernel
theorem dm_C_init : yC_init.cls ≠ "java/lang/invoke/MethodHandle" ∧ yC_init.cls ≠ "java/lang/invoke/VarHandle" ∧ (parseMethodDescriptor yC_init.desc).map (fun d => d.parameters.length) = some 2 := by decide +kernel
theorem dm_S_name : yS_name.cls ≠ "java/lang/invoke/MethodHandle" ∧ yS_name.cls ≠ "java/lang/invoke/VarHandle" ∧ (parseMethodDescriptor yS_name.desc).map (fun d => d.parameters.length) = some 0 := by decide +kernel
theorem dm_T_make : yT_make.cls ≠ "java/lang/invoke/MethodHandle" ∧ yT_make.cls ≠ "java/lang/invoke/VarHandle" ∧ (parseMethodDescriptor yT_make.desc).map (fun d => d.parameters.length) = some 3 := by decide +kernel
theorem dm_B_put : yB_put.cls ≠ "java/lang/invoke/MethodHandle" ∧ yB_put.cls ≠ "java/lang/invoke/VarHandle" ∧ (parseMethodDescriptor yB_put.desc).map (fun d => d.parameters.length) = some 2 := by decide +kernel
theorem dm_S_retract : yS_retract.cls ≠ "java/lang/invoke/MethodHandle" ∧ yS_retract.cls ≠ "java/lang/invoke/VarHandle" ∧ (parseMethodDescriptor yS_retract.desc).map (fun d => d.parameters.length) = some 1 := by decide +kernel
theorem dm_A_isInForce : yA_isInForce.cls ≠ "java/lang/invoke/MethodHandle" ∧ yA_isInForce.cls ≠ "java/lang/invoke/VarHandle" ∧ (parseMethodDescriptor yA_isInForce.desc).map (fun d => d.parameters.length) = some 1 := by decide +kernel
theorem dm_A_takeBack : yA_takeBack.cls ≠ "java/lang/invoke/MethodHandle" ∧ yA_takeBack.cls ≠ "java/lang/invoke/VarHandle" ∧ (parseMethodDescriptor yA_takeBack.desc).map (fun d => d.parameters.length) = some 1 := by decide +kernel
theorem dm_C_spoil : yC_spoil.cls ≠ "java/lang/invoke/MethodHandle" ∧ yC_spoil.cls ≠ "java/lang/invoke/VarHandle" ∧ (parseMethodDescriptor yC_spoil.desc).map (fun d => d.parameters.length) = some 0 := by decide +kernel
theorem dm_S_reason : yS_reason.cls ≠ "java/lang/invoke/MethodHandle" ∧ yS_reason.cls ≠ "java/lang/invoke/VarHandle" ∧ (parseMethodDescriptor yS_reason.desc).map (fun d => d.parameters.length) = some 1 := by decide +kernel
theorem dm_S_count : yS_count.cls ≠ "java/lang/invoke/MethodHandle" ∧ yS_count.cls ≠ "java/lang/invoke/VarHandle" ∧ (parseMethodDescriptor yS_count.desc).map (fun d => d.parameters.length) = some 1 := by decide +kernel
theorem dm_C_placeAll : yC_placeAll.cls ≠ "java/lang/invoke/MethodHandle" ∧ yC_placeAll.cls ≠ "java/lang/invoke/VarHandle" ∧ (parseMethodDescriptor yC_placeAll.desc).map (fun d => d.parameters.length) = some 0 := by decide +kernel
theorem dm_C_catchUp : yC_catchUp.cls ≠ "java/lang/invoke/MethodHandle" ∧ yC_catchUp.cls ≠ "java/lang/invoke/VarHandle" ∧ (parseMethodDescriptor yC_catchUp.desc).map (fun d => d.parameters.length) = some 0 := by decide +kernel
theorem dm_C_forget : yC_forget.cls ≠ "java/lang/invoke/MethodHandle" ∧ yC_forget.cls ≠ "java/lang/invoke/VarHandle" ∧ (parseMethodDescriptor yC_forget.desc).map (fun d => d.parameters.length) = some 0 := by decide +kernel
theorem dm_T_size : yT_size.cls ≠ "java/lang/invoke/MethodHandle" ∧ yT_size.cls ≠ "java/lang/invoke/VarHandle" ∧ (parseMethodDescriptor yT_size.desc).map (fun d => d.parameters.length) = some 0 := by decide +kernel
theorem dm_B_clear : yB_clear.cls ≠ "java/lang/invoke/MethodHandle" ∧ yB_clear.cls ≠ "java/lang/invoke/VarHandle" ∧ (parseMethodDescriptor yB_clear.desc).map (fun d => d.parameters.length) = some 1 := by decide +kernel
theorem dm_Jm_min : yJm_min.cls ≠ "java/lang/invoke/MethodHandle" ∧ yJm_min.cls ≠ "java/lang/invoke/VarHandle" ∧ (parseMethodDescriptor yJm_min.desc).map (fun d => d.parameters.length) = some 2 := by decide +kernel
theorem dm_T_kind : yT_kind.cls ≠ "java/lang/invoke/MethodHandle" ∧ yT_kind.cls ≠ "java/lang/invoke/VarHandle" ∧ (parseMethodDescriptor yT_kind.desc).map (fun d => d.parameters.length) = some 1 := by decide +kernel
theorem dm_C_admitBoth : yC_admitBoth.cls ≠ "java/lang/invoke/MethodHandle" ∧ yC_admitBoth.cls ≠ "java/lang/invoke/VarHandle" ∧ (parseMethodDescriptor yC_admitBoth.desc).map (fun d => d.parameters.length) = some 1 := by decide +kernel
theorem dm_T_left : yT_left.cls ≠ "java/lang/invoke/MethodHandle" ∧ yT_left.cls ≠ "java/lang/invoke/VarHandle" ∧ (parseMethodDescriptor yT_left.desc).map (fun d => d.parameters.length) = some 1 := by decide +kernel
theorem dm_C_row : yC_row.cls ≠ "java/lang/invoke/MethodHandle" ∧ yC_row.cls ≠ "java/lang/invoke/VarHandle" ∧ (parseMethodDescriptor yC_row.desc).map (fun d => d.parameters.length) = some 2 := by decide +kernel
theorem dm_B_next : yB_next.cls ≠ "java/lang/invoke/MethodHandle" ∧ yB_next.cls ≠ "java/lang/invoke/VarHandle" ∧ (parseMethodDescriptor yB_next.desc).map (fun d => d.parameters.length) = some 2 := by decide +kernel
theorem dm_Jl_bitCount : yJl_bitCount.cls ≠ "java/lang/invoke/MethodHandle" ∧ yJl_bitCount.cls ≠ "java/lang/invoke/VarHandle" ∧ (parseMethodDescriptor yJl_bitCount.desc).map (fun d => d.parameters.length) = some 1 := by decide +kernel
theorem dm_T_right : yT_right.cls ≠ "java/lang/invoke/MethodHandle" ∧ yT_right.cls ≠ "java/lang/invoke/VarHandle" ∧ (parseMethodDescriptor yT_right.desc).map (fun d => d.parameters.length) = some 1 := by decide +kernel
theorem dm_B_holds : yB_holds.cls ≠ "java/lang/invoke/MethodHandle" ∧ yB_holds.cls ≠ "java/lang/invoke/VarHandle" ∧ (parseMethodDescriptor yB_holds.desc).map (fun d => d.parameters.length) = some 2 := by decide +kernel
theorem dm_C_add : yC_add.cls ≠ "java/lang/invoke/MethodHandle" ∧ yC_add.cls ≠ "java/lang/invoke/VarHandle" ∧ (parseMethodDescriptor yC_add.desc).map (fun d => d.parameters.length) = some 3 := by decide +kernel
theorem dm_C_admitSome : yC_admitSome.cls ≠ "java/lang/invoke/MethodHandle" ∧ yC_admitSome.cls ≠ "java/lang/invoke/VarHandle" ∧ (parseMethodDescriptor yC_admitSome.desc).map (fun d => d.parameters.length) = some 1 := by decide +kernel
theorem dm_C_addFromAll : yC_addFromAll.cls ≠ "java/lang/invoke/MethodHandle" ∧ yC_addFromAll.cls ≠ "java/lang/invoke/VarHandle" ∧ (parseMethodDescriptor yC_addFromAll.desc).map (fun d => d.parameters.length) = some 3 := by decide +kernel
theorem dm_B_nextBeyond : yB_nextBeyond.cls ≠ "java/lang/invoke/MethodHandle" ∧ yB_nextBeyond.cls ≠ "java/lang/invoke/VarHandle" ∧ (parseMethodDescriptor yB_nextBeyond.desc).map (fun d => d.parameters.length) = some 4 := by decide +kernel
theorem dm_A_told : yA_told.cls ≠ "java/lang/invoke/MethodHandle" ∧ yA_told.cls ≠ "java/lang/invoke/VarHandle" ∧ (parseMethodDescriptor yA_told.desc).map (fun d => d.parameters.length) = some 0 := by decide +kernel
theorem dm_C_hear : yC_hear.cls ≠ "java/lang/invoke/MethodHandle" ∧ yC_hear.cls ≠ "java/lang/invoke/VarHandle" ∧ (parseMethodDescriptor yC_hear.desc).map (fun d => d.parameters.length) = some 1 := by decide +kernel
theorem dm_A_first : yA_first.cls ≠ "java/lang/invoke/MethodHandle" ∧ yA_first.cls ≠ "java/lang/invoke/VarHandle" ∧ (parseMethodDescriptor yA_first.desc).map (fun d => d.parameters.length) = some 1 := by decide +kernel
theorem dm_A_second : yA_second.cls ≠ "java/lang/invoke/MethodHandle" ∧ yA_second.cls ≠ "java/lang/invoke/VarHandle" ∧ (parseMethodDescriptor yA_second.desc).map (fun d => d.parameters.length) = some 1 := by decide +kernel
theorem dm_A_kind : yA_kind.cls ≠ "java/lang/invoke/MethodHandle" ∧ yA_kind.cls ≠ "java/lang/invoke/VarHandle" ∧ (parseMethodDescriptor yA_kind.desc).map (fun d => d.parameters.length) = some 1 := by decide +kernel
theorem dm_A_third : yA_third.cls ≠ "java/lang/invoke/MethodHandle" ∧ yA_third.cls ≠ "java/lang/invoke/VarHandle" ∧ (parseMethodDescriptor yA_third.desc).map (fun d => d.parameters.length) = some 1 := by decide +kernel
theorem dm_C_begin : yC_begin.cls ≠ "java/lang/invoke/MethodHandle" ∧ yC_begin.cls ≠ "java/lang/invoke/VarHandle" ∧ (parseMethodDescriptor yC_begin.desc).map (fun d => d.parameters.length) = some 1 := by decide +kernel
theorem dm_C_saturate : yC_saturate.cls ≠ "java/lang/invoke/MethodHandle" ∧ yC_saturate.cls ≠ "java/lang/invoke/VarHandle" ∧ (parseMethodDescriptor yC_saturate.desc).map (fun d => d.parameters.length) = some 0 := by decide +kernel
theorem dm_B_drop : yB_drop.cls ≠ "java/lang/invoke/MethodHandle" ∧ yB_drop.cls ≠ "java/lang/invoke/VarHandle" ∧ (parseMethodDescriptor yB_drop.desc).map (fun d => d.parameters.length) = some 2 := by decide +kernel
theorem dm_C_emptySources : yC_emptySources.cls ≠ "java/lang/invoke/MethodHandle" ∧ yC_emptySources.cls ≠ "java/lang/invoke/VarHandle" ∧ (parseMethodDescriptor yC_emptySources.desc).map (fun d => d.parameters.length) = some 1 := by decide +kernel
theorem dm_C_isEmpty : yC_isEmpty.cls ≠ "java/lang/invoke/MethodHandle" ∧ yC_isEmpty.cls ≠ "java/lang/invoke/VarHandle" ∧ (parseMethodDescriptor yC_isEmpty.desc).map (fun d => d.parameters.length) = some 1 := by decide +kernel
theorem dm_C_addAll : yC_addAll.cls ≠ "java/lang/invoke/MethodHandle" ∧ yC_addAll.cls ≠ "java/lang/invoke/VarHandle" ∧ (parseMethodDescriptor yC_addAll.desc).map (fun d => d.parameters.length) = some 4 := by decide +kernel
theorem dm_C_drawParts : yC_drawParts.cls ≠ "java/lang/invoke/MethodHandle" ∧ yC_drawParts.cls ≠ "java/lang/invoke/VarHandle" ∧ (parseMethodDescriptor yC_drawParts.desc).map (fun d => d.parameters.length) = some 2 := by decide +kernel
theorem dm_C_drawBoths : yC_drawBoths.cls ≠ "java/lang/invoke/MethodHandle" ∧ yC_drawBoths.cls ≠ "java/lang/invoke/VarHandle" ∧ (parseMethodDescriptor yC_drawBoths.desc).map (fun d => d.parameters.length) = some 2 := by decide +kernel
theorem dm_T_otherPart : yT_otherPart.cls ≠ "java/lang/invoke/MethodHandle" ∧ yT_otherPart.cls ≠ "java/lang/invoke/VarHandle" ∧ (parseMethodDescriptor yT_otherPart.desc).map (fun d => d.parameters.length) = some 2 := by decide +kernel
theorem dm_C_drawSomes : yC_drawSomes.cls ≠ "java/lang/invoke/MethodHandle" ∧ yC_drawSomes.cls ≠ "java/lang/invoke/VarHandle" ∧ (parseMethodDescriptor yC_drawSomes.desc).map (fun d => d.parameters.length) = some 2 := by decide +kernel
theorem dm_T_findSome : yT_findSome.cls ≠ "java/lang/invoke/MethodHandle" ∧ yT_findSome.cls ≠ "java/lang/invoke/VarHandle" ∧ (parseMethodDescriptor yT_findSome.desc).map (fun d => d.parameters.length) = some 2 := by decide +kernel
theorem dm_C_drawFromLink : yC_drawFromLink.cls ≠ "java/lang/invoke/MethodHandle" ∧ yC_drawFromLink.cls ≠ "java/lang/invoke/VarHandle" ∧ (parseMethodDescriptor yC_drawFromLink.desc).map (fun d => d.parameters.length) = some 3 := by decide +kernel
theorem dm_C_drawFromChains : yC_drawFromChains.cls ≠ "java/lang/invoke/MethodHandle" ∧ yC_drawFromChains.cls ≠ "java/lang/invoke/VarHandle" ∧ (parseMethodDescriptor yC_drawFromChains.desc).map (fun d => d.parameters.length) = some 3 := by decide +kernel
theorem dm_T_names : yT_names.cls ≠ "java/lang/invoke/MethodHandle" ∧ yT_names.cls ≠ "java/lang/invoke/VarHandle" ∧ (parseMethodDescriptor yT_names.desc).map (fun d => d.parameters.length) = some 0 := by decide +kernel
theorem dm_A_inForce : yA_inForce.cls ≠ "java/lang/invoke/MethodHandle" ∧ yA_inForce.cls ≠ "java/lang/invoke/VarHandle" ∧ (parseMethodDescriptor yA_inForce.desc).map (fun d => d.parameters.length) = some 0 := by decide +kernel
theorem dm_S_countPairs : yS_countPairs.cls ≠ "java/lang/invoke/MethodHandle" ∧ yS_countPairs.cls ≠ "java/lang/invoke/VarHandle" ∧ (parseMethodDescriptor yS_countPairs.desc).map (fun d => d.parameters.length) = some 0 := by decide +kernel
theorem dm_C_covers : yC_covers.cls ≠ "java/lang/invoke/MethodHandle" ∧ yC_covers.cls ≠ "java/lang/invoke/VarHandle" ∧ (parseMethodDescriptor yC_covers.desc).map (fun d => d.parameters.length) = some 2 := by decide +kernel
theorem dm_S_countEmpty : yS_countEmpty.cls ≠ "java/lang/invoke/MethodHandle" ∧ yS_countEmpty.cls ≠ "java/lang/invoke/VarHandle" ∧ (parseMethodDescriptor yS_countEmpty.desc).map (fun d => d.parameters.length) = some 0 := by decide +kernel
theorem dm_S_countClasses : yS_countClasses.cls ≠ "java/lang/invoke/MethodHandle" ∧ yS_countClasses.cls ≠ "java/lang/invoke/VarHandle" ∧ (parseMethodDescriptor yS_countClasses.desc).map (fun d => d.parameters.length) = some 0 := by decide +kernel
theorem dm_S_leastEqual : yS_leastEqual.cls ≠ "java/lang/invoke/MethodHandle" ∧ yS_leastEqual.cls ≠ "java/lang/invoke/VarHandle" ∧ (parseMethodDescriptor yS_leastEqual.desc).map (fun d => d.parameters.length) = some 1 := by decide +kernel
theorem dm_L_both : yL_both.cls ≠ "java/lang/invoke/MethodHandle" ∧ yL_both.cls ≠ "java/lang/invoke/VarHandle" ∧ (parseMethodDescriptor yL_both.desc).map (fun d => d.parameters.length) = some 4 := by decide +kernel
theorem dm_S_both : yS_both.cls ≠ "java/lang/invoke/MethodHandle" ∧ yS_both.cls ≠ "java/lang/invoke/VarHandle" ∧ (parseMethodDescriptor yS_both.desc).map (fun d => d.parameters.length) = some 2 := by decide +kernel
theorem dm_S_checkTerm : yS_checkTerm.cls ≠ "java/lang/invoke/MethodHandle" ∧ yS_checkTerm.cls ≠ "java/lang/invoke/VarHandle" ∧ (parseMethodDescriptor yS_checkTerm.desc).map (fun d => d.parameters.length) = some 1 := by decide +kernel
theorem dm_T_findBoth : yT_findBoth.cls ≠ "java/lang/invoke/MethodHandle" ∧ yT_findBoth.cls ≠ "java/lang/invoke/VarHandle" ∧ (parseMethodDescriptor yT_findBoth.desc).map (fun d => d.parameters.length) = some 2 := by decide +kernel
theorem dm_L_some : yL_some.cls ≠ "java/lang/invoke/MethodHandle" ∧ yL_some.cls ≠ "java/lang/invoke/VarHandle" ∧ (parseMethodDescriptor yL_some.desc).map (fun d => d.parameters.length) = some 4 := by decide +kernel
theorem dm_S_some : yS_some.cls ≠ "java/lang/invoke/MethodHandle" ∧ yS_some.cls ≠ "java/lang/invoke/VarHandle" ∧ (parseMethodDescriptor yS_some.desc).map (fun d => d.parameters.length) = some 2 := by decide +kernel
theorem dm_S_checkRole : yS_checkRole.cls ≠ "java/lang/invoke/MethodHandle" ∧ yS_checkRole.cls ≠ "java/lang/invoke/VarHandle" ∧ (parseMethodDescriptor yS_checkRole.desc).map (fun d => d.parameters.length) = some 1 := by decide +kernel
theorem dm_L_below : yL_below.cls ≠ "java/lang/invoke/MethodHandle" ∧ yL_below.cls ≠ "java/lang/invoke/VarHandle" ∧ (parseMethodDescriptor yL_below.desc).map (fun d => d.parameters.length) = some 4 := by decide +kernel
theorem dm_S_below : yS_below.cls ≠ "java/lang/invoke/MethodHandle" ∧ yS_below.cls ≠ "java/lang/invoke/VarHandle" ∧ (parseMethodDescriptor yS_below.desc).map (fun d => d.parameters.length) = some 2 := by decide +kernel
theorem dm_A_tell : yA_tell.cls ≠ "java/lang/invoke/MethodHandle" ∧ yA_tell.cls ≠ "java/lang/invoke/VarHandle" ∧ (parseMethodDescriptor yA_tell.desc).map (fun d => d.parameters.length) = some 4 := by decide +kernel
theorem dm_L_equal : yL_equal.cls ≠ "java/lang/invoke/MethodHandle" ∧ yL_equal.cls ≠ "java/lang/invoke/VarHandle" ∧ (parseMethodDescriptor yL_equal.desc).map (fun d => d.parameters.length) = some 4 := by decide +kernel
theorem dm_S_equal : yS_equal.cls ≠ "java/lang/invoke/MethodHandle" ∧ yS_equal.cls ≠ "java/lang/invoke/VarHandle" ∧ (parseMethodDescriptor yS_equal.desc).map (fun d => d.parameters.length) = some 2 := by decide +kernel
theorem dm_L_roleBelow : yL_roleBelow.cls ≠ "java/lang/invoke/MethodHandle" ∧ yL_roleBelow.cls ≠ "java/lang/invoke/VarHandle" ∧ (parseMethodDescriptor yL_roleBelow.desc).map (fun d => d.parameters.length) = some 4 := by decide +kernel
theorem dm_S_roleBelow : yS_roleBelow.cls ≠ "java/lang/invoke/MethodHandle" ∧ yS_roleBelow.cls ≠ "java/lang/invoke/VarHandle" ∧ (parseMethodDescriptor yS_roleBelow.desc).map (fun d => d.parameters.length) = some 2 := by decide +kernel
theorem dm_L_chain : yL_chain.cls ≠ "java/lang/invoke/MethodHandle" ∧ yL_chain.cls ≠ "java/lang/invoke/VarHandle" ∧ (parseMethodDescriptor yL_chain.desc).map (fun d => d.parameters.length) = some 5 := by decide +kernel
theorem dm_S_chain : yS_chain.cls ≠ "java/lang/invoke/MethodHandle" ∧ yS_chain.cls ≠ "java/lang/invoke/VarHandle" ∧ (parseMethodDescriptor yS_chain.desc).map (fun d => d.parameters.length) = some 3 := by decide +kernel
theorem dm_L_isBelow : yL_isBelow.cls ≠ "java/lang/invoke/MethodHandle" ∧ yL_isBelow.cls ≠ "java/lang/invoke/VarHandle" ∧ (parseMethodDescriptor yL_isBelow.desc).map (fun d => d.parameters.length) = some 4 := by decide +kernel
theorem dm_S_isBelow : yS_isBelow.cls ≠ "java/lang/invoke/MethodHandle" ∧ yS_isBelow.cls ≠ "java/lang/invoke/VarHandle" ∧ (parseMethodDescriptor yS_isBelow.desc).map (fun d => d.parameters.length) = some 2 := by decide +kernel
theorem dm_C_place : yC_place.cls ≠ "java/lang/invoke/MethodHandle" ∧ yC_place.cls ≠ "java/lang/invoke/VarHandle" ∧ (parseMethodDescriptor yC_place.desc).map (fun d => d.parameters.length) = some 1 := by decide +kernel
theorem dm_L_supers : yL_supers.cls ≠ "java/lang/invoke/MethodHandle" ∧ yL_supers.cls ≠ "java/lang/invoke/VarHandle" ∧ (parseMethodDescriptor yL_supers.desc).map (fun d => d.parameters.length) = some 3 := by decide +kernel
theorem dm_S_supers : yS_supers.cls ≠ "java/lang/invoke/MethodHandle" ∧ yS_supers.cls ≠ "java/lang/invoke/VarHandle" ∧ (parseMethodDescriptor yS_supers.desc).map (fun d => d.parameters.length) = some 1 := by decide +kernel
theorem dm_S_isNameAbove : yS_isNameAbove.cls ≠ "java/lang/invoke/MethodHandle" ∧ yS_isNameAbove.cls ≠ "java/lang/invoke/VarHandle" ∧ (parseMethodDescriptor yS_isNameAbove.desc).map (fun d => d.parameters.length) = some 2 := by decide +kernel
theorem dm_T_isName : yT_isName.cls ≠ "java/lang/invoke/MethodHandle" ∧ yT_isName.cls ≠ "java/lang/invoke/VarHandle" ∧ (parseMethodDescriptor yT_isName.desc).map (fun d => d.parameters.length) = some 1 := by decide +kernel
theorem dm_L_sup : yL_sup.cls ≠ "java/lang/invoke/MethodHandle" ∧ yL_sup.cls ≠ "java/lang/invoke/VarHandle" ∧ (parseMethodDescriptor yL_sup.desc).map (fun d => d.parameters.length) = some 4 := by decide +kernel
theorem dm_S_sup : yS_sup.cls ≠ "java/lang/invoke/MethodHandle" ∧ yS_sup.cls ≠ "java/lang/invoke/VarHandle" ∧ (parseMethodDescriptor yS_sup.desc).map (fun d => d.parameters.length) = some 2 := by decide +kernel
theorem dm_L_direct : yL_direct.cls ≠ "java/lang/invoke/MethodHandle" ∧ yL_direct.cls ≠ "java/lang/invoke/VarHandle" ∧ (parseMethodDescriptor yL_direct.desc).map (fun d => d.parameters.length) = some 4 := by decide +kernel
theorem dm_S_direct : yS_direct.cls ≠ "java/lang/invoke/MethodHandle" ∧ yS_direct.cls ≠ "java/lang/invoke/VarHandle" ∧ (parseMethodDescriptor yS_direct.desc).map (fun d => d.parameters.length) = some 2 := by decide +kernel
theorem dm_C_placeWithAbove : yC_placeWithAbove.cls ≠ "java/lang/invoke/MethodHandle" ∧ yC_placeWithAbove.cls ≠ "java/lang/invoke/VarHandle" ∧ (parseMethodDescriptor yC_placeWithAbove.desc).map (fun d => d.parameters.length) = some 1 := by decide +kernel
theorem dm_S_isStrictlyBelow : yS_isStrictlyBelow.cls ≠ "java/lang/invoke/MethodHandle" ∧ yS_isStrictlyBelow.cls ≠ "java/lang/invoke/VarHandle" ∧ (parseMethodDescriptor yS_isStrictlyBelow.desc).map (fun d => d.parameters.length) = some 2 := by decide +kernel
theorem dm_L_twin : yL_twin.cls ≠ "java/lang/invoke/MethodHandle" ∧ yL_twin.cls ≠ "java/lang/invoke/VarHandle" ∧ (parseMethodDescriptor yL_twin.desc).map (fun d => d.parameters.length) = some 3 := by decide +kernel
theorem dm_S_twin : yS_twin.cls ≠ "java/lang/invoke/MethodHandle" ∧ yS_twin.cls ≠ "java/lang/invoke/VarHandle" ∧ (parseMethodDescriptor yS_twin.desc).map (fun d => d.parameters.length) = some 1 := by decide +kernel
theorem dm_L_common : yL_common.cls ≠ "java/lang/invoke/MethodHandle" ∧ yL_common.cls ≠ "java/lang/invoke/VarHandle" ∧ (parseMethodDescriptor yL_common.desc).map (fun d => d.parameters.length) = some 5 := by decide +kernel
theorem dm_S_common : yS_common.cls ≠ "java/lang/invoke/MethodHandle" ∧ yS_common.cls ≠ "java/lang/invoke/VarHandle" ∧ (parseMethodDescriptor yS_common.desc).map (fun d => d.parameters.length) = some 3 := by decide +kernel
theorem dm_S_isNameAboveBoth : yS_isNameAboveBoth.cls ≠ "java/lang/invoke/MethodHandle" ∧ yS_isNameAboveBoth.cls ≠ "java/lang/invoke/VarHandle" ∧ (parseMethodDescriptor yS_isNameAboveBoth.desc).map (fun d => d.parameters.length) = some 3 := by decide +kernel
theorem dm_S_isLowestAboveBoth : yS_isLowestAboveBoth.cls ≠ "java/lang/invoke/MethodHandle" ∧ yS_isLowestAboveBoth.cls ≠ "java/lang/invoke/VarHandle" ∧ (parseMethodDescriptor yS_isLowestAboveBoth.desc).map (fun d => d.parameters.length) = some 3 := by decide +kernel
theorem dm_L_why : yL_why.cls ≠ "java/lang/invoke/MethodHandle" ∧ yL_why.cls ≠ "java/lang/invoke/VarHandle" ∧ (parseMethodDescriptor yL_why.desc).map (fun d => d.parameters.length) = some 4 := by decide +kernel
theorem dm_S_why : yS_why.cls ≠ "java/lang/invoke/MethodHandle" ∧ yS_why.cls ≠ "java/lang/invoke/VarHandle" ∧ (parseMethodDescriptor yS_why.desc).map (fun d => d.parameters.length) = some 2 := by decide +kernel
theorem dm_S_reasonBefore : yS_reasonBefore.cls ≠ "java/lang/invoke/MethodHandle" ∧ yS_reasonBefore.cls ≠ "java/lang/invoke/VarHandle" ∧ (parseMethodDescriptor yS_reasonBefore.desc).map (fun d => d.parameters.length) = some 3 := by decide +kernel
theorem dm_L_has : yL_has.cls ≠ "java/lang/invoke/MethodHandle" ∧ yL_has.cls ≠ "java/lang/invoke/VarHandle" ∧ (parseMethodDescriptor yL_has.desc).map (fun d => d.parameters.length) = some 5 := by decide +kernel
theorem dm_S_has : yS_has.cls ≠ "java/lang/invoke/MethodHandle" ∧ yS_has.cls ≠ "java/lang/invoke/VarHandle" ∧ (parseMethodDescriptor yS_has.desc).map (fun d => d.parameters.length) = some 3 := by decide +kernel
theorem dm_C_reaches : yC_reaches.cls ≠ "java/lang/invoke/MethodHandle" ∧ yC_reaches.cls ≠ "java/lang/invoke/VarHandle" ∧ (parseMethodDescriptor yC_reaches.desc).map (fun d => d.parameters.length) = some 3 := by decide +kernel
theorem dm_M_init : yM_init.cls ≠ "java/lang/invoke/MethodHandle" ∧ yM_init.cls ≠ "java/lang/invoke/VarHandle" ∧ (parseMethodDescriptor yM_init.desc).map (fun d => d.parameters.length) = some 0 := by decide +kernel
theorem dm_M_thrown : yM_thrown.cls ≠ "java/lang/invoke/MethodHandle" ∧ yM_thrown.cls ≠ "java/lang/invoke/VarHandle" ∧ (parseMethodDescriptor yM_thrown.desc).map (fun d => d.parameters.length) = some 0 := by decide +kernel
theorem dm_M_name : yM_name.cls ≠ "java/lang/invoke/MethodHandle" ∧ yM_name.cls ≠ "java/lang/invoke/VarHandle" ∧ (parseMethodDescriptor yM_name.desc).map (fun d => d.parameters.length) = some 0 := by decide +kernel
theorem dm_M_made : yM_made.cls ≠ "java/lang/invoke/MethodHandle" ∧ yM_made.cls ≠ "java/lang/invoke/VarHandle" ∧ (parseMethodDescriptor yM_made.desc).map (fun d => d.parameters.length) = some 3 := by decide +kernel
theorem dm_M_both : yM_both.cls ≠ "java/lang/invoke/MethodHandle" ∧ yM_both.cls ≠ "java/lang/invoke/VarHandle" ∧ (parseMethodDescriptor yM_both.desc).map (fun d => d.parameters.length) = some 2 := by decide +kernel
theorem dm_M_isThere : yM_isThere.cls ≠ "java/lang/invoke/MethodHandle" ∧ yM_isThere.cls ≠ "java/lang/invoke/VarHandle" ∧ (parseMethodDescriptor yM_isThere.desc).map (fun d => d.parameters.length) = some 1 := by decide +kernel
theorem dm_M_fails : yM_fails.cls ≠ "java/lang/invoke/MethodHandle" ∧ yM_fails.cls ≠ "java/lang/invoke/VarHandle" ∧ (parseMethodDescriptor yM_fails.desc).map (fun d => d.parameters.length) = some 1 := by decide +kernel
theorem dm_M_some : yM_some.cls ≠ "java/lang/invoke/MethodHandle" ∧ yM_some.cls ≠ "java/lang/invoke/VarHandle" ∧ (parseMethodDescriptor yM_some.desc).map (fun d => d.parameters.length) = some 2 := by decide +kernel
theorem dm_M_isRole : yM_isRole.cls ≠ "java/lang/invoke/MethodHandle" ∧ yM_isRole.cls ≠ "java/lang/invoke/VarHandle" ∧ (parseMethodDescriptor yM_isRole.desc).map (fun d => d.parameters.length) = some 1 := by decide +kernel
theorem dm_M_below : yM_below.cls ≠ "java/lang/invoke/MethodHandle" ∧ yM_below.cls ≠ "java/lang/invoke/VarHandle" ∧ (parseMethodDescriptor yM_below.desc).map (fun d => d.parameters.length) = some 2 := by decide +kernel
theorem dm_M_axiom : yM_axiom.cls ≠ "java/lang/invoke/MethodHandle" ∧ yM_axiom.cls ≠ "java/lang/invoke/VarHandle" ∧ (parseMethodDescriptor yM_axiom.desc).map (fun d => d.parameters.length) = some 4 := by decide +kernel
theorem dm_M_equal : yM_equal.cls ≠ "java/lang/invoke/MethodHandle" ∧ yM_equal.cls ≠ "java/lang/invoke/VarHandle" ∧ (parseMethodDescriptor yM_equal.desc).map (fun d => d.parameters.length) = some 2 := by decide +kernel
theorem dm_M_roleBelow : yM_roleBelow.cls ≠ "java/lang/invoke/MethodHandle" ∧ yM_roleBelow.cls ≠ "java/lang/invoke/VarHandle" ∧ (parseMethodDescriptor yM_roleBelow.desc).map (fun d => d.parameters.length) = some 2 := by decide +kernel
theorem dm_M_chain : yM_chain.cls ≠ "java/lang/invoke/MethodHandle" ∧ yM_chain.cls ≠ "java/lang/invoke/VarHandle" ∧ (parseMethodDescriptor yM_chain.desc).map (fun d => d.parameters.length) = some 3 := by decide +kernel
theorem dm_M_retract : yM_retract.cls ≠ "java/lang/invoke/MethodHandle" ∧ yM_retract.cls ≠ "java/lang/invoke/VarHandle" ∧ (parseMethodDescriptor yM_retract.desc).map (fun d => d.parameters.length) = some 1 := by decide +kernel
theorem dm_M_isBelow : yM_isBelow.cls ≠ "java/lang/invoke/MethodHandle" ∧ yM_isBelow.cls ≠ "java/lang/invoke/VarHandle" ∧ (parseMethodDescriptor yM_isBelow.desc).map (fun d => d.parameters.length) = some 2 := by decide +kernel
theorem dm_M_close : yM_close.cls ≠ "java/lang/invoke/MethodHandle" ∧ yM_close.cls ≠ "java/lang/invoke/VarHandle" ∧ (parseMethodDescriptor yM_close.desc).map (fun d => d.parameters.length) = some 0 := by decide +kernel
theorem dm_M_follow : yM_follow.cls ≠ "java/lang/invoke/MethodHandle" ∧ yM_follow.cls ≠ "java/lang/invoke/VarHandle" ∧ (parseMethodDescriptor yM_follow.desc).map (fun d => d.parameters.length) = some 2 := by decide +kernel
theorem dm_M_add : yM_add.cls ≠ "java/lang/invoke/MethodHandle" ∧ yM_add.cls ≠ "java/lang/invoke/VarHandle" ∧ (parseMethodDescriptor yM_add.desc).map (fun d => d.parameters.length) = some 2 := by decide +kernel
theorem dm_M_in : yM_in.cls ≠ "java/lang/invoke/MethodHandle" ∧ yM_in.cls ≠ "java/lang/invoke/VarHandle" ∧ (parseMethodDescriptor yM_in.desc).map (fun d => d.parameters.length) = some 3 := by decide +kernel
theorem dm_M_set : yM_set.cls ≠ "java/lang/invoke/MethodHandle" ∧ yM_set.cls ≠ "java/lang/invoke/VarHandle" ∧ (parseMethodDescriptor yM_set.desc).map (fun d => d.parameters.length) = some 3 := by decide +kernel
theorem dm_M_byAxioms : yM_byAxioms.cls ≠ "java/lang/invoke/MethodHandle" ∧ yM_byAxioms.cls ≠ "java/lang/invoke/VarHandle" ∧ (parseMethodDescriptor yM_byAxioms.desc).map (fun d => d.parameters.length) = some 1 := by decide +kernel
theorem dm_M_row : yM_row.cls ≠ "java/lang/invoke/MethodHandle" ∧ yM_row.cls ≠ "java/lang/invoke/VarHandle" ∧ (parseMethodDescriptor yM_row.desc).map (fun d => d.parameters.length) = some 2 := by decide +kernel
theorem dm_M_join : yM_join.cls ≠ "java/lang/invoke/MethodHandle" ∧ yM_join.cls ≠ "java/lang/invoke/VarHandle" ∧ (parseMethodDescriptor yM_join.desc).map (fun d => d.parameters.length) = some 2 := by decide +kernel
theorem dm_M_byChain : yM_byChain.cls ≠ "java/lang/invoke/MethodHandle" ∧ yM_byChain.cls ≠ "java/lang/invoke/VarHandle" ∧ (parseMethodDescriptor yM_byChain.desc).map (fun d => d.parameters.length) = some 4 := by decide +kernel
theorem dm_M_byDescriptions : yM_byDescriptions.cls ≠ "java/lang/invoke/MethodHandle" ∧ yM_byDescriptions.cls ≠ "java/lang/invoke/VarHandle" ∧ (parseMethodDescriptor yM_byDescriptions.desc).map (fun d => d.parameters.length) = some 1 := by decide +kernel
theorem dm_M_meets : yM_meets.cls ≠ "java/lang/invoke/MethodHandle" ∧ yM_meets.cls ≠ "java/lang/invoke/VarHandle" ∧ (parseMethodDescriptor yM_meets.desc).map (fun d => d.parameters.length) = some 3 := by decide +kernel
theorem dm_M_byNothing : yM_byNothing.cls ≠ "java/lang/invoke/MethodHandle" ∧ yM_byNothing.cls ≠ "java/lang/invoke/VarHandle" ∧ (parseMethodDescriptor yM_byNothing.desc).map (fun d => d.parameters.length) = some 1 := by decide +kernel
theorem dm_M_supers : yM_supers.cls ≠ "java/lang/invoke/MethodHandle" ∧ yM_supers.cls ≠ "java/lang/invoke/VarHandle" ∧ (parseMethodDescriptor yM_supers.desc).map (fun d => d.parameters.length) = some 1 := by decide +kernel
theorem dm_M_sup : yM_sup.cls ≠ "java/lang/invoke/MethodHandle" ∧ yM_sup.cls ≠ "java/lang/invoke/VarHandle" ∧ (parseMethodDescriptor yM_sup.desc).map (fun d => d.parameters.length) = some 2 := by decide +kernel
theorem dm_M_direct : yM_direct.cls ≠ "java/lang/invoke/MethodHandle" ∧ yM_direct.cls ≠ "java/lang/invoke/VarHandle" ∧ (parseMethodDescriptor yM_direct.desc).map (fun d => d.parameters.length) = some 2 := by decide +kernel
theorem dm_M_strictly : yM_strictly.cls ≠ "java/lang/invoke/MethodHandle" ∧ yM_strictly.cls ≠ "java/lang/invoke/VarHandle" ∧ (parseMethodDescriptor yM_strictly.desc).map (fun d => d.parameters.length) = some 2 := by decide +kernel
theorem dm_M_twin : yM_twin.cls ≠ "java/lang/invoke/MethodHandle" ∧ yM_twin.cls ≠ "java/lang/invoke/VarHandle" ∧ (parseMethodDescriptor yM_twin.desc).map (fun d => d.parameters.length) = some 1 := by decide +kernel
theorem dm_M_least : yM_least.cls ≠ "java/lang/invoke/MethodHandle" ∧ yM_least.cls ≠ "java/lang/invoke/VarHandle" ∧ (parseMethodDescriptor yM_least.desc).map (fun d => d.parameters.length) = some 1 := by decide +kernel
theorem dm_M_common : yM_common.cls ≠ "java/lang/invoke/MethodHandle" ∧ yM_common.cls ≠ "java/lang/invoke/VarHandle" ∧ (parseMethodDescriptor yM_common.desc).map (fun d => d.parameters.length) = some 3 := by decide +kernel
theorem dm_M_isCommon : yM_isCommon.cls ≠ "java/lang/invoke/MethodHandle" ∧ yM_isCommon.cls ≠ "java/lang/invoke/VarHandle" ∧ (parseMethodDescriptor yM_isCommon.desc).map (fun d => d.parameters.length) = some 3 := by decide +kernel
theorem dm_M_why : yM_why.cls ≠ "java/lang/invoke/MethodHandle" ∧ yM_why.cls ≠ "java/lang/invoke/VarHandle" ∧ (parseMethodDescriptor yM_why.desc).map (fun d => d.parameters.length) = some 2 := by decide +kernel
theorem dm_M_reason : yM_reason.cls ≠ "java/lang/invoke/MethodHandle" ∧ yM_reason.cls ≠ "java/lang/invoke/VarHandle" ∧ (parseMethodDescriptor yM_reason.desc).map (fun d => d.parameters.length) = some 1 := by decide +kernel
theorem dm_M_has : yM_has.cls ≠ "java/lang/invoke/MethodHandle" ∧ yM_has.cls ≠ "java/lang/invoke/VarHandle" ∧ (parseMethodDescriptor yM_has.desc).map (fun d => d.parameters.length) = some 3 := by decide +kernel
theorem dm_M_count : yM_count.cls ≠ "java/lang/invoke/MethodHandle" ∧ yM_count.cls ≠ "java/lang/invoke/VarHandle" ∧ (parseMethodDescriptor yM_count.desc).map (fun d => d.parameters.length) = some 1 := by decide +kernel
theorem dm_M_pairs : yM_pairs.cls ≠ "java/lang/invoke/MethodHandle" ∧ yM_pairs.cls ≠ "java/lang/invoke/VarHandle" ∧ (parseMethodDescriptor yM_pairs.desc).map (fun d => d.parameters.length) = some 0 := by decide +kernel
theorem ini_B : Cond.initialized RcB ∈ wA := wA_m (tb_1 (List.mem_of_getElem? (i := 3) rfl)) rfl
theorem ins_B : Cond.instantiable RcB 3 ∈ wA := wA_m (tb_1 (List.mem_of_getElem? (i := 29) rfl)) rfl
theorem ini_T : Cond.initialized RcT ∈ wA := wA_m (tb_1 (List.mem_of_getElem? (i := 2) rfl)) rfl
theorem ins_T : Cond.instantiable RcT 8 ∈ wA := wA_m (tb_1 (List.mem_of_getElem? (i := 23) rfl)) rfl
theorem ini_A : Cond.initialized RcA ∈ wA := wA_m (tb_1 (List.mem_of_getElem? (i := 5) rfl)) rfl
theorem ins_A : Cond.instantiable RcA 7 ∈ wA := wA_m (tb_1 (List.mem_of_getElem? (i := 77) rfl)) rfl
theorem ini_C : Cond.initialized RcC ∈ wA := wA_m (tb_1 (List.mem_of_getElem? (i := 6) rfl)) rfl
theorem ins_C : Cond.instantiable RcC 12 ∈ wA := wA_m (tb_1 (List.mem_of_getElem? (i := 106) rfl)) rfl
theorem ini_S : Cond.initialized RcS ∈ wA := wA_m (tb_1 (List.mem_of_getElem? (i := 1) rfl)) rfl
theorem ins_S : Cond.instantiable RcS 5 ∈ wA := wA_m (tb_1 (List.mem_of_getElem? (i := 15) rfl)) rfl
theorem ini_M : Cond.initialized RcM ∈ wA := wA_m (tb_1 (List.mem_of_getElem? (i := 7) rfl)) rfl
theorem ins_M : Cond.instantiable RcM 19 ∈ wA := wA_m (tb_3 (List.mem_of_getElem? (i := 130) rfl)) rfl
theorem ini_L : Cond.initialized RcL ∈ wA := wA_m (tb_1 (List.mem_of_getElem? (i := 0) rfl)) rfl
theorem ini_Jl : Cond.initialized RcJl ∈ wA := wA_m (tb_1 (List.mem_of_getElem? (i := 12) rfl)) rfl
theorem ini_Ja : Cond.initialized RcJa ∈ wA := wA_m (tb_1 (List.mem_of_getElem? (i := 4) rfl)) rfl
theorem ini_Jm : Cond.initialized RcJm ∈ wA := wA_m (tb_1 (List.mem_of_getElem? (i := 13) rfl)) rfl
theorem arr_int : Cond.arrayClass .int ∈ wA := wA_m (tb_1 (List.mem_of_getElem? (i := 44) rfl)) rfl
theorem arr_long : Cond.arrayClass .long ∈ wA := wA_m (tb_1 (List.mem_of_getElem? (i := 45) rfl)) rfl
theorem arr_boolean : Cond.arrayClass .boolean ∈ wA := wA_m (tb_1 (List.mem_of_getElem? (i := 104) rfl)) rfl
theorem mcl_L_8 : Cond.classLink RcL 8 RcS ∈ wA := wA_m (tb_1 (List.mem_of_getElem? (i := 14) rfl)) rfl
theorem mcl_S_7 : Cond.classLink RcS 7 RcT ∈ wA := wA_m (tb_1 (List.mem_of_getElem? (i := 22) rfl)) rfl
theorem mcl_T_24 : Cond.classLink RcT 24 RcB ∈ wA := wA_m (tb_1 (List.mem_of_getElem? (i := 28) rfl)) rfl
theorem mcl_S_16 : Cond.classLink RcS 16 RcA ∈ wA := wA_m (tb_1 (List.mem_of_getElem? (i := 76) rfl)) rfl
theorem mcl_S_23 : Cond.classLink RcS 23 RcC ∈ wA := wA_m (tb_1 (List.mem_of_getElem? (i := 105) rfl)) rfl
theorem mcl_C_19 : Cond.classLink RcC 19 RcB ∈ wA := wA_m (tb_1 (List.mem_of_getElem? (i := 111) rfl)) rfl
theorem mcl_L_59 : Cond.classLink RcL 59 RcM ∈ wA := wA_m (tb_3 (List.mem_of_getElem? (i := 129) rfl)) rfl
theorem mct_Jl_314 : Cond.constantLong RcJl 314 (6148914691236517205) ∈ wA := wA_m (tb_2 (List.mem_of_getElem? (i := 7) rfl)) rfl
theorem mct_Jl_316 : Cond.constantLong RcJl 316 (3689348814741910323) ∈ wA := wA_m (tb_2 (List.mem_of_getElem? (i := 8) rfl)) rfl
theorem mct_Jl_318 : Cond.constantLong RcJl 318 (1085102592571150095) ∈ wA := wA_m (tb_2 (List.mem_of_getElem? (i := 9) rfl)) rfl
theorem mct_B_20 : Cond.constantLong RcB 20 (-1) ∈ wA := wA_m (tb_2 (List.mem_of_getElem? (i := 35) rfl)) rfl
theorem mct_C_119 : Cond.constant RcC 119 (179200) ∈ wA := wA_m (tb_2 (List.mem_of_getElem? (i := 69) rfl)) rfl
end
section
section NF
variable {p : Program} {l : Launch} {e : Env} {R : Room} {s : State} {m : MethodId} {args : Array Value} {below : List Frame} {meth : Method} {c : Code} {H : Heap} {locs : List Loc} {cells slots : Nat} {Q : State → Prop}
variable {cc : ByteArray} {pc : Nat} {ls : Array Slot} {rest : List Value} {D : va_G} {A : Nat → Prop} {a : Nat} {tys : List (ClassId × FieldType)} {ws : va_W} {H0 : Heap}
theorem mf_B_7 : Cond.fieldLink RcB 7 (FcB 0).1 (FcB 0).2.1 (FcB 0).2.2.1 ∈ wA := wA_m (tb_1 (List.mem_of_getElem? (i := 34) rfl)) rfl
theorem gf_B_7 (hx : p.tables.exec = Jvm.exec) (hb : c.code = cc) (hA : ∀ w ∈ wA, w.before args s = true) (hown : s.vm.findClass RcB = some m.cls) (hK : va_K D vwA tys s) (hP : va_P D vwA ws H) (q0 : Nat) {fs : List Value} (he : ws[q0]? = some (a, .inr (0, fs))) {v : Value} (hv : fs[0]? = some v) (hdg : decode cc pc = .ok (.getfield 7, 3))
    (kk : W p l e R s m args below meth c H locs cells slots Q (F0 m (pc + 3) ls (v :: rest))) : W p l e R s m args below meth c H locs cells slots Q (F0 m pc ls (.ref a :: rest)) :=
  va_get (D := D) (ci := 0) (C := RcB) (T := FcB) (N := 3) hx hb hA inB hown hK hP q0 he rfl 0 (by decide) (hA _ mf_B_7) (fun _ h => h) hv hdg kk
theorem pf_B_7 (hx : p.tables.exec = Jvm.exec) (hb : c.code = cc) (hA : ∀ w ∈ wA, w.before args s = true) (hown : s.vm.findClass RcB = some m.cls) (hK : va_K D vwA tys s) (hP : va_P D vwA ws H) (hD : va_D A ws) (hS : va_S A H0 H locs) (q0 : Nat) {fs : List Value} (he : ws[q0]? = some (a, .inr (0, fs))) (hin2 : meth.name = "<init>") {v : Value} (hn : narrow (tcB 0) v = v) (hfit : fits (tcB 0) v = true) (hl : 0 < fs.length) (hdg : decode cc pc = .ok (.putfield 7, 3))
    (kk : ∀ (H1 : Heap) (locs1 : List Loc), va_P D vwA (ws.set q0 (a, .inr (0, fs.set 0 v))) H1 → va_D A (ws.set q0 (a, .inr (0, fs.set 0 v))) → va_S A H0 H1 locs1 → W p l e R s m args below meth c H1 locs1 cells slots Q (F0 m (pc + 3) ls rest)) : W p l e R s m args below meth c H locs cells slots Q (F0 m pc ls (v :: .ref a :: rest)) :=
  va_putF (D := D) (ci := 0) (C := RcB) (T := FcB) (N := 3) hx hb hA inB tcB okB nmB hown hK hP hD hS q0 he rfl 0 (by decide) (hA _ mf_B_7) (fun _ h => h) rfl hin2 rfl (okB 0 (by decide)) hn hfit hl hdg kk
theorem mf_B_13 : Cond.fieldLink RcB 13 (FcB 1).1 (FcB 1).2.1 (FcB 1).2.2.1 ∈ wA := wA_m (tb_1 (List.mem_of_getElem? (i := 35) rfl)) rfl
theorem gf_B_13 (hx : p.tables.exec = Jvm.exec) (hb : c.code = cc) (hA : ∀ w ∈ wA, w.before args s = true) (hown : s.vm.findClass RcB = some m.cls) (hK : va_K D vwA tys s) (hP : va_P D vwA ws H) (q0 : Nat) {fs : List Value} (he : ws[q0]? = some (a, .inr (0, fs))) {v : Value} (hv : fs[1]? = some v) (hdg : decode cc pc = .ok (.getfield 13, 3))
    (kk : W p l e R s m args below meth c H locs cells slots Q (F0 m (pc + 3) ls (v :: rest))) : W p l e R s m args below meth c H locs cells slots Q (F0 m pc ls (.ref a :: rest)) :=
  va_get (D := D) (ci := 0) (C := RcB) (T := FcB) (N := 3) hx hb hA inB hown hK hP q0 he rfl 1 (by decide) (hA _ mf_B_13) (fun _ h => h) hv hdg kk
theorem pf_B_13 (hx : p.tables.exec = Jvm.exec) (hb : c.code = cc) (hA : ∀ w ∈ wA, w.before args s = true) (hown : s.vm.findClass RcB = some m.cls) (hK : va_K D vwA tys s) (hP : va_P D vwA ws H) (hD : va_D A ws) (hS : va_S A H0 H locs) (q0 : Nat) {fs : List Value} (he : ws[q0]? = some (a, .inr (0, fs))) (hin2 : meth.name = "<init>") {v : Value} (hn : narrow (tcB 1) v = v) (hfit : fits (tcB 1) v = true) (hl : 1 < fs.length) (hdg : decode cc pc = .ok (.putfield 13, 3))
    (kk : ∀ (H1 : Heap) (locs1 : List Loc), va_P D vwA (ws.set q0 (a, .inr (0, fs.set 1 v))) H1 → va_D A (ws.set q0 (a, .inr (0, fs.set 1 v))) → va_S A H0 H1 locs1 → W p l e R s m args below meth c H1 locs1 cells slots Q (F0 m (pc + 3) ls rest)) : W p l e R s m args below meth c H locs cells slots Q (F0 m pc ls (v :: .ref a :: rest)) :=
  va_putF (D := D) (ci := 0) (C := RcB) (T := FcB) (N := 3) hx hb hA inB tcB okB nmB hown hK hP hD hS q0 he rfl 1 (by decide) (hA _ mf_B_13) (fun _ h => h) rfl hin2 rfl (okB 1 (by decide)) hn hfit hl hdg kk
theorem mf_B_16 : Cond.fieldLink RcB 16 (FcB 2).1 (FcB 2).2.1 (FcB 2).2.2.1 ∈ wA := wA_m (tb_1 (List.mem_of_getElem? (i := 36) rfl)) rfl
theorem gf_B_16 (hx : p.tables.exec = Jvm.exec) (hb : c.code = cc) (hA : ∀ w ∈ wA, w.before args s = true) (hown : s.vm.findClass RcB = some m.cls) (hK : va_K D vwA tys s) (hP : va_P D vwA ws H) (q0 : Nat) {fs : List Value} (he : ws[q0]? = some (a, .inr (0, fs))) {v : Value} (hv : fs[2]? = some v) (hdg : decode cc pc = .ok (.getfield 16, 3))
    (kk : W p l e R s m args below meth c H locs cells slots Q (F0 m (pc + 3) ls (v :: rest))) : W p l e R s m args below meth c H locs cells slots Q (F0 m pc ls (.ref a :: rest)) :=
  va_get (D := D) (ci := 0) (C := RcB) (T := FcB) (N := 3) hx hb hA inB hown hK hP q0 he rfl 2 (by decide) (hA _ mf_B_16) (fun _ h => h) hv hdg kk
theorem pf_B_16 (hx : p.tables.exec = Jvm.exec) (hb : c.code = cc) (hA : ∀ w ∈ wA, w.before args s = true) (hown : s.vm.findClass RcB = some m.cls) (hK : va_K D vwA tys s) (hP : va_P D vwA ws H) (hD : va_D A ws) (hS : va_S A H0 H locs) (q0 : Nat) {fs : List Value} (he : ws[q0]? = some (a, .inr (0, fs))) (hin2 : meth.name = "<init>") {v : Value} (hn : narrow (tcB 2) v = v) (hfit : fits (tcB 2) v = true) (hl : 2 < fs.length) (hdg : decode cc pc = .ok (.putfield 16, 3))
    (kk : ∀ (H1 : Heap) (locs1 : List Loc), va_P D vwA (ws.set q0 (a, .inr (0, fs.set 2 v))) H1 → va_D A (ws.set q0 (a, .inr (0, fs.set 2 v))) → va_S A H0 H1 locs1 → W p l e R s m args below meth c H1 locs1 cells slots Q (F0 m (pc + 3) ls rest)) : W p l e R s m args below meth c H locs cells slots Q (F0 m pc ls (v :: .ref a :: rest)) :=
  va_putF (D := D) (ci := 0) (C := RcB) (T := FcB) (N := 3) hx hb hA inB tcB okB nmB hown hK hP hD hS q0 he rfl 2 (by decide) (hA _ mf_B_16) (fun _ h => h) rfl hin2 rfl (okB 2 (by decide)) hn hfit hl hdg kk
theorem mf_T_9 : Cond.fieldLink RcT 9 (FcT 0).1 (FcT 0).2.1 (FcT 0).2.2.1 ∈ wA := wA_m (tb_1 (List.mem_of_getElem? (i := 49) rfl)) rfl
theorem gf_T_9 (hx : p.tables.exec = Jvm.exec) (hb : c.code = cc) (hA : ∀ w ∈ wA, w.before args s = true) (hown : s.vm.findClass RcT = some m.cls) (hK : va_K D vwA tys s) (hP : va_P D vwA ws H) (q0 : Nat) {fs : List Value} (he : ws[q0]? = some (a, .inr (1, fs))) {v : Value} (hv : fs[0]? = some v) (hdg : decode cc pc = .ok (.getfield 9, 3))
    (kk : W p l e R s m args below meth c H locs cells slots Q (F0 m (pc + 3) ls (v :: rest))) : W p l e R s m args below meth c H locs cells slots Q (F0 m pc ls (.ref a :: rest)) :=
  va_get (D := D) (ci := 1) (C := RcT) (T := FcT) (N := 8) hx hb hA inT hown hK hP q0 he rfl 0 (by decide) (hA _ mf_T_9) (fun _ h => h) hv hdg kk
theorem pf_T_9 (hx : p.tables.exec = Jvm.exec) (hb : c.code = cc) (hA : ∀ w ∈ wA, w.before args s = true) (hown : s.vm.findClass RcT = some m.cls) (hK : va_K D vwA tys s) (hP : va_P D vwA ws H) (hD : va_D A ws) (hS : va_S A H0 H locs) (q0 : Nat) {fs : List Value} (he : ws[q0]? = some (a, .inr (1, fs))) (hin2 : meth.name = "<init>") {v : Value} (hn : narrow (tcT 0) v = v) (hfit : fits (tcT 0) v = true) (hl : 0 < fs.length) (hdg : decode cc pc = .ok (.putfield 9, 3))
    (kk : ∀ (H1 : Heap) (locs1 : List Loc), va_P D vwA (ws.set q0 (a, .inr (1, fs.set 0 v))) H1 → va_D A (ws.set q0 (a, .inr (1, fs.set 0 v))) → va_S A H0 H1 locs1 → W p l e R s m args below meth c H1 locs1 cells slots Q (F0 m (pc + 3) ls rest)) : W p l e R s m args below meth c H locs cells slots Q (F0 m pc ls (v :: .ref a :: rest)) :=
  va_putF (D := D) (ci := 1) (C := RcT) (T := FcT) (N := 8) hx hb hA inT tcT okT nmT hown hK hP hD hS q0 he rfl 0 (by decide) (hA _ mf_T_9) (fun _ h => h) rfl hin2 rfl (okT 0 (by decide)) hn hfit hl hdg kk
theorem mf_T_15 : Cond.fieldLink RcT 15 (FcT 1).1 (FcT 1).2.1 (FcT 1).2.2.1 ∈ wA := wA_m (tb_1 (List.mem_of_getElem? (i := 50) rfl)) rfl
theorem gf_T_15 (hx : p.tables.exec = Jvm.exec) (hb : c.code = cc) (hA : ∀ w ∈ wA, w.before args s = true) (hown : s.vm.findClass RcT = some m.cls) (hK : va_K D vwA tys s) (hP : va_P D vwA ws H) (q0 : Nat) {fs : List Value} (he : ws[q0]? = some (a, .inr (1, fs))) {v : Value} (hv : fs[1]? = some v) (hdg : decode cc pc = .ok (.getfield 15, 3))
    (kk : W p l e R s m args below meth c H locs cells slots Q (F0 m (pc + 3) ls (v :: rest))) : W p l e R s m args below meth c H locs cells slots Q (F0 m pc ls (.ref a :: rest)) :=
  va_get (D := D) (ci := 1) (C := RcT) (T := FcT) (N := 8) hx hb hA inT hown hK hP q0 he rfl 1 (by decide) (hA _ mf_T_15) (fun _ h => h) hv hdg kk
theorem pf_T_15 (hx : p.tables.exec = Jvm.exec) (hb : c.code = cc) (hA : ∀ w ∈ wA, w.before args s = true) (hown : s.vm.findClass RcT = some m.cls) (hK : va_K D vwA tys s) (hP : va_P D vwA ws H) (hD : va_D A ws) (hS : va_S A H0 H locs) (q0 : Nat) {fs : List Value} (he : ws[q0]? = some (a, .inr (1, fs))) (hin2 : meth.name = "<init>") {v : Value} (hn : narrow (tcT 1) v = v) (hfit : fits (tcT 1) v = true) (hl : 1 < fs.length) (hdg : decode cc pc = .ok (.putfield 15, 3))
    (kk : ∀ (H1 : Heap) (locs1 : List Loc), va_P D vwA (ws.set q0 (a, .inr (1, fs.set 1 v))) H1 → va_D A (ws.set q0 (a, .inr (1, fs.set 1 v))) → va_S A H0 H1 locs1 → W p l e R s m args below meth c H1 locs1 cells slots Q (F0 m (pc + 3) ls rest)) : W p l e R s m args below meth c H locs cells slots Q (F0 m pc ls (v :: .ref a :: rest)) :=
  va_putF (D := D) (ci := 1) (C := RcT) (T := FcT) (N := 8) hx hb hA inT tcT okT nmT hown hK hP hD hS q0 he rfl 1 (by decide) (hA _ mf_T_15) (fun _ h => h) rfl hin2 rfl (okT 1 (by decide)) hn hfit hl hdg kk
theorem mf_T_18 : Cond.fieldLink RcT 18 (FcT 2).1 (FcT 2).2.1 (FcT 2).2.2.1 ∈ wA := wA_m (tb_1 (List.mem_of_getElem? (i := 51) rfl)) rfl
theorem gf_T_18 (hx : p.tables.exec = Jvm.exec) (hb : c.code = cc) (hA : ∀ w ∈ wA, w.before args s = true) (hown : s.vm.findClass RcT = some m.cls) (hK : va_K D vwA tys s) (hP : va_P D vwA ws H) (q0 : Nat) {fs : List Value} (he : ws[q0]? = some (a, .inr (1, fs))) {v : Value} (hv : fs[2]? = some v) (hdg : decode cc pc = .ok (.getfield 18, 3))
    (kk : W p l e R s m args below meth c H locs cells slots Q (F0 m (pc + 3) ls (v :: rest))) : W p l e R s m args below meth c H locs cells slots Q (F0 m pc ls (.ref a :: rest)) :=
  va_get (D := D) (ci := 1) (C := RcT) (T := FcT) (N := 8) hx hb hA inT hown hK hP q0 he rfl 2 (by decide) (hA _ mf_T_18) (fun _ h => h) hv hdg kk
theorem pf_T_18 (hx : p.tables.exec = Jvm.exec) (hb : c.code = cc) (hA : ∀ w ∈ wA, w.before args s = true) (hown : s.vm.findClass RcT = some m.cls) (hK : va_K D vwA tys s) (hP : va_P D vwA ws H) (hD : va_D A ws) (hS : va_S A H0 H locs) (q0 : Nat) {fs : List Value} (he : ws[q0]? = some (a, .inr (1, fs))) (hin2 : meth.name = "<init>") {v : Value} (hn : narrow (tcT 2) v = v) (hfit : fits (tcT 2) v = true) (hl : 2 < fs.length) (hdg : decode cc pc = .ok (.putfield 18, 3))
    (kk : ∀ (H1 : Heap) (locs1 : List Loc), va_P D vwA (ws.set q0 (a, .inr (1, fs.set 2 v))) H1 → va_D A (ws.set q0 (a, .inr (1, fs.set 2 v))) → va_S A H0 H1 locs1 → W p l e R s m args below meth c H1 locs1 cells slots Q (F0 m (pc + 3) ls rest)) : W p l e R s m args below meth c H locs cells slots Q (F0 m pc ls (v :: .ref a :: rest)) :=
  va_putF (D := D) (ci := 1) (C := RcT) (T := FcT) (N := 8) hx hb hA inT tcT okT nmT hown hK hP hD hS q0 he rfl 2 (by decide) (hA _ mf_T_18) (fun _ h => h) rfl hin2 rfl (okT 2 (by decide)) hn hfit hl hdg kk
theorem mf_T_21 : Cond.fieldLink RcT 21 (FcT 3).1 (FcT 3).2.1 (FcT 3).2.2.1 ∈ wA := wA_m (tb_1 (List.mem_of_getElem? (i := 52) rfl)) rfl
theorem gf_T_21 (hx : p.tables.exec = Jvm.exec) (hb : c.code = cc) (hA : ∀ w ∈ wA, w.before args s = true) (hown : s.vm.findClass RcT = some m.cls) (hK : va_K D vwA tys s) (hP : va_P D vwA ws H) (q0 : Nat) {fs : List Value} (he : ws[q0]? = some (a, .inr (1, fs))) {v : Value} (hv : fs[3]? = some v) (hdg : decode cc pc = .ok (.getfield 21, 3))
    (kk : W p l e R s m args below meth c H locs cells slots Q (F0 m (pc + 3) ls (v :: rest))) : W p l e R s m args below meth c H locs cells slots Q (F0 m pc ls (.ref a :: rest)) :=
  va_get (D := D) (ci := 1) (C := RcT) (T := FcT) (N := 8) hx hb hA inT hown hK hP q0 he rfl 3 (by decide) (hA _ mf_T_21) (fun _ h => h) hv hdg kk
theorem pf_T_21 (hx : p.tables.exec = Jvm.exec) (hb : c.code = cc) (hA : ∀ w ∈ wA, w.before args s = true) (hown : s.vm.findClass RcT = some m.cls) (hK : va_K D vwA tys s) (hP : va_P D vwA ws H) (hD : va_D A ws) (hS : va_S A H0 H locs) (q0 : Nat) {fs : List Value} (he : ws[q0]? = some (a, .inr (1, fs))) (hin2 : meth.name = "<init>") {v : Value} (hn : narrow (tcT 3) v = v) (hfit : fits (tcT 3) v = true) (hl : 3 < fs.length) (hdg : decode cc pc = .ok (.putfield 21, 3))
    (kk : ∀ (H1 : Heap) (locs1 : List Loc), va_P D vwA (ws.set q0 (a, .inr (1, fs.set 3 v))) H1 → va_D A (ws.set q0 (a, .inr (1, fs.set 3 v))) → va_S A H0 H1 locs1 → W p l e R s m args below meth c H1 locs1 cells slots Q (F0 m (pc + 3) ls rest)) : W p l e R s m args below meth c H locs cells slots Q (F0 m pc ls (v :: .ref a :: rest)) :=
  va_putF (D := D) (ci := 1) (C := RcT) (T := FcT) (N := 8) hx hb hA inT tcT okT nmT hown hK hP hD hS q0 he rfl 3 (by decide) (hA _ mf_T_21) (fun _ h => h) rfl hin2 rfl (okT 3 (by decide)) hn hfit hl hdg kk
theorem mf_T_29 : Cond.fieldLink RcT 29 (FcT 4).1 (FcT 4).2.1 (FcT 4).2.2.1 ∈ wA := wA_m (tb_1 (List.mem_of_getElem? (i := 53) rfl)) rfl
theorem gf_T_29 (hx : p.tables.exec = Jvm.exec) (hb : c.code = cc) (hA : ∀ w ∈ wA, w.before args s = true) (hown : s.vm.findClass RcT = some m.cls) (hK : va_K D vwA tys s) (hP : va_P D vwA ws H) (q0 : Nat) {fs : List Value} (he : ws[q0]? = some (a, .inr (1, fs))) {v : Value} (hv : fs[4]? = some v) (hdg : decode cc pc = .ok (.getfield 29, 3))
    (kk : W p l e R s m args below meth c H locs cells slots Q (F0 m (pc + 3) ls (v :: rest))) : W p l e R s m args below meth c H locs cells slots Q (F0 m pc ls (.ref a :: rest)) :=
  va_get (D := D) (ci := 1) (C := RcT) (T := FcT) (N := 8) hx hb hA inT hown hK hP q0 he rfl 4 (by decide) (hA _ mf_T_29) (fun _ h => h) hv hdg kk
theorem pf_T_29 (hx : p.tables.exec = Jvm.exec) (hb : c.code = cc) (hA : ∀ w ∈ wA, w.before args s = true) (hown : s.vm.findClass RcT = some m.cls) (hK : va_K D vwA tys s) (hP : va_P D vwA ws H) (hD : va_D A ws) (hS : va_S A H0 H locs) (q0 : Nat) {fs : List Value} (he : ws[q0]? = some (a, .inr (1, fs))) (hin2 : meth.name = "<init>") {v : Value} (hn : narrow (tcT 4) v = v) (hfit : fits (tcT 4) v = true) (hl : 4 < fs.length) (hdg : decode cc pc = .ok (.putfield 29, 3))
    (kk : ∀ (H1 : Heap) (locs1 : List Loc), va_P D vwA (ws.set q0 (a, .inr (1, fs.set 4 v))) H1 → va_D A (ws.set q0 (a, .inr (1, fs.set 4 v))) → va_S A H0 H1 locs1 → W p l e R s m args below meth c H1 locs1 cells slots Q (F0 m (pc + 3) ls rest)) : W p l e R s m args below meth c H locs cells slots Q (F0 m pc ls (v :: .ref a :: rest)) :=
  va_putF (D := D) (ci := 1) (C := RcT) (T := FcT) (N := 8) hx hb hA inT tcT okT nmT hown hK hP hD hS q0 he rfl 4 (by decide) (hA _ mf_T_29) (fun _ h => h) rfl hin2 rfl (okT 4 (by decide)) hn hfit hl hdg kk
theorem mf_C_170 : Cond.fieldLink RcC 170 (FcT 4).1 (FcT 4).2.1 (FcT 4).2.2.1 ∈ wA := wA_m (tb_1 (List.mem_of_getElem? (i := 54) rfl)) rfl
theorem gf_C_170 (hx : p.tables.exec = Jvm.exec) (hb : c.code = cc) (hA : ∀ w ∈ wA, w.before args s = true) (hown : s.vm.findClass RcC = some m.cls) (hK : va_K D vwA tys s) (hP : va_P D vwA ws H) (q0 : Nat) {fs : List Value} (he : ws[q0]? = some (a, .inr (1, fs))) {v : Value} (hv : fs[4]? = some v) (hdg : decode cc pc = .ok (.getfield 170, 3))
    (kk : W p l e R s m args below meth c H locs cells slots Q (F0 m (pc + 3) ls (v :: rest))) : W p l e R s m args below meth c H locs cells slots Q (F0 m pc ls (.ref a :: rest)) :=
  va_get (D := D) (ci := 1) (C := RcT) (T := FcT) (N := 8) hx hb hA inT hown hK hP q0 he rfl 4 (by decide) (hA _ mf_C_170) (fun _ h => h) hv hdg kk
theorem mf_T_33 : Cond.fieldLink RcT 33 (FcT 5).1 (FcT 5).2.1 (FcT 5).2.2.1 ∈ wA := wA_m (tb_1 (List.mem_of_getElem? (i := 55) rfl)) rfl
theorem gf_T_33 (hx : p.tables.exec = Jvm.exec) (hb : c.code = cc) (hA : ∀ w ∈ wA, w.before args s = true) (hown : s.vm.findClass RcT = some m.cls) (hK : va_K D vwA tys s) (hP : va_P D vwA ws H) (q0 : Nat) {fs : List Value} (he : ws[q0]? = some (a, .inr (1, fs))) {v : Value} (hv : fs[5]? = some v) (hdg : decode cc pc = .ok (.getfield 33, 3))
    (kk : W p l e R s m args below meth c H locs cells slots Q (F0 m (pc + 3) ls (v :: rest))) : W p l e R s m args below meth c H locs cells slots Q (F0 m pc ls (.ref a :: rest)) :=
  va_get (D := D) (ci := 1) (C := RcT) (T := FcT) (N := 8) hx hb hA inT hown hK hP q0 he rfl 5 (by decide) (hA _ mf_T_33) (fun _ h => h) hv hdg kk
theorem pf_T_33 (hx : p.tables.exec = Jvm.exec) (hb : c.code = cc) (hA : ∀ w ∈ wA, w.before args s = true) (hown : s.vm.findClass RcT = some m.cls) (hK : va_K D vwA tys s) (hP : va_P D vwA ws H) (hD : va_D A ws) (hS : va_S A H0 H locs) (q0 : Nat) {fs : List Value} (he : ws[q0]? = some (a, .inr (1, fs))) (hin2 : meth.name = "<init>") {v : Value} (hn : narrow (tcT 5) v = v) (hfit : fits (tcT 5) v = true) (hl : 5 < fs.length) (hdg : decode cc pc = .ok (.putfield 33, 3))
    (kk : ∀ (H1 : Heap) (locs1 : List Loc), va_P D vwA (ws.set q0 (a, .inr (1, fs.set 5 v))) H1 → va_D A (ws.set q0 (a, .inr (1, fs.set 5 v))) → va_S A H0 H1 locs1 → W p l e R s m args below meth c H1 locs1 cells slots Q (F0 m (pc + 3) ls rest)) : W p l e R s m args below meth c H locs cells slots Q (F0 m pc ls (v :: .ref a :: rest)) :=
  va_putF (D := D) (ci := 1) (C := RcT) (T := FcT) (N := 8) hx hb hA inT tcT okT nmT hown hK hP hD hS q0 he rfl 5 (by decide) (hA _ mf_T_33) (fun _ h => h) rfl hin2 rfl (okT 5 (by decide)) hn hfit hl hdg kk
theorem mf_C_179 : Cond.fieldLink RcC 179 (FcT 5).1 (FcT 5).2.1 (FcT 5).2.2.1 ∈ wA := wA_m (tb_1 (List.mem_of_getElem? (i := 56) rfl)) rfl
theorem gf_C_179 (hx : p.tables.exec = Jvm.exec) (hb : c.code = cc) (hA : ∀ w ∈ wA, w.before args s = true) (hown : s.vm.findClass RcC = some m.cls) (hK : va_K D vwA tys s) (hP : va_P D vwA ws H) (q0 : Nat) {fs : List Value} (he : ws[q0]? = some (a, .inr (1, fs))) {v : Value} (hv : fs[5]? = some v) (hdg : decode cc pc = .ok (.getfield 179, 3))
    (kk : W p l e R s m args below meth c H locs cells slots Q (F0 m (pc + 3) ls (v :: rest))) : W p l e R s m args below meth c H locs cells slots Q (F0 m pc ls (.ref a :: rest)) :=
  va_get (D := D) (ci := 1) (C := RcT) (T := FcT) (N := 8) hx hb hA inT hown hK hP q0 he rfl 5 (by decide) (hA _ mf_C_179) (fun _ h => h) hv hdg kk
theorem mf_T_42 : Cond.fieldLink RcT 42 (FcT 6).1 (FcT 6).2.1 (FcT 6).2.2.1 ∈ wA := wA_m (tb_1 (List.mem_of_getElem? (i := 57) rfl)) rfl
theorem gf_T_42 (hx : p.tables.exec = Jvm.exec) (hb : c.code = cc) (hA : ∀ w ∈ wA, w.before args s = true) (hown : s.vm.findClass RcT = some m.cls) (hK : va_K D vwA tys s) (hP : va_P D vwA ws H) (q0 : Nat) {fs : List Value} (he : ws[q0]? = some (a, .inr (1, fs))) {v : Value} (hv : fs[6]? = some v) (hdg : decode cc pc = .ok (.getfield 42, 3))
    (kk : W p l e R s m args below meth c H locs cells slots Q (F0 m (pc + 3) ls (v :: rest))) : W p l e R s m args below meth c H locs cells slots Q (F0 m pc ls (.ref a :: rest)) :=
  va_get (D := D) (ci := 1) (C := RcT) (T := FcT) (N := 8) hx hb hA inT hown hK hP q0 he rfl 6 (by decide) (hA _ mf_T_42) (fun _ h => h) hv hdg kk
theorem pf_T_42 (hx : p.tables.exec = Jvm.exec) (hb : c.code = cc) (hA : ∀ w ∈ wA, w.before args s = true) (hown : s.vm.findClass RcT = some m.cls) (hK : va_K D vwA tys s) (hP : va_P D vwA ws H) (hD : va_D A ws) (hS : va_S A H0 H locs) (q0 : Nat) {fs : List Value} (he : ws[q0]? = some (a, .inr (1, fs))) {v : Value} (hn : narrow (tcT 6) v = v) (hfit : fits (tcT 6) v = true) (hl : 6 < fs.length) (hdg : decode cc pc = .ok (.putfield 42, 3))
    (kk : ∀ (H1 : Heap) (locs1 : List Loc), va_P D vwA (ws.set q0 (a, .inr (1, fs.set 6 v))) H1 → va_D A (ws.set q0 (a, .inr (1, fs.set 6 v))) → va_S A H0 H1 locs1 → W p l e R s m args below meth c H1 locs1 cells slots Q (F0 m (pc + 3) ls rest)) : W p l e R s m args below meth c H locs cells slots Q (F0 m pc ls (v :: .ref a :: rest)) :=
  va_put (D := D) (ci := 1) (C := RcT) (T := FcT) (N := 8) hx hb hA inT tcT okT nmT hown hK hP hD hS q0 he rfl 6 (by decide) (hA _ mf_T_42) (fun _ h => h) rfl (okT 6 (by decide)) hn hfit hl hdg kk
theorem mf_T_46 : Cond.fieldLink RcT 46 (FcT 7).1 (FcT 7).2.1 (FcT 7).2.2.1 ∈ wA := wA_m (tb_1 (List.mem_of_getElem? (i := 58) rfl)) rfl
theorem gf_T_46 (hx : p.tables.exec = Jvm.exec) (hb : c.code = cc) (hA : ∀ w ∈ wA, w.before args s = true) (hown : s.vm.findClass RcT = some m.cls) (hK : va_K D vwA tys s) (hP : va_P D vwA ws H) (q0 : Nat) {fs : List Value} (he : ws[q0]? = some (a, .inr (1, fs))) {v : Value} (hv : fs[7]? = some v) (hdg : decode cc pc = .ok (.getfield 46, 3))
    (kk : W p l e R s m args below meth c H locs cells slots Q (F0 m (pc + 3) ls (v :: rest))) : W p l e R s m args below meth c H locs cells slots Q (F0 m pc ls (.ref a :: rest)) :=
  va_get (D := D) (ci := 1) (C := RcT) (T := FcT) (N := 8) hx hb hA inT hown hK hP q0 he rfl 7 (by decide) (hA _ mf_T_46) (fun _ h => h) hv hdg kk
theorem pf_T_46 (hx : p.tables.exec = Jvm.exec) (hb : c.code = cc) (hA : ∀ w ∈ wA, w.before args s = true) (hown : s.vm.findClass RcT = some m.cls) (hK : va_K D vwA tys s) (hP : va_P D vwA ws H) (hD : va_D A ws) (hS : va_S A H0 H locs) (q0 : Nat) {fs : List Value} (he : ws[q0]? = some (a, .inr (1, fs))) {v : Value} (hn : narrow (tcT 7) v = v) (hfit : fits (tcT 7) v = true) (hl : 7 < fs.length) (hdg : decode cc pc = .ok (.putfield 46, 3))
    (kk : ∀ (H1 : Heap) (locs1 : List Loc), va_P D vwA (ws.set q0 (a, .inr (1, fs.set 7 v))) H1 → va_D A (ws.set q0 (a, .inr (1, fs.set 7 v))) → va_S A H0 H1 locs1 → W p l e R s m args below meth c H1 locs1 cells slots Q (F0 m (pc + 3) ls rest)) : W p l e R s m args below meth c H locs cells slots Q (F0 m pc ls (v :: .ref a :: rest)) :=
  va_put (D := D) (ci := 1) (C := RcT) (T := FcT) (N := 8) hx hb hA inT tcT okT nmT hown hK hP hD hS q0 he rfl 7 (by decide) (hA _ mf_T_46) (fun _ h => h) rfl (okT 7 (by decide)) hn hfit hl hdg kk
theorem mf_A_9 : Cond.fieldLink RcA 9 (FcA 0).1 (FcA 0).2.1 (FcA 0).2.2.1 ∈ wA := wA_m (tb_1 (List.mem_of_getElem? (i := 82) rfl)) rfl
theorem gf_A_9 (hx : p.tables.exec = Jvm.exec) (hb : c.code = cc) (hA : ∀ w ∈ wA, w.before args s = true) (hown : s.vm.findClass RcA = some m.cls) (hK : va_K D vwA tys s) (hP : va_P D vwA ws H) (q0 : Nat) {fs : List Value} (he : ws[q0]? = some (a, .inr (2, fs))) {v : Value} (hv : fs[0]? = some v) (hdg : decode cc pc = .ok (.getfield 9, 3))
    (kk : W p l e R s m args below meth c H locs cells slots Q (F0 m (pc + 3) ls (v :: rest))) : W p l e R s m args below meth c H locs cells slots Q (F0 m pc ls (.ref a :: rest)) :=
  va_get (D := D) (ci := 2) (C := RcA) (T := FcA) (N := 7) hx hb hA inA hown hK hP q0 he rfl 0 (by decide) (hA _ mf_A_9) (fun _ h => h) hv hdg kk
theorem pf_A_9 (hx : p.tables.exec = Jvm.exec) (hb : c.code = cc) (hA : ∀ w ∈ wA, w.before args s = true) (hown : s.vm.findClass RcA = some m.cls) (hK : va_K D vwA tys s) (hP : va_P D vwA ws H) (hD : va_D A ws) (hS : va_S A H0 H locs) (q0 : Nat) {fs : List Value} (he : ws[q0]? = some (a, .inr (2, fs))) (hin2 : meth.name = "<init>") {v : Value} (hn : narrow (tcA 0) v = v) (hfit : fits (tcA 0) v = true) (hl : 0 < fs.length) (hdg : decode cc pc = .ok (.putfield 9, 3))
    (kk : ∀ (H1 : Heap) (locs1 : List Loc), va_P D vwA (ws.set q0 (a, .inr (2, fs.set 0 v))) H1 → va_D A (ws.set q0 (a, .inr (2, fs.set 0 v))) → va_S A H0 H1 locs1 → W p l e R s m args below meth c H1 locs1 cells slots Q (F0 m (pc + 3) ls rest)) : W p l e R s m args below meth c H locs cells slots Q (F0 m pc ls (v :: .ref a :: rest)) :=
  va_putF (D := D) (ci := 2) (C := RcA) (T := FcA) (N := 7) hx hb hA inA tcA okA nmA hown hK hP hD hS q0 he rfl 0 (by decide) (hA _ mf_A_9) (fun _ h => h) rfl hin2 rfl (okA 0 (by decide)) hn hfit hl hdg kk
theorem mf_A_15 : Cond.fieldLink RcA 15 (FcA 1).1 (FcA 1).2.1 (FcA 1).2.2.1 ∈ wA := wA_m (tb_1 (List.mem_of_getElem? (i := 83) rfl)) rfl
theorem gf_A_15 (hx : p.tables.exec = Jvm.exec) (hb : c.code = cc) (hA : ∀ w ∈ wA, w.before args s = true) (hown : s.vm.findClass RcA = some m.cls) (hK : va_K D vwA tys s) (hP : va_P D vwA ws H) (q0 : Nat) {fs : List Value} (he : ws[q0]? = some (a, .inr (2, fs))) {v : Value} (hv : fs[1]? = some v) (hdg : decode cc pc = .ok (.getfield 15, 3))
    (kk : W p l e R s m args below meth c H locs cells slots Q (F0 m (pc + 3) ls (v :: rest))) : W p l e R s m args below meth c H locs cells slots Q (F0 m pc ls (.ref a :: rest)) :=
  va_get (D := D) (ci := 2) (C := RcA) (T := FcA) (N := 7) hx hb hA inA hown hK hP q0 he rfl 1 (by decide) (hA _ mf_A_15) (fun _ h => h) hv hdg kk
theorem pf_A_15 (hx : p.tables.exec = Jvm.exec) (hb : c.code = cc) (hA : ∀ w ∈ wA, w.before args s = true) (hown : s.vm.findClass RcA = some m.cls) (hK : va_K D vwA tys s) (hP : va_P D vwA ws H) (hD : va_D A ws) (hS : va_S A H0 H locs) (q0 : Nat) {fs : List Value} (he : ws[q0]? = some (a, .inr (2, fs))) (hin2 : meth.name = "<init>") {v : Value} (hn : narrow (tcA 1) v = v) (hfit : fits (tcA 1) v = true) (hl : 1 < fs.length) (hdg : decode cc pc = .ok (.putfield 15, 3))
    (kk : ∀ (H1 : Heap) (locs1 : List Loc), va_P D vwA (ws.set q0 (a, .inr (2, fs.set 1 v))) H1 → va_D A (ws.set q0 (a, .inr (2, fs.set 1 v))) → va_S A H0 H1 locs1 → W p l e R s m args below meth c H1 locs1 cells slots Q (F0 m (pc + 3) ls rest)) : W p l e R s m args below meth c H locs cells slots Q (F0 m pc ls (v :: .ref a :: rest)) :=
  va_putF (D := D) (ci := 2) (C := RcA) (T := FcA) (N := 7) hx hb hA inA tcA okA nmA hown hK hP hD hS q0 he rfl 1 (by decide) (hA _ mf_A_15) (fun _ h => h) rfl hin2 rfl (okA 1 (by decide)) hn hfit hl hdg kk
theorem mf_A_18 : Cond.fieldLink RcA 18 (FcA 2).1 (FcA 2).2.1 (FcA 2).2.2.1 ∈ wA := wA_m (tb_1 (List.mem_of_getElem? (i := 84) rfl)) rfl
theorem gf_A_18 (hx : p.tables.exec = Jvm.exec) (hb : c.code = cc) (hA : ∀ w ∈ wA, w.before args s = true) (hown : s.vm.findClass RcA = some m.cls) (hK : va_K D vwA tys s) (hP : va_P D vwA ws H) (q0 : Nat) {fs : List Value} (he : ws[q0]? = some (a, .inr (2, fs))) {v : Value} (hv : fs[2]? = some v) (hdg : decode cc pc = .ok (.getfield 18, 3))
    (kk : W p l e R s m args below meth c H locs cells slots Q (F0 m (pc + 3) ls (v :: rest))) : W p l e R s m args below meth c H locs cells slots Q (F0 m pc ls (.ref a :: rest)) :=
  va_get (D := D) (ci := 2) (C := RcA) (T := FcA) (N := 7) hx hb hA inA hown hK hP q0 he rfl 2 (by decide) (hA _ mf_A_18) (fun _ h => h) hv hdg kk
theorem pf_A_18 (hx : p.tables.exec = Jvm.exec) (hb : c.code = cc) (hA : ∀ w ∈ wA, w.before args s = true) (hown : s.vm.findClass RcA = some m.cls) (hK : va_K D vwA tys s) (hP : va_P D vwA ws H) (hD : va_D A ws) (hS : va_S A H0 H locs) (q0 : Nat) {fs : List Value} (he : ws[q0]? = some (a, .inr (2, fs))) (hin2 : meth.name = "<init>") {v : Value} (hn : narrow (tcA 2) v = v) (hfit : fits (tcA 2) v = true) (hl : 2 < fs.length) (hdg : decode cc pc = .ok (.putfield 18, 3))
    (kk : ∀ (H1 : Heap) (locs1 : List Loc), va_P D vwA (ws.set q0 (a, .inr (2, fs.set 2 v))) H1 → va_D A (ws.set q0 (a, .inr (2, fs.set 2 v))) → va_S A H0 H1 locs1 → W p l e R s m args below meth c H1 locs1 cells slots Q (F0 m (pc + 3) ls rest)) : W p l e R s m args below meth c H locs cells slots Q (F0 m pc ls (v :: .ref a :: rest)) :=
  va_putF (D := D) (ci := 2) (C := RcA) (T := FcA) (N := 7) hx hb hA inA tcA okA nmA hown hK hP hD hS q0 he rfl 2 (by decide) (hA _ mf_A_18) (fun _ h => h) rfl hin2 rfl (okA 2 (by decide)) hn hfit hl hdg kk
theorem mf_A_21 : Cond.fieldLink RcA 21 (FcA 3).1 (FcA 3).2.1 (FcA 3).2.2.1 ∈ wA := wA_m (tb_1 (List.mem_of_getElem? (i := 85) rfl)) rfl
theorem gf_A_21 (hx : p.tables.exec = Jvm.exec) (hb : c.code = cc) (hA : ∀ w ∈ wA, w.before args s = true) (hown : s.vm.findClass RcA = some m.cls) (hK : va_K D vwA tys s) (hP : va_P D vwA ws H) (q0 : Nat) {fs : List Value} (he : ws[q0]? = some (a, .inr (2, fs))) {v : Value} (hv : fs[3]? = some v) (hdg : decode cc pc = .ok (.getfield 21, 3))
    (kk : W p l e R s m args below meth c H locs cells slots Q (F0 m (pc + 3) ls (v :: rest))) : W p l e R s m args below meth c H locs cells slots Q (F0 m pc ls (.ref a :: rest)) :=
  va_get (D := D) (ci := 2) (C := RcA) (T := FcA) (N := 7) hx hb hA inA hown hK hP q0 he rfl 3 (by decide) (hA _ mf_A_21) (fun _ h => h) hv hdg kk
theorem pf_A_21 (hx : p.tables.exec = Jvm.exec) (hb : c.code = cc) (hA : ∀ w ∈ wA, w.before args s = true) (hown : s.vm.findClass RcA = some m.cls) (hK : va_K D vwA tys s) (hP : va_P D vwA ws H) (hD : va_D A ws) (hS : va_S A H0 H locs) (q0 : Nat) {fs : List Value} (he : ws[q0]? = some (a, .inr (2, fs))) (hin2 : meth.name = "<init>") {v : Value} (hn : narrow (tcA 3) v = v) (hfit : fits (tcA 3) v = true) (hl : 3 < fs.length) (hdg : decode cc pc = .ok (.putfield 21, 3))
    (kk : ∀ (H1 : Heap) (locs1 : List Loc), va_P D vwA (ws.set q0 (a, .inr (2, fs.set 3 v))) H1 → va_D A (ws.set q0 (a, .inr (2, fs.set 3 v))) → va_S A H0 H1 locs1 → W p l e R s m args below meth c H1 locs1 cells slots Q (F0 m (pc + 3) ls rest)) : W p l e R s m args below meth c H locs cells slots Q (F0 m pc ls (v :: .ref a :: rest)) :=
  va_putF (D := D) (ci := 2) (C := RcA) (T := FcA) (N := 7) hx hb hA inA tcA okA nmA hown hK hP hD hS q0 he rfl 3 (by decide) (hA _ mf_A_21) (fun _ h => h) rfl hin2 rfl (okA 3 (by decide)) hn hfit hl hdg kk
theorem mf_A_24 : Cond.fieldLink RcA 24 (FcA 4).1 (FcA 4).2.1 (FcA 4).2.2.1 ∈ wA := wA_m (tb_1 (List.mem_of_getElem? (i := 86) rfl)) rfl
theorem gf_A_24 (hx : p.tables.exec = Jvm.exec) (hb : c.code = cc) (hA : ∀ w ∈ wA, w.before args s = true) (hown : s.vm.findClass RcA = some m.cls) (hK : va_K D vwA tys s) (hP : va_P D vwA ws H) (q0 : Nat) {fs : List Value} (he : ws[q0]? = some (a, .inr (2, fs))) {v : Value} (hv : fs[4]? = some v) (hdg : decode cc pc = .ok (.getfield 24, 3))
    (kk : W p l e R s m args below meth c H locs cells slots Q (F0 m (pc + 3) ls (v :: rest))) : W p l e R s m args below meth c H locs cells slots Q (F0 m pc ls (.ref a :: rest)) :=
  va_get (D := D) (ci := 2) (C := RcA) (T := FcA) (N := 7) hx hb hA inA hown hK hP q0 he rfl 4 (by decide) (hA _ mf_A_24) (fun _ h => h) hv hdg kk
theorem pf_A_24 (hx : p.tables.exec = Jvm.exec) (hb : c.code = cc) (hA : ∀ w ∈ wA, w.before args s = true) (hown : s.vm.findClass RcA = some m.cls) (hK : va_K D vwA tys s) (hP : va_P D vwA ws H) (hD : va_D A ws) (hS : va_S A H0 H locs) (q0 : Nat) {fs : List Value} (he : ws[q0]? = some (a, .inr (2, fs))) (hin2 : meth.name = "<init>") {v : Value} (hn : narrow (tcA 4) v = v) (hfit : fits (tcA 4) v = true) (hl : 4 < fs.length) (hdg : decode cc pc = .ok (.putfield 24, 3))
    (kk : ∀ (H1 : Heap) (locs1 : List Loc), va_P D vwA (ws.set q0 (a, .inr (2, fs.set 4 v))) H1 → va_D A (ws.set q0 (a, .inr (2, fs.set 4 v))) → va_S A H0 H1 locs1 → W p l e R s m args below meth c H1 locs1 cells slots Q (F0 m (pc + 3) ls rest)) : W p l e R s m args below meth c H locs cells slots Q (F0 m pc ls (v :: .ref a :: rest)) :=
  va_putF (D := D) (ci := 2) (C := RcA) (T := FcA) (N := 7) hx hb hA inA tcA okA nmA hown hK hP hD hS q0 he rfl 4 (by decide) (hA _ mf_A_24) (fun _ h => h) rfl hin2 rfl (okA 4 (by decide)) hn hfit hl hdg kk
theorem mf_A_28 : Cond.fieldLink RcA 28 (FcA 5).1 (FcA 5).2.1 (FcA 5).2.2.1 ∈ wA := wA_m (tb_1 (List.mem_of_getElem? (i := 87) rfl)) rfl
theorem gf_A_28 (hx : p.tables.exec = Jvm.exec) (hb : c.code = cc) (hA : ∀ w ∈ wA, w.before args s = true) (hown : s.vm.findClass RcA = some m.cls) (hK : va_K D vwA tys s) (hP : va_P D vwA ws H) (q0 : Nat) {fs : List Value} (he : ws[q0]? = some (a, .inr (2, fs))) {v : Value} (hv : fs[5]? = some v) (hdg : decode cc pc = .ok (.getfield 28, 3))
    (kk : W p l e R s m args below meth c H locs cells slots Q (F0 m (pc + 3) ls (v :: rest))) : W p l e R s m args below meth c H locs cells slots Q (F0 m pc ls (.ref a :: rest)) :=
  va_get (D := D) (ci := 2) (C := RcA) (T := FcA) (N := 7) hx hb hA inA hown hK hP q0 he rfl 5 (by decide) (hA _ mf_A_28) (fun _ h => h) hv hdg kk
theorem pf_A_28 (hx : p.tables.exec = Jvm.exec) (hb : c.code = cc) (hA : ∀ w ∈ wA, w.before args s = true) (hown : s.vm.findClass RcA = some m.cls) (hK : va_K D vwA tys s) (hP : va_P D vwA ws H) (hD : va_D A ws) (hS : va_S A H0 H locs) (q0 : Nat) {fs : List Value} (he : ws[q0]? = some (a, .inr (2, fs))) {v : Value} (hn : narrow (tcA 5) v = v) (hfit : fits (tcA 5) v = true) (hl : 5 < fs.length) (hdg : decode cc pc = .ok (.putfield 28, 3))
    (kk : ∀ (H1 : Heap) (locs1 : List Loc), va_P D vwA (ws.set q0 (a, .inr (2, fs.set 5 v))) H1 → va_D A (ws.set q0 (a, .inr (2, fs.set 5 v))) → va_S A H0 H1 locs1 → W p l e R s m args below meth c H1 locs1 cells slots Q (F0 m (pc + 3) ls rest)) : W p l e R s m args below meth c H locs cells slots Q (F0 m pc ls (v :: .ref a :: rest)) :=
  va_put (D := D) (ci := 2) (C := RcA) (T := FcA) (N := 7) hx hb hA inA tcA okA nmA hown hK hP hD hS q0 he rfl 5 (by decide) (hA _ mf_A_28) (fun _ h => h) rfl (okA 5 (by decide)) hn hfit hl hdg kk
theorem mf_A_32 : Cond.fieldLink RcA 32 (FcA 6).1 (FcA 6).2.1 (FcA 6).2.2.1 ∈ wA := wA_m (tb_1 (List.mem_of_getElem? (i := 88) rfl)) rfl
theorem gf_A_32 (hx : p.tables.exec = Jvm.exec) (hb : c.code = cc) (hA : ∀ w ∈ wA, w.before args s = true) (hown : s.vm.findClass RcA = some m.cls) (hK : va_K D vwA tys s) (hP : va_P D vwA ws H) (q0 : Nat) {fs : List Value} (he : ws[q0]? = some (a, .inr (2, fs))) {v : Value} (hv : fs[6]? = some v) (hdg : decode cc pc = .ok (.getfield 32, 3))
    (kk : W p l e R s m args below meth c H locs cells slots Q (F0 m (pc + 3) ls (v :: rest))) : W p l e R s m args below meth c H locs cells slots Q (F0 m pc ls (.ref a :: rest)) :=
  va_get (D := D) (ci := 2) (C := RcA) (T := FcA) (N := 7) hx hb hA inA hown hK hP q0 he rfl 6 (by decide) (hA _ mf_A_32) (fun _ h => h) hv hdg kk
theorem pf_A_32 (hx : p.tables.exec = Jvm.exec) (hb : c.code = cc) (hA : ∀ w ∈ wA, w.before args s = true) (hown : s.vm.findClass RcA = some m.cls) (hK : va_K D vwA tys s) (hP : va_P D vwA ws H) (hD : va_D A ws) (hS : va_S A H0 H locs) (q0 : Nat) {fs : List Value} (he : ws[q0]? = some (a, .inr (2, fs))) {v : Value} (hn : narrow (tcA 6) v = v) (hfit : fits (tcA 6) v = true) (hl : 6 < fs.length) (hdg : decode cc pc = .ok (.putfield 32, 3))
    (kk : ∀ (H1 : Heap) (locs1 : List Loc), va_P D vwA (ws.set q0 (a, .inr (2, fs.set 6 v))) H1 → va_D A (ws.set q0 (a, .inr (2, fs.set 6 v))) → va_S A H0 H1 locs1 → W p l e R s m args below meth c H1 locs1 cells slots Q (F0 m (pc + 3) ls rest)) : W p l e R s m args below meth c H locs cells slots Q (F0 m pc ls (v :: .ref a :: rest)) :=
  va_put (D := D) (ci := 2) (C := RcA) (T := FcA) (N := 7) hx hb hA inA tcA okA nmA hown hK hP hD hS q0 he rfl 6 (by decide) (hA _ mf_A_32) (fun _ h => h) rfl (okA 6 (by decide)) hn hfit hl hdg kk
theorem mf_C_11 : Cond.fieldLink RcC 11 (FcC 0).1 (FcC 0).2.1 (FcC 0).2.2.1 ∈ wA := wA_m (tb_1 (List.mem_of_getElem? (i := 113) rfl)) rfl
theorem gf_C_11 (hx : p.tables.exec = Jvm.exec) (hb : c.code = cc) (hA : ∀ w ∈ wA, w.before args s = true) (hown : s.vm.findClass RcC = some m.cls) (hK : va_K D vwA tys s) (hP : va_P D vwA ws H) (q0 : Nat) {fs : List Value} (he : ws[q0]? = some (a, .inr (3, fs))) {v : Value} (hv : fs[0]? = some v) (hdg : decode cc pc = .ok (.getfield 11, 3))
    (kk : W p l e R s m args below meth c H locs cells slots Q (F0 m (pc + 3) ls (v :: rest))) : W p l e R s m args below meth c H locs cells slots Q (F0 m pc ls (.ref a :: rest)) :=
  va_get (D := D) (ci := 3) (C := RcC) (T := FcC) (N := 12) hx hb hA inC hown hK hP q0 he rfl 0 (by decide) (hA _ mf_C_11) (fun _ h => h) hv hdg kk
theorem pf_C_11 (hx : p.tables.exec = Jvm.exec) (hb : c.code = cc) (hA : ∀ w ∈ wA, w.before args s = true) (hown : s.vm.findClass RcC = some m.cls) (hK : va_K D vwA tys s) (hP : va_P D vwA ws H) (hD : va_D A ws) (hS : va_S A H0 H locs) (q0 : Nat) {fs : List Value} (he : ws[q0]? = some (a, .inr (3, fs))) (hin2 : meth.name = "<init>") {v : Value} (hn : narrow (tcC 0) v = v) (hfit : fits (tcC 0) v = true) (hl : 0 < fs.length) (hdg : decode cc pc = .ok (.putfield 11, 3))
    (kk : ∀ (H1 : Heap) (locs1 : List Loc), va_P D vwA (ws.set q0 (a, .inr (3, fs.set 0 v))) H1 → va_D A (ws.set q0 (a, .inr (3, fs.set 0 v))) → va_S A H0 H1 locs1 → W p l e R s m args below meth c H1 locs1 cells slots Q (F0 m (pc + 3) ls rest)) : W p l e R s m args below meth c H locs cells slots Q (F0 m pc ls (v :: .ref a :: rest)) :=
  va_putF (D := D) (ci := 3) (C := RcC) (T := FcC) (N := 12) hx hb hA inC tcC okC nmC hown hK hP hD hS q0 he rfl 0 (by decide) (hA _ mf_C_11) (fun _ h => h) rfl hin2 rfl (okC 0 (by decide)) hn hfit hl hdg kk
theorem mf_C_15 : Cond.fieldLink RcC 15 (FcC 1).1 (FcC 1).2.1 (FcC 1).2.2.1 ∈ wA := wA_m (tb_1 (List.mem_of_getElem? (i := 114) rfl)) rfl
theorem gf_C_15 (hx : p.tables.exec = Jvm.exec) (hb : c.code = cc) (hA : ∀ w ∈ wA, w.before args s = true) (hown : s.vm.findClass RcC = some m.cls) (hK : va_K D vwA tys s) (hP : va_P D vwA ws H) (q0 : Nat) {fs : List Value} (he : ws[q0]? = some (a, .inr (3, fs))) {v : Value} (hv : fs[1]? = some v) (hdg : decode cc pc = .ok (.getfield 15, 3))
    (kk : W p l e R s m args below meth c H locs cells slots Q (F0 m (pc + 3) ls (v :: rest))) : W p l e R s m args below meth c H locs cells slots Q (F0 m pc ls (.ref a :: rest)) :=
  va_get (D := D) (ci := 3) (C := RcC) (T := FcC) (N := 12) hx hb hA inC hown hK hP q0 he rfl 1 (by decide) (hA _ mf_C_15) (fun _ h => h) hv hdg kk
theorem pf_C_15 (hx : p.tables.exec = Jvm.exec) (hb : c.code = cc) (hA : ∀ w ∈ wA, w.before args s = true) (hown : s.vm.findClass RcC = some m.cls) (hK : va_K D vwA tys s) (hP : va_P D vwA ws H) (hD : va_D A ws) (hS : va_S A H0 H locs) (q0 : Nat) {fs : List Value} (he : ws[q0]? = some (a, .inr (3, fs))) (hin2 : meth.name = "<init>") {v : Value} (hn : narrow (tcC 1) v = v) (hfit : fits (tcC 1) v = true) (hl : 1 < fs.length) (hdg : decode cc pc = .ok (.putfield 15, 3))
    (kk : ∀ (H1 : Heap) (locs1 : List Loc), va_P D vwA (ws.set q0 (a, .inr (3, fs.set 1 v))) H1 → va_D A (ws.set q0 (a, .inr (3, fs.set 1 v))) → va_S A H0 H1 locs1 → W p l e R s m args below meth c H1 locs1 cells slots Q (F0 m (pc + 3) ls rest)) : W p l e R s m args below meth c H locs cells slots Q (F0 m pc ls (v :: .ref a :: rest)) :=
  va_putF (D := D) (ci := 3) (C := RcC) (T := FcC) (N := 12) hx hb hA inC tcC okC nmC hown hK hP hD hS q0 he rfl 1 (by decide) (hA _ mf_C_15) (fun _ h => h) rfl hin2 rfl (okC 1 (by decide)) hn hfit hl hdg kk
theorem mf_C_24 : Cond.fieldLink RcC 24 (FcC 2).1 (FcC 2).2.1 (FcC 2).2.2.1 ∈ wA := wA_m (tb_1 (List.mem_of_getElem? (i := 115) rfl)) rfl
theorem gf_C_24 (hx : p.tables.exec = Jvm.exec) (hb : c.code = cc) (hA : ∀ w ∈ wA, w.before args s = true) (hown : s.vm.findClass RcC = some m.cls) (hK : va_K D vwA tys s) (hP : va_P D vwA ws H) (q0 : Nat) {fs : List Value} (he : ws[q0]? = some (a, .inr (3, fs))) {v : Value} (hv : fs[2]? = some v) (hdg : decode cc pc = .ok (.getfield 24, 3))
    (kk : W p l e R s m args below meth c H locs cells slots Q (F0 m (pc + 3) ls (v :: rest))) : W p l e R s m args below meth c H locs cells slots Q (F0 m pc ls (.ref a :: rest)) :=
  va_get (D := D) (ci := 3) (C := RcC) (T := FcC) (N := 12) hx hb hA inC hown hK hP q0 he rfl 2 (by decide) (hA _ mf_C_24) (fun _ h => h) hv hdg kk
theorem pf_C_24 (hx : p.tables.exec = Jvm.exec) (hb : c.code = cc) (hA : ∀ w ∈ wA, w.before args s = true) (hown : s.vm.findClass RcC = some m.cls) (hK : va_K D vwA tys s) (hP : va_P D vwA ws H) (hD : va_D A ws) (hS : va_S A H0 H locs) (q0 : Nat) {fs : List Value} (he : ws[q0]? = some (a, .inr (3, fs))) (hin2 : meth.name = "<init>") {v : Value} (hn : narrow (tcC 2) v = v) (hfit : fits (tcC 2) v = true) (hl : 2 < fs.length) (hdg : decode cc pc = .ok (.putfield 24, 3))
    (kk : ∀ (H1 : Heap) (locs1 : List Loc), va_P D vwA (ws.set q0 (a, .inr (3, fs.set 2 v))) H1 → va_D A (ws.set q0 (a, .inr (3, fs.set 2 v))) → va_S A H0 H1 locs1 → W p l e R s m args below meth c H1 locs1 cells slots Q (F0 m (pc + 3) ls rest)) : W p l e R s m args below meth c H locs cells slots Q (F0 m pc ls (v :: .ref a :: rest)) :=
  va_putF (D := D) (ci := 3) (C := RcC) (T := FcC) (N := 12) hx hb hA inC tcC okC nmC hown hK hP hD hS q0 he rfl 2 (by decide) (hA _ mf_C_24) (fun _ h => h) rfl hin2 rfl (okC 2 (by decide)) hn hfit hl hdg kk
theorem mf_C_28 : Cond.fieldLink RcC 28 (FcC 3).1 (FcC 3).2.1 (FcC 3).2.2.1 ∈ wA := wA_m (tb_1 (List.mem_of_getElem? (i := 116) rfl)) rfl
theorem gf_C_28 (hx : p.tables.exec = Jvm.exec) (hb : c.code = cc) (hA : ∀ w ∈ wA, w.before args s = true) (hown : s.vm.findClass RcC = some m.cls) (hK : va_K D vwA tys s) (hP : va_P D vwA ws H) (q0 : Nat) {fs : List Value} (he : ws[q0]? = some (a, .inr (3, fs))) {v : Value} (hv : fs[3]? = some v) (hdg : decode cc pc = .ok (.getfield 28, 3))
    (kk : W p l e R s m args below meth c H locs cells slots Q (F0 m (pc + 3) ls (v :: rest))) : W p l e R s m args below meth c H locs cells slots Q (F0 m pc ls (.ref a :: rest)) :=
  va_get (D := D) (ci := 3) (C := RcC) (T := FcC) (N := 12) hx hb hA inC hown hK hP q0 he rfl 3 (by decide) (hA _ mf_C_28) (fun _ h => h) hv hdg kk
theorem pf_C_28 (hx : p.tables.exec = Jvm.exec) (hb : c.code = cc) (hA : ∀ w ∈ wA, w.before args s = true) (hown : s.vm.findClass RcC = some m.cls) (hK : va_K D vwA tys s) (hP : va_P D vwA ws H) (hD : va_D A ws) (hS : va_S A H0 H locs) (q0 : Nat) {fs : List Value} (he : ws[q0]? = some (a, .inr (3, fs))) (hin2 : meth.name = "<init>") {v : Value} (hn : narrow (tcC 3) v = v) (hfit : fits (tcC 3) v = true) (hl : 3 < fs.length) (hdg : decode cc pc = .ok (.putfield 28, 3))
    (kk : ∀ (H1 : Heap) (locs1 : List Loc), va_P D vwA (ws.set q0 (a, .inr (3, fs.set 3 v))) H1 → va_D A (ws.set q0 (a, .inr (3, fs.set 3 v))) → va_S A H0 H1 locs1 → W p l e R s m args below meth c H1 locs1 cells slots Q (F0 m (pc + 3) ls rest)) : W p l e R s m args below meth c H locs cells slots Q (F0 m pc ls (v :: .ref a :: rest)) :=
  va_putF (D := D) (ci := 3) (C := RcC) (T := FcC) (N := 12) hx hb hA inC tcC okC nmC hown hK hP hD hS q0 he rfl 3 (by decide) (hA _ mf_C_28) (fun _ h => h) rfl hin2 rfl (okC 3 (by decide)) hn hfit hl hdg kk
theorem mf_C_31 : Cond.fieldLink RcC 31 (FcC 4).1 (FcC 4).2.1 (FcC 4).2.2.1 ∈ wA := wA_m (tb_1 (List.mem_of_getElem? (i := 117) rfl)) rfl
theorem gf_C_31 (hx : p.tables.exec = Jvm.exec) (hb : c.code = cc) (hA : ∀ w ∈ wA, w.before args s = true) (hown : s.vm.findClass RcC = some m.cls) (hK : va_K D vwA tys s) (hP : va_P D vwA ws H) (q0 : Nat) {fs : List Value} (he : ws[q0]? = some (a, .inr (3, fs))) {v : Value} (hv : fs[4]? = some v) (hdg : decode cc pc = .ok (.getfield 31, 3))
    (kk : W p l e R s m args below meth c H locs cells slots Q (F0 m (pc + 3) ls (v :: rest))) : W p l e R s m args below meth c H locs cells slots Q (F0 m pc ls (.ref a :: rest)) :=
  va_get (D := D) (ci := 3) (C := RcC) (T := FcC) (N := 12) hx hb hA inC hown hK hP q0 he rfl 4 (by decide) (hA _ mf_C_31) (fun _ h => h) hv hdg kk
theorem pf_C_31 (hx : p.tables.exec = Jvm.exec) (hb : c.code = cc) (hA : ∀ w ∈ wA, w.before args s = true) (hown : s.vm.findClass RcC = some m.cls) (hK : va_K D vwA tys s) (hP : va_P D vwA ws H) (hD : va_D A ws) (hS : va_S A H0 H locs) (q0 : Nat) {fs : List Value} (he : ws[q0]? = some (a, .inr (3, fs))) (hin2 : meth.name = "<init>") {v : Value} (hn : narrow (tcC 4) v = v) (hfit : fits (tcC 4) v = true) (hl : 4 < fs.length) (hdg : decode cc pc = .ok (.putfield 31, 3))
    (kk : ∀ (H1 : Heap) (locs1 : List Loc), va_P D vwA (ws.set q0 (a, .inr (3, fs.set 4 v))) H1 → va_D A (ws.set q0 (a, .inr (3, fs.set 4 v))) → va_S A H0 H1 locs1 → W p l e R s m args below meth c H1 locs1 cells slots Q (F0 m (pc + 3) ls rest)) : W p l e R s m args below meth c H locs cells slots Q (F0 m pc ls (v :: .ref a :: rest)) :=
  va_putF (D := D) (ci := 3) (C := RcC) (T := FcC) (N := 12) hx hb hA inC tcC okC nmC hown hK hP hD hS q0 he rfl 4 (by decide) (hA _ mf_C_31) (fun _ h => h) rfl hin2 rfl (okC 4 (by decide)) hn hfit hl hdg kk
theorem mf_C_34 : Cond.fieldLink RcC 34 (FcC 5).1 (FcC 5).2.1 (FcC 5).2.2.1 ∈ wA := wA_m (tb_1 (List.mem_of_getElem? (i := 118) rfl)) rfl
theorem gf_C_34 (hx : p.tables.exec = Jvm.exec) (hb : c.code = cc) (hA : ∀ w ∈ wA, w.before args s = true) (hown : s.vm.findClass RcC = some m.cls) (hK : va_K D vwA tys s) (hP : va_P D vwA ws H) (q0 : Nat) {fs : List Value} (he : ws[q0]? = some (a, .inr (3, fs))) {v : Value} (hv : fs[5]? = some v) (hdg : decode cc pc = .ok (.getfield 34, 3))
    (kk : W p l e R s m args below meth c H locs cells slots Q (F0 m (pc + 3) ls (v :: rest))) : W p l e R s m args below meth c H locs cells slots Q (F0 m pc ls (.ref a :: rest)) :=
  va_get (D := D) (ci := 3) (C := RcC) (T := FcC) (N := 12) hx hb hA inC hown hK hP q0 he rfl 5 (by decide) (hA _ mf_C_34) (fun _ h => h) hv hdg kk
theorem pf_C_34 (hx : p.tables.exec = Jvm.exec) (hb : c.code = cc) (hA : ∀ w ∈ wA, w.before args s = true) (hown : s.vm.findClass RcC = some m.cls) (hK : va_K D vwA tys s) (hP : va_P D vwA ws H) (hD : va_D A ws) (hS : va_S A H0 H locs) (q0 : Nat) {fs : List Value} (he : ws[q0]? = some (a, .inr (3, fs))) (hin2 : meth.name = "<init>") {v : Value} (hn : narrow (tcC 5) v = v) (hfit : fits (tcC 5) v = true) (hl : 5 < fs.length) (hdg : decode cc pc = .ok (.putfield 34, 3))
    (kk : ∀ (H1 : Heap) (locs1 : List Loc), va_P D vwA (ws.set q0 (a, .inr (3, fs.set 5 v))) H1 → va_D A (ws.set q0 (a, .inr (3, fs.set 5 v))) → va_S A H0 H1 locs1 → W p l e R s m args below meth c H1 locs1 cells slots Q (F0 m (pc + 3) ls rest)) : W p l e R s m args below meth c H locs cells slots Q (F0 m pc ls (v :: .ref a :: rest)) :=
  va_putF (D := D) (ci := 3) (C := RcC) (T := FcC) (N := 12) hx hb hA inC tcC okC nmC hown hK hP hD hS q0 he rfl 5 (by decide) (hA _ mf_C_34) (fun _ h => h) rfl hin2 rfl (okC 5 (by decide)) hn hfit hl hdg kk
theorem mf_C_37 : Cond.fieldLink RcC 37 (FcC 6).1 (FcC 6).2.1 (FcC 6).2.2.1 ∈ wA := wA_m (tb_1 (List.mem_of_getElem? (i := 119) rfl)) rfl
theorem gf_C_37 (hx : p.tables.exec = Jvm.exec) (hb : c.code = cc) (hA : ∀ w ∈ wA, w.before args s = true) (hown : s.vm.findClass RcC = some m.cls) (hK : va_K D vwA tys s) (hP : va_P D vwA ws H) (q0 : Nat) {fs : List Value} (he : ws[q0]? = some (a, .inr (3, fs))) {v : Value} (hv : fs[6]? = some v) (hdg : decode cc pc = .ok (.getfield 37, 3))
    (kk : W p l e R s m args below meth c H locs cells slots Q (F0 m (pc + 3) ls (v :: rest))) : W p l e R s m args below meth c H locs cells slots Q (F0 m pc ls (.ref a :: rest)) :=
  va_get (D := D) (ci := 3) (C := RcC) (T := FcC) (N := 12) hx hb hA inC hown hK hP q0 he rfl 6 (by decide) (hA _ mf_C_37) (fun _ h => h) hv hdg kk
theorem pf_C_37 (hx : p.tables.exec = Jvm.exec) (hb : c.code = cc) (hA : ∀ w ∈ wA, w.before args s = true) (hown : s.vm.findClass RcC = some m.cls) (hK : va_K D vwA tys s) (hP : va_P D vwA ws H) (hD : va_D A ws) (hS : va_S A H0 H locs) (q0 : Nat) {fs : List Value} (he : ws[q0]? = some (a, .inr (3, fs))) (hin2 : meth.name = "<init>") {v : Value} (hn : narrow (tcC 6) v = v) (hfit : fits (tcC 6) v = true) (hl : 6 < fs.length) (hdg : decode cc pc = .ok (.putfield 37, 3))
    (kk : ∀ (H1 : Heap) (locs1 : List Loc), va_P D vwA (ws.set q0 (a, .inr (3, fs.set 6 v))) H1 → va_D A (ws.set q0 (a, .inr (3, fs.set 6 v))) → va_S A H0 H1 locs1 → W p l e R s m args below meth c H1 locs1 cells slots Q (F0 m (pc + 3) ls rest)) : W p l e R s m args below meth c H locs cells slots Q (F0 m pc ls (v :: .ref a :: rest)) :=
  va_putF (D := D) (ci := 3) (C := RcC) (T := FcC) (N := 12) hx hb hA inC tcC okC nmC hown hK hP hD hS q0 he rfl 6 (by decide) (hA _ mf_C_37) (fun _ h => h) rfl hin2 rfl (okC 6 (by decide)) hn hfit hl hdg kk
theorem mf_C_40 : Cond.fieldLink RcC 40 (FcC 7).1 (FcC 7).2.1 (FcC 7).2.2.1 ∈ wA := wA_m (tb_1 (List.mem_of_getElem? (i := 120) rfl)) rfl
theorem gf_C_40 (hx : p.tables.exec = Jvm.exec) (hb : c.code = cc) (hA : ∀ w ∈ wA, w.before args s = true) (hown : s.vm.findClass RcC = some m.cls) (hK : va_K D vwA tys s) (hP : va_P D vwA ws H) (q0 : Nat) {fs : List Value} (he : ws[q0]? = some (a, .inr (3, fs))) {v : Value} (hv : fs[7]? = some v) (hdg : decode cc pc = .ok (.getfield 40, 3))
    (kk : W p l e R s m args below meth c H locs cells slots Q (F0 m (pc + 3) ls (v :: rest))) : W p l e R s m args below meth c H locs cells slots Q (F0 m pc ls (.ref a :: rest)) :=
  va_get (D := D) (ci := 3) (C := RcC) (T := FcC) (N := 12) hx hb hA inC hown hK hP q0 he rfl 7 (by decide) (hA _ mf_C_40) (fun _ h => h) hv hdg kk
theorem pf_C_40 (hx : p.tables.exec = Jvm.exec) (hb : c.code = cc) (hA : ∀ w ∈ wA, w.before args s = true) (hown : s.vm.findClass RcC = some m.cls) (hK : va_K D vwA tys s) (hP : va_P D vwA ws H) (hD : va_D A ws) (hS : va_S A H0 H locs) (q0 : Nat) {fs : List Value} (he : ws[q0]? = some (a, .inr (3, fs))) (hin2 : meth.name = "<init>") {v : Value} (hn : narrow (tcC 7) v = v) (hfit : fits (tcC 7) v = true) (hl : 7 < fs.length) (hdg : decode cc pc = .ok (.putfield 40, 3))
    (kk : ∀ (H1 : Heap) (locs1 : List Loc), va_P D vwA (ws.set q0 (a, .inr (3, fs.set 7 v))) H1 → va_D A (ws.set q0 (a, .inr (3, fs.set 7 v))) → va_S A H0 H1 locs1 → W p l e R s m args below meth c H1 locs1 cells slots Q (F0 m (pc + 3) ls rest)) : W p l e R s m args below meth c H locs cells slots Q (F0 m pc ls (v :: .ref a :: rest)) :=
  va_putF (D := D) (ci := 3) (C := RcC) (T := FcC) (N := 12) hx hb hA inC tcC okC nmC hown hK hP hD hS q0 he rfl 7 (by decide) (hA _ mf_C_40) (fun _ h => h) rfl hin2 rfl (okC 7 (by decide)) hn hfit hl hdg kk
theorem mf_C_43 : Cond.fieldLink RcC 43 (FcC 8).1 (FcC 8).2.1 (FcC 8).2.2.1 ∈ wA := wA_m (tb_1 (List.mem_of_getElem? (i := 121) rfl)) rfl
theorem gf_C_43 (hx : p.tables.exec = Jvm.exec) (hb : c.code = cc) (hA : ∀ w ∈ wA, w.before args s = true) (hown : s.vm.findClass RcC = some m.cls) (hK : va_K D vwA tys s) (hP : va_P D vwA ws H) (q0 : Nat) {fs : List Value} (he : ws[q0]? = some (a, .inr (3, fs))) {v : Value} (hv : fs[8]? = some v) (hdg : decode cc pc = .ok (.getfield 43, 3))
    (kk : W p l e R s m args below meth c H locs cells slots Q (F0 m (pc + 3) ls (v :: rest))) : W p l e R s m args below meth c H locs cells slots Q (F0 m pc ls (.ref a :: rest)) :=
  va_get (D := D) (ci := 3) (C := RcC) (T := FcC) (N := 12) hx hb hA inC hown hK hP q0 he rfl 8 (by decide) (hA _ mf_C_43) (fun _ h => h) hv hdg kk
theorem pf_C_43 (hx : p.tables.exec = Jvm.exec) (hb : c.code = cc) (hA : ∀ w ∈ wA, w.before args s = true) (hown : s.vm.findClass RcC = some m.cls) (hK : va_K D vwA tys s) (hP : va_P D vwA ws H) (hD : va_D A ws) (hS : va_S A H0 H locs) (q0 : Nat) {fs : List Value} (he : ws[q0]? = some (a, .inr (3, fs))) (hin2 : meth.name = "<init>") {v : Value} (hn : narrow (tcC 8) v = v) (hfit : fits (tcC 8) v = true) (hl : 8 < fs.length) (hdg : decode cc pc = .ok (.putfield 43, 3))
    (kk : ∀ (H1 : Heap) (locs1 : List Loc), va_P D vwA (ws.set q0 (a, .inr (3, fs.set 8 v))) H1 → va_D A (ws.set q0 (a, .inr (3, fs.set 8 v))) → va_S A H0 H1 locs1 → W p l e R s m args below meth c H1 locs1 cells slots Q (F0 m (pc + 3) ls rest)) : W p l e R s m args below meth c H locs cells slots Q (F0 m pc ls (v :: .ref a :: rest)) :=
  va_putF (D := D) (ci := 3) (C := RcC) (T := FcC) (N := 12) hx hb hA inC tcC okC nmC hown hK hP hD hS q0 he rfl 8 (by decide) (hA _ mf_C_43) (fun _ h => h) rfl hin2 rfl (okC 8 (by decide)) hn hfit hl hdg kk
theorem mf_C_46 : Cond.fieldLink RcC 46 (FcC 9).1 (FcC 9).2.1 (FcC 9).2.2.1 ∈ wA := wA_m (tb_1 (List.mem_of_getElem? (i := 122) rfl)) rfl
theorem gf_C_46 (hx : p.tables.exec = Jvm.exec) (hb : c.code = cc) (hA : ∀ w ∈ wA, w.before args s = true) (hown : s.vm.findClass RcC = some m.cls) (hK : va_K D vwA tys s) (hP : va_P D vwA ws H) (q0 : Nat) {fs : List Value} (he : ws[q0]? = some (a, .inr (3, fs))) {v : Value} (hv : fs[9]? = some v) (hdg : decode cc pc = .ok (.getfield 46, 3))
    (kk : W p l e R s m args below meth c H locs cells slots Q (F0 m (pc + 3) ls (v :: rest))) : W p l e R s m args below meth c H locs cells slots Q (F0 m pc ls (.ref a :: rest)) :=
  va_get (D := D) (ci := 3) (C := RcC) (T := FcC) (N := 12) hx hb hA inC hown hK hP q0 he rfl 9 (by decide) (hA _ mf_C_46) (fun _ h => h) hv hdg kk
theorem pf_C_46 (hx : p.tables.exec = Jvm.exec) (hb : c.code = cc) (hA : ∀ w ∈ wA, w.before args s = true) (hown : s.vm.findClass RcC = some m.cls) (hK : va_K D vwA tys s) (hP : va_P D vwA ws H) (hD : va_D A ws) (hS : va_S A H0 H locs) (q0 : Nat) {fs : List Value} (he : ws[q0]? = some (a, .inr (3, fs))) {v : Value} (hn : narrow (tcC 9) v = v) (hfit : fits (tcC 9) v = true) (hl : 9 < fs.length) (hdg : decode cc pc = .ok (.putfield 46, 3))
    (kk : ∀ (H1 : Heap) (locs1 : List Loc), va_P D vwA (ws.set q0 (a, .inr (3, fs.set 9 v))) H1 → va_D A (ws.set q0 (a, .inr (3, fs.set 9 v))) → va_S A H0 H1 locs1 → W p l e R s m args below meth c H1 locs1 cells slots Q (F0 m (pc + 3) ls rest)) : W p l e R s m args below meth c H locs cells slots Q (F0 m pc ls (v :: .ref a :: rest)) :=
  va_put (D := D) (ci := 3) (C := RcC) (T := FcC) (N := 12) hx hb hA inC tcC okC nmC hown hK hP hD hS q0 he rfl 9 (by decide) (hA _ mf_C_46) (fun _ h => h) rfl (okC 9 (by decide)) hn hfit hl hdg kk
theorem mf_C_50 : Cond.fieldLink RcC 50 (FcC 10).1 (FcC 10).2.1 (FcC 10).2.2.1 ∈ wA := wA_m (tb_1 (List.mem_of_getElem? (i := 123) rfl)) rfl
theorem gf_C_50 (hx : p.tables.exec = Jvm.exec) (hb : c.code = cc) (hA : ∀ w ∈ wA, w.before args s = true) (hown : s.vm.findClass RcC = some m.cls) (hK : va_K D vwA tys s) (hP : va_P D vwA ws H) (q0 : Nat) {fs : List Value} (he : ws[q0]? = some (a, .inr (3, fs))) {v : Value} (hv : fs[10]? = some v) (hdg : decode cc pc = .ok (.getfield 50, 3))
    (kk : W p l e R s m args below meth c H locs cells slots Q (F0 m (pc + 3) ls (v :: rest))) : W p l e R s m args below meth c H locs cells slots Q (F0 m pc ls (.ref a :: rest)) :=
  va_get (D := D) (ci := 3) (C := RcC) (T := FcC) (N := 12) hx hb hA inC hown hK hP q0 he rfl 10 (by decide) (hA _ mf_C_50) (fun _ h => h) hv hdg kk
theorem pf_C_50 (hx : p.tables.exec = Jvm.exec) (hb : c.code = cc) (hA : ∀ w ∈ wA, w.before args s = true) (hown : s.vm.findClass RcC = some m.cls) (hK : va_K D vwA tys s) (hP : va_P D vwA ws H) (hD : va_D A ws) (hS : va_S A H0 H locs) (q0 : Nat) {fs : List Value} (he : ws[q0]? = some (a, .inr (3, fs))) {v : Value} (hn : narrow (tcC 10) v = v) (hfit : fits (tcC 10) v = true) (hl : 10 < fs.length) (hdg : decode cc pc = .ok (.putfield 50, 3))
    (kk : ∀ (H1 : Heap) (locs1 : List Loc), va_P D vwA (ws.set q0 (a, .inr (3, fs.set 10 v))) H1 → va_D A (ws.set q0 (a, .inr (3, fs.set 10 v))) → va_S A H0 H1 locs1 → W p l e R s m args below meth c H1 locs1 cells slots Q (F0 m (pc + 3) ls rest)) : W p l e R s m args below meth c H locs cells slots Q (F0 m pc ls (v :: .ref a :: rest)) :=
  va_put (D := D) (ci := 3) (C := RcC) (T := FcC) (N := 12) hx hb hA inC tcC okC nmC hown hK hP hD hS q0 he rfl 10 (by decide) (hA _ mf_C_50) (fun _ h => h) rfl (okC 10 (by decide)) hn hfit hl hdg kk
theorem mf_C_53 : Cond.fieldLink RcC 53 (FcC 11).1 (FcC 11).2.1 (FcC 11).2.2.1 ∈ wA := wA_m (tb_1 (List.mem_of_getElem? (i := 124) rfl)) rfl
theorem gf_C_53 (hx : p.tables.exec = Jvm.exec) (hb : c.code = cc) (hA : ∀ w ∈ wA, w.before args s = true) (hown : s.vm.findClass RcC = some m.cls) (hK : va_K D vwA tys s) (hP : va_P D vwA ws H) (q0 : Nat) {fs : List Value} (he : ws[q0]? = some (a, .inr (3, fs))) {v : Value} (hv : fs[11]? = some v) (hdg : decode cc pc = .ok (.getfield 53, 3))
    (kk : W p l e R s m args below meth c H locs cells slots Q (F0 m (pc + 3) ls (v :: rest))) : W p l e R s m args below meth c H locs cells slots Q (F0 m pc ls (.ref a :: rest)) :=
  va_get (D := D) (ci := 3) (C := RcC) (T := FcC) (N := 12) hx hb hA inC hown hK hP q0 he rfl 11 (by decide) (hA _ mf_C_53) (fun _ h => h) hv hdg kk
theorem pf_C_53 (hx : p.tables.exec = Jvm.exec) (hb : c.code = cc) (hA : ∀ w ∈ wA, w.before args s = true) (hown : s.vm.findClass RcC = some m.cls) (hK : va_K D vwA tys s) (hP : va_P D vwA ws H) (hD : va_D A ws) (hS : va_S A H0 H locs) (q0 : Nat) {fs : List Value} (he : ws[q0]? = some (a, .inr (3, fs))) {v : Value} (hn : narrow (tcC 11) v = v) (hfit : fits (tcC 11) v = true) (hl : 11 < fs.length) (hdg : decode cc pc = .ok (.putfield 53, 3))
    (kk : ∀ (H1 : Heap) (locs1 : List Loc), va_P D vwA (ws.set q0 (a, .inr (3, fs.set 11 v))) H1 → va_D A (ws.set q0 (a, .inr (3, fs.set 11 v))) → va_S A H0 H1 locs1 → W p l e R s m args below meth c H1 locs1 cells slots Q (F0 m (pc + 3) ls rest)) : W p l e R s m args below meth c H locs cells slots Q (F0 m pc ls (v :: .ref a :: rest)) :=
  va_put (D := D) (ci := 3) (C := RcC) (T := FcC) (N := 12) hx hb hA inC tcC okC nmC hown hK hP hD hS q0 he rfl 11 (by decide) (hA _ mf_C_53) (fun _ h => h) rfl (okC 11 (by decide)) hn hfit hl hdg kk
theorem mf_S_10 : Cond.fieldLink RcS 10 (FcS 0).1 (FcS 0).2.1 (FcS 0).2.2.1 ∈ wA := wA_m (tb_1 (List.mem_of_getElem? (i := 150) rfl)) rfl
theorem gf_S_10 (hx : p.tables.exec = Jvm.exec) (hb : c.code = cc) (hA : ∀ w ∈ wA, w.before args s = true) (hown : s.vm.findClass RcS = some m.cls) (hK : va_K D vwA tys s) (hP : va_P D vwA ws H) (q0 : Nat) {fs : List Value} (he : ws[q0]? = some (a, .inr (4, fs))) {v : Value} (hv : fs[0]? = some v) (hdg : decode cc pc = .ok (.getfield 10, 3))
    (kk : W p l e R s m args below meth c H locs cells slots Q (F0 m (pc + 3) ls (v :: rest))) : W p l e R s m args below meth c H locs cells slots Q (F0 m pc ls (.ref a :: rest)) :=
  va_get (D := D) (ci := 4) (C := RcS) (T := FcS) (N := 5) hx hb hA inS hown hK hP q0 he rfl 0 (by decide) (hA _ mf_S_10) (fun _ h => h) hv hdg kk
theorem pf_S_10 (hx : p.tables.exec = Jvm.exec) (hb : c.code = cc) (hA : ∀ w ∈ wA, w.before args s = true) (hown : s.vm.findClass RcS = some m.cls) (hK : va_K D vwA tys s) (hP : va_P D vwA ws H) (hD : va_D A ws) (hS : va_S A H0 H locs) (q0 : Nat) {fs : List Value} (he : ws[q0]? = some (a, .inr (4, fs))) (hin2 : meth.name = "<init>") {v : Value} (hn : narrow (tcS 0) v = v) (hfit : fits (tcS 0) v = true) (hl : 0 < fs.length) (hdg : decode cc pc = .ok (.putfield 10, 3))
    (kk : ∀ (H1 : Heap) (locs1 : List Loc), va_P D vwA (ws.set q0 (a, .inr (4, fs.set 0 v))) H1 → va_D A (ws.set q0 (a, .inr (4, fs.set 0 v))) → va_S A H0 H1 locs1 → W p l e R s m args below meth c H1 locs1 cells slots Q (F0 m (pc + 3) ls rest)) : W p l e R s m args below meth c H locs cells slots Q (F0 m pc ls (v :: .ref a :: rest)) :=
  va_putF (D := D) (ci := 4) (C := RcS) (T := FcS) (N := 5) hx hb hA inS tcS okS nmS hown hK hP hD hS q0 he rfl 0 (by decide) (hA _ mf_S_10) (fun _ h => h) rfl hin2 rfl (okS 0 (by decide)) hn hfit hl hdg kk
theorem mf_S_19 : Cond.fieldLink RcS 19 (FcS 1).1 (FcS 1).2.1 (FcS 1).2.2.1 ∈ wA := wA_m (tb_1 (List.mem_of_getElem? (i := 151) rfl)) rfl
theorem gf_S_19 (hx : p.tables.exec = Jvm.exec) (hb : c.code = cc) (hA : ∀ w ∈ wA, w.before args s = true) (hown : s.vm.findClass RcS = some m.cls) (hK : va_K D vwA tys s) (hP : va_P D vwA ws H) (q0 : Nat) {fs : List Value} (he : ws[q0]? = some (a, .inr (4, fs))) {v : Value} (hv : fs[1]? = some v) (hdg : decode cc pc = .ok (.getfield 19, 3))
    (kk : W p l e R s m args below meth c H locs cells slots Q (F0 m (pc + 3) ls (v :: rest))) : W p l e R s m args below meth c H locs cells slots Q (F0 m pc ls (.ref a :: rest)) :=
  va_get (D := D) (ci := 4) (C := RcS) (T := FcS) (N := 5) hx hb hA inS hown hK hP q0 he rfl 1 (by decide) (hA _ mf_S_19) (fun _ h => h) hv hdg kk
theorem pf_S_19 (hx : p.tables.exec = Jvm.exec) (hb : c.code = cc) (hA : ∀ w ∈ wA, w.before args s = true) (hown : s.vm.findClass RcS = some m.cls) (hK : va_K D vwA tys s) (hP : va_P D vwA ws H) (hD : va_D A ws) (hS : va_S A H0 H locs) (q0 : Nat) {fs : List Value} (he : ws[q0]? = some (a, .inr (4, fs))) (hin2 : meth.name = "<init>") {v : Value} (hn : narrow (tcS 1) v = v) (hfit : fits (tcS 1) v = true) (hl : 1 < fs.length) (hdg : decode cc pc = .ok (.putfield 19, 3))
    (kk : ∀ (H1 : Heap) (locs1 : List Loc), va_P D vwA (ws.set q0 (a, .inr (4, fs.set 1 v))) H1 → va_D A (ws.set q0 (a, .inr (4, fs.set 1 v))) → va_S A H0 H1 locs1 → W p l e R s m args below meth c H1 locs1 cells slots Q (F0 m (pc + 3) ls rest)) : W p l e R s m args below meth c H locs cells slots Q (F0 m pc ls (v :: .ref a :: rest)) :=
  va_putF (D := D) (ci := 4) (C := RcS) (T := FcS) (N := 5) hx hb hA inS tcS okS nmS hown hK hP hD hS q0 he rfl 1 (by decide) (hA _ mf_S_19) (fun _ h => h) rfl hin2 rfl (okS 1 (by decide)) hn hfit hl hdg kk
theorem mf_S_28 : Cond.fieldLink RcS 28 (FcS 2).1 (FcS 2).2.1 (FcS 2).2.2.1 ∈ wA := wA_m (tb_1 (List.mem_of_getElem? (i := 152) rfl)) rfl
theorem gf_S_28 (hx : p.tables.exec = Jvm.exec) (hb : c.code = cc) (hA : ∀ w ∈ wA, w.before args s = true) (hown : s.vm.findClass RcS = some m.cls) (hK : va_K D vwA tys s) (hP : va_P D vwA ws H) (q0 : Nat) {fs : List Value} (he : ws[q0]? = some (a, .inr (4, fs))) {v : Value} (hv : fs[2]? = some v) (hdg : decode cc pc = .ok (.getfield 28, 3))
    (kk : W p l e R s m args below meth c H locs cells slots Q (F0 m (pc + 3) ls (v :: rest))) : W p l e R s m args below meth c H locs cells slots Q (F0 m pc ls (.ref a :: rest)) :=
  va_get (D := D) (ci := 4) (C := RcS) (T := FcS) (N := 5) hx hb hA inS hown hK hP q0 he rfl 2 (by decide) (hA _ mf_S_28) (fun _ h => h) hv hdg kk
theorem pf_S_28 (hx : p.tables.exec = Jvm.exec) (hb : c.code = cc) (hA : ∀ w ∈ wA, w.before args s = true) (hown : s.vm.findClass RcS = some m.cls) (hK : va_K D vwA tys s) (hP : va_P D vwA ws H) (hD : va_D A ws) (hS : va_S A H0 H locs) (q0 : Nat) {fs : List Value} (he : ws[q0]? = some (a, .inr (4, fs))) (hin2 : meth.name = "<init>") {v : Value} (hn : narrow (tcS 2) v = v) (hfit : fits (tcS 2) v = true) (hl : 2 < fs.length) (hdg : decode cc pc = .ok (.putfield 28, 3))
    (kk : ∀ (H1 : Heap) (locs1 : List Loc), va_P D vwA (ws.set q0 (a, .inr (4, fs.set 2 v))) H1 → va_D A (ws.set q0 (a, .inr (4, fs.set 2 v))) → va_S A H0 H1 locs1 → W p l e R s m args below meth c H1 locs1 cells slots Q (F0 m (pc + 3) ls rest)) : W p l e R s m args below meth c H locs cells slots Q (F0 m pc ls (v :: .ref a :: rest)) :=
  va_putF (D := D) (ci := 4) (C := RcS) (T := FcS) (N := 5) hx hb hA inS tcS okS nmS hown hK hP hD hS q0 he rfl 2 (by decide) (hA _ mf_S_28) (fun _ h => h) rfl hin2 rfl (okS 2 (by decide)) hn hfit hl hdg kk
theorem mf_S_32 : Cond.fieldLink RcS 32 (FcS 3).1 (FcS 3).2.1 (FcS 3).2.2.1 ∈ wA := wA_m (tb_1 (List.mem_of_getElem? (i := 153) rfl)) rfl
theorem gf_S_32 (hx : p.tables.exec = Jvm.exec) (hb : c.code = cc) (hA : ∀ w ∈ wA, w.before args s = true) (hown : s.vm.findClass RcS = some m.cls) (hK : va_K D vwA tys s) (hP : va_P D vwA ws H) (q0 : Nat) {fs : List Value} (he : ws[q0]? = some (a, .inr (4, fs))) {v : Value} (hv : fs[3]? = some v) (hdg : decode cc pc = .ok (.getfield 32, 3))
    (kk : W p l e R s m args below meth c H locs cells slots Q (F0 m (pc + 3) ls (v :: rest))) : W p l e R s m args below meth c H locs cells slots Q (F0 m pc ls (.ref a :: rest)) :=
  va_get (D := D) (ci := 4) (C := RcS) (T := FcS) (N := 5) hx hb hA inS hown hK hP q0 he rfl 3 (by decide) (hA _ mf_S_32) (fun _ h => h) hv hdg kk
theorem pf_S_32 (hx : p.tables.exec = Jvm.exec) (hb : c.code = cc) (hA : ∀ w ∈ wA, w.before args s = true) (hown : s.vm.findClass RcS = some m.cls) (hK : va_K D vwA tys s) (hP : va_P D vwA ws H) (hD : va_D A ws) (hS : va_S A H0 H locs) (q0 : Nat) {fs : List Value} (he : ws[q0]? = some (a, .inr (4, fs))) (hin2 : meth.name = "<init>") {v : Value} (hn : narrow (tcS 3) v = v) (hfit : fits (tcS 3) v = true) (hl : 3 < fs.length) (hdg : decode cc pc = .ok (.putfield 32, 3))
    (kk : ∀ (H1 : Heap) (locs1 : List Loc), va_P D vwA (ws.set q0 (a, .inr (4, fs.set 3 v))) H1 → va_D A (ws.set q0 (a, .inr (4, fs.set 3 v))) → va_S A H0 H1 locs1 → W p l e R s m args below meth c H1 locs1 cells slots Q (F0 m (pc + 3) ls rest)) : W p l e R s m args below meth c H locs cells slots Q (F0 m pc ls (v :: .ref a :: rest)) :=
  va_putF (D := D) (ci := 4) (C := RcS) (T := FcS) (N := 5) hx hb hA inS tcS okS nmS hown hK hP hD hS q0 he rfl 3 (by decide) (hA _ mf_S_32) (fun _ h => h) rfl hin2 rfl (okS 3 (by decide)) hn hfit hl hdg kk
theorem mf_S_36 : Cond.fieldLink RcS 36 (FcS 4).1 (FcS 4).2.1 (FcS 4).2.2.1 ∈ wA := wA_m (tb_1 (List.mem_of_getElem? (i := 154) rfl)) rfl
theorem gf_S_36 (hx : p.tables.exec = Jvm.exec) (hb : c.code = cc) (hA : ∀ w ∈ wA, w.before args s = true) (hown : s.vm.findClass RcS = some m.cls) (hK : va_K D vwA tys s) (hP : va_P D vwA ws H) (q0 : Nat) {fs : List Value} (he : ws[q0]? = some (a, .inr (4, fs))) {v : Value} (hv : fs[4]? = some v) (hdg : decode cc pc = .ok (.getfield 36, 3))
    (kk : W p l e R s m args below meth c H locs cells slots Q (F0 m (pc + 3) ls (v :: rest))) : W p l e R s m args below meth c H locs cells slots Q (F0 m pc ls (.ref a :: rest)) :=
  va_get (D := D) (ci := 4) (C := RcS) (T := FcS) (N := 5) hx hb hA inS hown hK hP q0 he rfl 4 (by decide) (hA _ mf_S_36) (fun _ h => h) hv hdg kk
theorem pf_S_36 (hx : p.tables.exec = Jvm.exec) (hb : c.code = cc) (hA : ∀ w ∈ wA, w.before args s = true) (hown : s.vm.findClass RcS = some m.cls) (hK : va_K D vwA tys s) (hP : va_P D vwA ws H) (hD : va_D A ws) (hS : va_S A H0 H locs) (q0 : Nat) {fs : List Value} (he : ws[q0]? = some (a, .inr (4, fs))) {v : Value} (hn : narrow (tcS 4) v = v) (hfit : fits (tcS 4) v = true) (hl : 4 < fs.length) (hdg : decode cc pc = .ok (.putfield 36, 3))
    (kk : ∀ (H1 : Heap) (locs1 : List Loc), va_P D vwA (ws.set q0 (a, .inr (4, fs.set 4 v))) H1 → va_D A (ws.set q0 (a, .inr (4, fs.set 4 v))) → va_S A H0 H1 locs1 → W p l e R s m args below meth c H1 locs1 cells slots Q (F0 m (pc + 3) ls rest)) : W p l e R s m args below meth c H locs cells slots Q (F0 m pc ls (v :: .ref a :: rest)) :=
  va_put (D := D) (ci := 4) (C := RcS) (T := FcS) (N := 5) hx hb hA inS tcS okS nmS hown hK hP hD hS q0 he rfl 4 (by decide) (hA _ mf_S_36) (fun _ h => h) rfl (okS 4 (by decide)) hn hfit hl hdg kk
theorem mf_M_55 : Cond.fieldLink RcM 55 (FcM 0).1 (FcM 0).2.1 (FcM 0).2.2.1 ∈ wA := wA_m (tb_3 (List.mem_of_getElem? (i := 135) rfl)) rfl
theorem gf_M_55 (hx : p.tables.exec = Jvm.exec) (hb : c.code = cc) (hA : ∀ w ∈ wA, w.before args s = true) (hown : s.vm.findClass RcM = some m.cls) (hK : va_K D vwA tys s) (hP : va_P D vwA ws H) (q0 : Nat) {fs : List Value} (he : ws[q0]? = some (a, .inr (5, fs))) {v : Value} (hv : fs[0]? = some v) (hdg : decode cc pc = .ok (.getfield 55, 3))
    (kk : W p l e R s m args below meth c H locs cells slots Q (F0 m (pc + 3) ls (v :: rest))) : W p l e R s m args below meth c H locs cells slots Q (F0 m pc ls (.ref a :: rest)) :=
  va_get (D := D) (ci := 5) (C := RcM) (T := FcM) (N := 19) hx hb hA inM hown hK hP q0 he rfl 0 (by decide) (hA _ mf_M_55) (fun _ h => h) hv hdg kk
theorem pf_M_55 (hx : p.tables.exec = Jvm.exec) (hb : c.code = cc) (hA : ∀ w ∈ wA, w.before args s = true) (hown : s.vm.findClass RcM = some m.cls) (hK : va_K D vwA tys s) (hP : va_P D vwA ws H) (hD : va_D A ws) (hS : va_S A H0 H locs) (q0 : Nat) {fs : List Value} (he : ws[q0]? = some (a, .inr (5, fs))) {v : Value} (hn : narrow (tcM 0) v = v) (hfit : fits (tcM 0) v = true) (hl : 0 < fs.length) (hdg : decode cc pc = .ok (.putfield 55, 3))
    (kk : ∀ (H1 : Heap) (locs1 : List Loc), va_P D vwA (ws.set q0 (a, .inr (5, fs.set 0 v))) H1 → va_D A (ws.set q0 (a, .inr (5, fs.set 0 v))) → va_S A H0 H1 locs1 → W p l e R s m args below meth c H1 locs1 cells slots Q (F0 m (pc + 3) ls rest)) : W p l e R s m args below meth c H locs cells slots Q (F0 m pc ls (v :: .ref a :: rest)) :=
  va_put (D := D) (ci := 5) (C := RcM) (T := FcM) (N := 19) hx hb hA inM tcM okM nmM hown hK hP hD hS q0 he rfl 0 (by decide) (hA _ mf_M_55) (fun _ h => h) rfl (okM 0 (by decide)) hn hfit hl hdg kk
theorem mf_M_7 : Cond.fieldLink RcM 7 (FcM 1).1 (FcM 1).2.1 (FcM 1).2.2.1 ∈ wA := wA_m (tb_3 (List.mem_of_getElem? (i := 136) rfl)) rfl
theorem gf_M_7 (hx : p.tables.exec = Jvm.exec) (hb : c.code = cc) (hA : ∀ w ∈ wA, w.before args s = true) (hown : s.vm.findClass RcM = some m.cls) (hK : va_K D vwA tys s) (hP : va_P D vwA ws H) (q0 : Nat) {fs : List Value} (he : ws[q0]? = some (a, .inr (5, fs))) {v : Value} (hv : fs[1]? = some v) (hdg : decode cc pc = .ok (.getfield 7, 3))
    (kk : W p l e R s m args below meth c H locs cells slots Q (F0 m (pc + 3) ls (v :: rest))) : W p l e R s m args below meth c H locs cells slots Q (F0 m pc ls (.ref a :: rest)) :=
  va_get (D := D) (ci := 5) (C := RcM) (T := FcM) (N := 19) hx hb hA inM hown hK hP q0 he rfl 1 (by decide) (hA _ mf_M_7) (fun _ h => h) hv hdg kk
theorem pf_M_7 (hx : p.tables.exec = Jvm.exec) (hb : c.code = cc) (hA : ∀ w ∈ wA, w.before args s = true) (hown : s.vm.findClass RcM = some m.cls) (hK : va_K D vwA tys s) (hP : va_P D vwA ws H) (hD : va_D A ws) (hS : va_S A H0 H locs) (q0 : Nat) {fs : List Value} (he : ws[q0]? = some (a, .inr (5, fs))) {v : Value} (hn : narrow (tcM 1) v = v) (hfit : fits (tcM 1) v = true) (hl : 1 < fs.length) (hdg : decode cc pc = .ok (.putfield 7, 3))
    (kk : ∀ (H1 : Heap) (locs1 : List Loc), va_P D vwA (ws.set q0 (a, .inr (5, fs.set 1 v))) H1 → va_D A (ws.set q0 (a, .inr (5, fs.set 1 v))) → va_S A H0 H1 locs1 → W p l e R s m args below meth c H1 locs1 cells slots Q (F0 m (pc + 3) ls rest)) : W p l e R s m args below meth c H locs cells slots Q (F0 m pc ls (v :: .ref a :: rest)) :=
  va_put (D := D) (ci := 5) (C := RcM) (T := FcM) (N := 19) hx hb hA inM tcM okM nmM hown hK hP hD hS q0 he rfl 1 (by decide) (hA _ mf_M_7) (fun _ h => h) rfl (okM 1 (by decide)) hn hfit hl hdg kk
theorem mf_M_13 : Cond.fieldLink RcM 13 (FcM 2).1 (FcM 2).2.1 (FcM 2).2.2.1 ∈ wA := wA_m (tb_3 (List.mem_of_getElem? (i := 137) rfl)) rfl
theorem gf_M_13 (hx : p.tables.exec = Jvm.exec) (hb : c.code = cc) (hA : ∀ w ∈ wA, w.before args s = true) (hown : s.vm.findClass RcM = some m.cls) (hK : va_K D vwA tys s) (hP : va_P D vwA ws H) (q0 : Nat) {fs : List Value} (he : ws[q0]? = some (a, .inr (5, fs))) {v : Value} (hv : fs[2]? = some v) (hdg : decode cc pc = .ok (.getfield 13, 3))
    (kk : W p l e R s m args below meth c H locs cells slots Q (F0 m (pc + 3) ls (v :: rest))) : W p l e R s m args below meth c H locs cells slots Q (F0 m pc ls (.ref a :: rest)) :=
  va_get (D := D) (ci := 5) (C := RcM) (T := FcM) (N := 19) hx hb hA inM hown hK hP q0 he rfl 2 (by decide) (hA _ mf_M_13) (fun _ h => h) hv hdg kk
theorem pf_M_13 (hx : p.tables.exec = Jvm.exec) (hb : c.code = cc) (hA : ∀ w ∈ wA, w.before args s = true) (hown : s.vm.findClass RcM = some m.cls) (hK : va_K D vwA tys s) (hP : va_P D vwA ws H) (hD : va_D A ws) (hS : va_S A H0 H locs) (q0 : Nat) {fs : List Value} (he : ws[q0]? = some (a, .inr (5, fs))) (hin2 : meth.name = "<init>") {v : Value} (hn : narrow (tcM 2) v = v) (hfit : fits (tcM 2) v = true) (hl : 2 < fs.length) (hdg : decode cc pc = .ok (.putfield 13, 3))
    (kk : ∀ (H1 : Heap) (locs1 : List Loc), va_P D vwA (ws.set q0 (a, .inr (5, fs.set 2 v))) H1 → va_D A (ws.set q0 (a, .inr (5, fs.set 2 v))) → va_S A H0 H1 locs1 → W p l e R s m args below meth c H1 locs1 cells slots Q (F0 m (pc + 3) ls rest)) : W p l e R s m args below meth c H locs cells slots Q (F0 m pc ls (v :: .ref a :: rest)) :=
  va_putF (D := D) (ci := 5) (C := RcM) (T := FcM) (N := 19) hx hb hA inM tcM okM nmM hown hK hP hD hS q0 he rfl 2 (by decide) (hA _ mf_M_13) (fun _ h => h) rfl hin2 rfl (okM 2 (by decide)) hn hfit hl hdg kk
theorem mf_M_17 : Cond.fieldLink RcM 17 (FcM 3).1 (FcM 3).2.1 (FcM 3).2.2.1 ∈ wA := wA_m (tb_3 (List.mem_of_getElem? (i := 138) rfl)) rfl
theorem gf_M_17 (hx : p.tables.exec = Jvm.exec) (hb : c.code = cc) (hA : ∀ w ∈ wA, w.before args s = true) (hown : s.vm.findClass RcM = some m.cls) (hK : va_K D vwA tys s) (hP : va_P D vwA ws H) (q0 : Nat) {fs : List Value} (he : ws[q0]? = some (a, .inr (5, fs))) {v : Value} (hv : fs[3]? = some v) (hdg : decode cc pc = .ok (.getfield 17, 3))
    (kk : W p l e R s m args below meth c H locs cells slots Q (F0 m (pc + 3) ls (v :: rest))) : W p l e R s m args below meth c H locs cells slots Q (F0 m pc ls (.ref a :: rest)) :=
  va_get (D := D) (ci := 5) (C := RcM) (T := FcM) (N := 19) hx hb hA inM hown hK hP q0 he rfl 3 (by decide) (hA _ mf_M_17) (fun _ h => h) hv hdg kk
theorem pf_M_17 (hx : p.tables.exec = Jvm.exec) (hb : c.code = cc) (hA : ∀ w ∈ wA, w.before args s = true) (hown : s.vm.findClass RcM = some m.cls) (hK : va_K D vwA tys s) (hP : va_P D vwA ws H) (hD : va_D A ws) (hS : va_S A H0 H locs) (q0 : Nat) {fs : List Value} (he : ws[q0]? = some (a, .inr (5, fs))) (hin2 : meth.name = "<init>") {v : Value} (hn : narrow (tcM 3) v = v) (hfit : fits (tcM 3) v = true) (hl : 3 < fs.length) (hdg : decode cc pc = .ok (.putfield 17, 3))
    (kk : ∀ (H1 : Heap) (locs1 : List Loc), va_P D vwA (ws.set q0 (a, .inr (5, fs.set 3 v))) H1 → va_D A (ws.set q0 (a, .inr (5, fs.set 3 v))) → va_S A H0 H1 locs1 → W p l e R s m args below meth c H1 locs1 cells slots Q (F0 m (pc + 3) ls rest)) : W p l e R s m args below meth c H locs cells slots Q (F0 m pc ls (v :: .ref a :: rest)) :=
  va_putF (D := D) (ci := 5) (C := RcM) (T := FcM) (N := 19) hx hb hA inM tcM okM nmM hown hK hP hD hS q0 he rfl 3 (by decide) (hA _ mf_M_17) (fun _ h => h) rfl hin2 rfl (okM 3 (by decide)) hn hfit hl hdg kk
theorem mf_M_20 : Cond.fieldLink RcM 20 (FcM 4).1 (FcM 4).2.1 (FcM 4).2.2.1 ∈ wA := wA_m (tb_3 (List.mem_of_getElem? (i := 139) rfl)) rfl
theorem gf_M_20 (hx : p.tables.exec = Jvm.exec) (hb : c.code = cc) (hA : ∀ w ∈ wA, w.before args s = true) (hown : s.vm.findClass RcM = some m.cls) (hK : va_K D vwA tys s) (hP : va_P D vwA ws H) (q0 : Nat) {fs : List Value} (he : ws[q0]? = some (a, .inr (5, fs))) {v : Value} (hv : fs[4]? = some v) (hdg : decode cc pc = .ok (.getfield 20, 3))
    (kk : W p l e R s m args below meth c H locs cells slots Q (F0 m (pc + 3) ls (v :: rest))) : W p l e R s m args below meth c H locs cells slots Q (F0 m pc ls (.ref a :: rest)) :=
  va_get (D := D) (ci := 5) (C := RcM) (T := FcM) (N := 19) hx hb hA inM hown hK hP q0 he rfl 4 (by decide) (hA _ mf_M_20) (fun _ h => h) hv hdg kk
theorem pf_M_20 (hx : p.tables.exec = Jvm.exec) (hb : c.code = cc) (hA : ∀ w ∈ wA, w.before args s = true) (hown : s.vm.findClass RcM = some m.cls) (hK : va_K D vwA tys s) (hP : va_P D vwA ws H) (hD : va_D A ws) (hS : va_S A H0 H locs) (q0 : Nat) {fs : List Value} (he : ws[q0]? = some (a, .inr (5, fs))) (hin2 : meth.name = "<init>") {v : Value} (hn : narrow (tcM 4) v = v) (hfit : fits (tcM 4) v = true) (hl : 4 < fs.length) (hdg : decode cc pc = .ok (.putfield 20, 3))
    (kk : ∀ (H1 : Heap) (locs1 : List Loc), va_P D vwA (ws.set q0 (a, .inr (5, fs.set 4 v))) H1 → va_D A (ws.set q0 (a, .inr (5, fs.set 4 v))) → va_S A H0 H1 locs1 → W p l e R s m args below meth c H1 locs1 cells slots Q (F0 m (pc + 3) ls rest)) : W p l e R s m args below meth c H locs cells slots Q (F0 m pc ls (v :: .ref a :: rest)) :=
  va_putF (D := D) (ci := 5) (C := RcM) (T := FcM) (N := 19) hx hb hA inM tcM okM nmM hown hK hP hD hS q0 he rfl 4 (by decide) (hA _ mf_M_20) (fun _ h => h) rfl hin2 rfl (okM 4 (by decide)) hn hfit hl hdg kk
theorem mf_M_77 : Cond.fieldLink RcM 77 (FcM 5).1 (FcM 5).2.1 (FcM 5).2.2.1 ∈ wA := wA_m (tb_3 (List.mem_of_getElem? (i := 140) rfl)) rfl
theorem gf_M_77 (hx : p.tables.exec = Jvm.exec) (hb : c.code = cc) (hA : ∀ w ∈ wA, w.before args s = true) (hown : s.vm.findClass RcM = some m.cls) (hK : va_K D vwA tys s) (hP : va_P D vwA ws H) (q0 : Nat) {fs : List Value} (he : ws[q0]? = some (a, .inr (5, fs))) {v : Value} (hv : fs[5]? = some v) (hdg : decode cc pc = .ok (.getfield 77, 3))
    (kk : W p l e R s m args below meth c H locs cells slots Q (F0 m (pc + 3) ls (v :: rest))) : W p l e R s m args below meth c H locs cells slots Q (F0 m pc ls (.ref a :: rest)) :=
  va_get (D := D) (ci := 5) (C := RcM) (T := FcM) (N := 19) hx hb hA inM hown hK hP q0 he rfl 5 (by decide) (hA _ mf_M_77) (fun _ h => h) hv hdg kk
theorem pf_M_77 (hx : p.tables.exec = Jvm.exec) (hb : c.code = cc) (hA : ∀ w ∈ wA, w.before args s = true) (hown : s.vm.findClass RcM = some m.cls) (hK : va_K D vwA tys s) (hP : va_P D vwA ws H) (hD : va_D A ws) (hS : va_S A H0 H locs) (q0 : Nat) {fs : List Value} (he : ws[q0]? = some (a, .inr (5, fs))) {v : Value} (hn : narrow (tcM 5) v = v) (hfit : fits (tcM 5) v = true) (hl : 5 < fs.length) (hdg : decode cc pc = .ok (.putfield 77, 3))
    (kk : ∀ (H1 : Heap) (locs1 : List Loc), va_P D vwA (ws.set q0 (a, .inr (5, fs.set 5 v))) H1 → va_D A (ws.set q0 (a, .inr (5, fs.set 5 v))) → va_S A H0 H1 locs1 → W p l e R s m args below meth c H1 locs1 cells slots Q (F0 m (pc + 3) ls rest)) : W p l e R s m args below meth c H locs cells slots Q (F0 m pc ls (v :: .ref a :: rest)) :=
  va_put (D := D) (ci := 5) (C := RcM) (T := FcM) (N := 19) hx hb hA inM tcM okM nmM hown hK hP hD hS q0 he rfl 5 (by decide) (hA _ mf_M_77) (fun _ h => h) rfl (okM 5 (by decide)) hn hfit hl hdg kk
theorem mf_M_23 : Cond.fieldLink RcM 23 (FcM 6).1 (FcM 6).2.1 (FcM 6).2.2.1 ∈ wA := wA_m (tb_3 (List.mem_of_getElem? (i := 141) rfl)) rfl
theorem gf_M_23 (hx : p.tables.exec = Jvm.exec) (hb : c.code = cc) (hA : ∀ w ∈ wA, w.before args s = true) (hown : s.vm.findClass RcM = some m.cls) (hK : va_K D vwA tys s) (hP : va_P D vwA ws H) (q0 : Nat) {fs : List Value} (he : ws[q0]? = some (a, .inr (5, fs))) {v : Value} (hv : fs[6]? = some v) (hdg : decode cc pc = .ok (.getfield 23, 3))
    (kk : W p l e R s m args below meth c H locs cells slots Q (F0 m (pc + 3) ls (v :: rest))) : W p l e R s m args below meth c H locs cells slots Q (F0 m pc ls (.ref a :: rest)) :=
  va_get (D := D) (ci := 5) (C := RcM) (T := FcM) (N := 19) hx hb hA inM hown hK hP q0 he rfl 6 (by decide) (hA _ mf_M_23) (fun _ h => h) hv hdg kk
theorem pf_M_23 (hx : p.tables.exec = Jvm.exec) (hb : c.code = cc) (hA : ∀ w ∈ wA, w.before args s = true) (hown : s.vm.findClass RcM = some m.cls) (hK : va_K D vwA tys s) (hP : va_P D vwA ws H) (hD : va_D A ws) (hS : va_S A H0 H locs) (q0 : Nat) {fs : List Value} (he : ws[q0]? = some (a, .inr (5, fs))) (hin2 : meth.name = "<init>") {v : Value} (hn : narrow (tcM 6) v = v) (hfit : fits (tcM 6) v = true) (hl : 6 < fs.length) (hdg : decode cc pc = .ok (.putfield 23, 3))
    (kk : ∀ (H1 : Heap) (locs1 : List Loc), va_P D vwA (ws.set q0 (a, .inr (5, fs.set 6 v))) H1 → va_D A (ws.set q0 (a, .inr (5, fs.set 6 v))) → va_S A H0 H1 locs1 → W p l e R s m args below meth c H1 locs1 cells slots Q (F0 m (pc + 3) ls rest)) : W p l e R s m args below meth c H locs cells slots Q (F0 m pc ls (v :: .ref a :: rest)) :=
  va_putF (D := D) (ci := 5) (C := RcM) (T := FcM) (N := 19) hx hb hA inM tcM okM nmM hown hK hP hD hS q0 he rfl 6 (by decide) (hA _ mf_M_23) (fun _ h => h) rfl hin2 rfl (okM 6 (by decide)) hn hfit hl hdg kk
theorem mf_M_26 : Cond.fieldLink RcM 26 (FcM 7).1 (FcM 7).2.1 (FcM 7).2.2.1 ∈ wA := wA_m (tb_3 (List.mem_of_getElem? (i := 142) rfl)) rfl
theorem gf_M_26 (hx : p.tables.exec = Jvm.exec) (hb : c.code = cc) (hA : ∀ w ∈ wA, w.before args s = true) (hown : s.vm.findClass RcM = some m.cls) (hK : va_K D vwA tys s) (hP : va_P D vwA ws H) (q0 : Nat) {fs : List Value} (he : ws[q0]? = some (a, .inr (5, fs))) {v : Value} (hv : fs[7]? = some v) (hdg : decode cc pc = .ok (.getfield 26, 3))
    (kk : W p l e R s m args below meth c H locs cells slots Q (F0 m (pc + 3) ls (v :: rest))) : W p l e R s m args below meth c H locs cells slots Q (F0 m pc ls (.ref a :: rest)) :=
  va_get (D := D) (ci := 5) (C := RcM) (T := FcM) (N := 19) hx hb hA inM hown hK hP q0 he rfl 7 (by decide) (hA _ mf_M_26) (fun _ h => h) hv hdg kk
theorem pf_M_26 (hx : p.tables.exec = Jvm.exec) (hb : c.code = cc) (hA : ∀ w ∈ wA, w.before args s = true) (hown : s.vm.findClass RcM = some m.cls) (hK : va_K D vwA tys s) (hP : va_P D vwA ws H) (hD : va_D A ws) (hS : va_S A H0 H locs) (q0 : Nat) {fs : List Value} (he : ws[q0]? = some (a, .inr (5, fs))) (hin2 : meth.name = "<init>") {v : Value} (hn : narrow (tcM 7) v = v) (hfit : fits (tcM 7) v = true) (hl : 7 < fs.length) (hdg : decode cc pc = .ok (.putfield 26, 3))
    (kk : ∀ (H1 : Heap) (locs1 : List Loc), va_P D vwA (ws.set q0 (a, .inr (5, fs.set 7 v))) H1 → va_D A (ws.set q0 (a, .inr (5, fs.set 7 v))) → va_S A H0 H1 locs1 → W p l e R s m args below meth c H1 locs1 cells slots Q (F0 m (pc + 3) ls rest)) : W p l e R s m args below meth c H locs cells slots Q (F0 m pc ls (v :: .ref a :: rest)) :=
  va_putF (D := D) (ci := 5) (C := RcM) (T := FcM) (N := 19) hx hb hA inM tcM okM nmM hown hK hP hD hS q0 he rfl 7 (by decide) (hA _ mf_M_26) (fun _ h => h) rfl hin2 rfl (okM 7 (by decide)) hn hfit hl hdg kk
theorem mf_M_29 : Cond.fieldLink RcM 29 (FcM 8).1 (FcM 8).2.1 (FcM 8).2.2.1 ∈ wA := wA_m (tb_3 (List.mem_of_getElem? (i := 143) rfl)) rfl
theorem gf_M_29 (hx : p.tables.exec = Jvm.exec) (hb : c.code = cc) (hA : ∀ w ∈ wA, w.before args s = true) (hown : s.vm.findClass RcM = some m.cls) (hK : va_K D vwA tys s) (hP : va_P D vwA ws H) (q0 : Nat) {fs : List Value} (he : ws[q0]? = some (a, .inr (5, fs))) {v : Value} (hv : fs[8]? = some v) (hdg : decode cc pc = .ok (.getfield 29, 3))
    (kk : W p l e R s m args below meth c H locs cells slots Q (F0 m (pc + 3) ls (v :: rest))) : W p l e R s m args below meth c H locs cells slots Q (F0 m pc ls (.ref a :: rest)) :=
  va_get (D := D) (ci := 5) (C := RcM) (T := FcM) (N := 19) hx hb hA inM hown hK hP q0 he rfl 8 (by decide) (hA _ mf_M_29) (fun _ h => h) hv hdg kk
theorem pf_M_29 (hx : p.tables.exec = Jvm.exec) (hb : c.code = cc) (hA : ∀ w ∈ wA, w.before args s = true) (hown : s.vm.findClass RcM = some m.cls) (hK : va_K D vwA tys s) (hP : va_P D vwA ws H) (hD : va_D A ws) (hS : va_S A H0 H locs) (q0 : Nat) {fs : List Value} (he : ws[q0]? = some (a, .inr (5, fs))) (hin2 : meth.name = "<init>") {v : Value} (hn : narrow (tcM 8) v = v) (hfit : fits (tcM 8) v = true) (hl : 8 < fs.length) (hdg : decode cc pc = .ok (.putfield 29, 3))
    (kk : ∀ (H1 : Heap) (locs1 : List Loc), va_P D vwA (ws.set q0 (a, .inr (5, fs.set 8 v))) H1 → va_D A (ws.set q0 (a, .inr (5, fs.set 8 v))) → va_S A H0 H1 locs1 → W p l e R s m args below meth c H1 locs1 cells slots Q (F0 m (pc + 3) ls rest)) : W p l e R s m args below meth c H locs cells slots Q (F0 m pc ls (v :: .ref a :: rest)) :=
  va_putF (D := D) (ci := 5) (C := RcM) (T := FcM) (N := 19) hx hb hA inM tcM okM nmM hown hK hP hD hS q0 he rfl 8 (by decide) (hA _ mf_M_29) (fun _ h => h) rfl hin2 rfl (okM 8 (by decide)) hn hfit hl hdg kk
theorem mf_M_32 : Cond.fieldLink RcM 32 (FcM 9).1 (FcM 9).2.1 (FcM 9).2.2.1 ∈ wA := wA_m (tb_3 (List.mem_of_getElem? (i := 144) rfl)) rfl
theorem gf_M_32 (hx : p.tables.exec = Jvm.exec) (hb : c.code = cc) (hA : ∀ w ∈ wA, w.before args s = true) (hown : s.vm.findClass RcM = some m.cls) (hK : va_K D vwA tys s) (hP : va_P D vwA ws H) (q0 : Nat) {fs : List Value} (he : ws[q0]? = some (a, .inr (5, fs))) {v : Value} (hv : fs[9]? = some v) (hdg : decode cc pc = .ok (.getfield 32, 3))
    (kk : W p l e R s m args below meth c H locs cells slots Q (F0 m (pc + 3) ls (v :: rest))) : W p l e R s m args below meth c H locs cells slots Q (F0 m pc ls (.ref a :: rest)) :=
  va_get (D := D) (ci := 5) (C := RcM) (T := FcM) (N := 19) hx hb hA inM hown hK hP q0 he rfl 9 (by decide) (hA _ mf_M_32) (fun _ h => h) hv hdg kk
theorem pf_M_32 (hx : p.tables.exec = Jvm.exec) (hb : c.code = cc) (hA : ∀ w ∈ wA, w.before args s = true) (hown : s.vm.findClass RcM = some m.cls) (hK : va_K D vwA tys s) (hP : va_P D vwA ws H) (hD : va_D A ws) (hS : va_S A H0 H locs) (q0 : Nat) {fs : List Value} (he : ws[q0]? = some (a, .inr (5, fs))) (hin2 : meth.name = "<init>") {v : Value} (hn : narrow (tcM 9) v = v) (hfit : fits (tcM 9) v = true) (hl : 9 < fs.length) (hdg : decode cc pc = .ok (.putfield 32, 3))
    (kk : ∀ (H1 : Heap) (locs1 : List Loc), va_P D vwA (ws.set q0 (a, .inr (5, fs.set 9 v))) H1 → va_D A (ws.set q0 (a, .inr (5, fs.set 9 v))) → va_S A H0 H1 locs1 → W p l e R s m args below meth c H1 locs1 cells slots Q (F0 m (pc + 3) ls rest)) : W p l e R s m args below meth c H locs cells slots Q (F0 m pc ls (v :: .ref a :: rest)) :=
  va_putF (D := D) (ci := 5) (C := RcM) (T := FcM) (N := 19) hx hb hA inM tcM okM nmM hown hK hP hD hS q0 he rfl 9 (by decide) (hA _ mf_M_32) (fun _ h => h) rfl hin2 rfl (okM 9 (by decide)) hn hfit hl hdg kk
theorem mf_M_35 : Cond.fieldLink RcM 35 (FcM 10).1 (FcM 10).2.1 (FcM 10).2.2.1 ∈ wA := wA_m (tb_3 (List.mem_of_getElem? (i := 145) rfl)) rfl
theorem gf_M_35 (hx : p.tables.exec = Jvm.exec) (hb : c.code = cc) (hA : ∀ w ∈ wA, w.before args s = true) (hown : s.vm.findClass RcM = some m.cls) (hK : va_K D vwA tys s) (hP : va_P D vwA ws H) (q0 : Nat) {fs : List Value} (he : ws[q0]? = some (a, .inr (5, fs))) {v : Value} (hv : fs[10]? = some v) (hdg : decode cc pc = .ok (.getfield 35, 3))
    (kk : W p l e R s m args below meth c H locs cells slots Q (F0 m (pc + 3) ls (v :: rest))) : W p l e R s m args below meth c H locs cells slots Q (F0 m pc ls (.ref a :: rest)) :=
  va_get (D := D) (ci := 5) (C := RcM) (T := FcM) (N := 19) hx hb hA inM hown hK hP q0 he rfl 10 (by decide) (hA _ mf_M_35) (fun _ h => h) hv hdg kk
theorem pf_M_35 (hx : p.tables.exec = Jvm.exec) (hb : c.code = cc) (hA : ∀ w ∈ wA, w.before args s = true) (hown : s.vm.findClass RcM = some m.cls) (hK : va_K D vwA tys s) (hP : va_P D vwA ws H) (hD : va_D A ws) (hS : va_S A H0 H locs) (q0 : Nat) {fs : List Value} (he : ws[q0]? = some (a, .inr (5, fs))) (hin2 : meth.name = "<init>") {v : Value} (hn : narrow (tcM 10) v = v) (hfit : fits (tcM 10) v = true) (hl : 10 < fs.length) (hdg : decode cc pc = .ok (.putfield 35, 3))
    (kk : ∀ (H1 : Heap) (locs1 : List Loc), va_P D vwA (ws.set q0 (a, .inr (5, fs.set 10 v))) H1 → va_D A (ws.set q0 (a, .inr (5, fs.set 10 v))) → va_S A H0 H1 locs1 → W p l e R s m args below meth c H1 locs1 cells slots Q (F0 m (pc + 3) ls rest)) : W p l e R s m args below meth c H locs cells slots Q (F0 m pc ls (v :: .ref a :: rest)) :=
  va_putF (D := D) (ci := 5) (C := RcM) (T := FcM) (N := 19) hx hb hA inM tcM okM nmM hown hK hP hD hS q0 he rfl 10 (by decide) (hA _ mf_M_35) (fun _ h => h) rfl hin2 rfl (okM 10 (by decide)) hn hfit hl hdg kk
theorem mf_M_39 : Cond.fieldLink RcM 39 (FcM 11).1 (FcM 11).2.1 (FcM 11).2.2.1 ∈ wA := wA_m (tb_3 (List.mem_of_getElem? (i := 146) rfl)) rfl
theorem gf_M_39 (hx : p.tables.exec = Jvm.exec) (hb : c.code = cc) (hA : ∀ w ∈ wA, w.before args s = true) (hown : s.vm.findClass RcM = some m.cls) (hK : va_K D vwA tys s) (hP : va_P D vwA ws H) (q0 : Nat) {fs : List Value} (he : ws[q0]? = some (a, .inr (5, fs))) {v : Value} (hv : fs[11]? = some v) (hdg : decode cc pc = .ok (.getfield 39, 3))
    (kk : W p l e R s m args below meth c H locs cells slots Q (F0 m (pc + 3) ls (v :: rest))) : W p l e R s m args below meth c H locs cells slots Q (F0 m pc ls (.ref a :: rest)) :=
  va_get (D := D) (ci := 5) (C := RcM) (T := FcM) (N := 19) hx hb hA inM hown hK hP q0 he rfl 11 (by decide) (hA _ mf_M_39) (fun _ h => h) hv hdg kk
theorem pf_M_39 (hx : p.tables.exec = Jvm.exec) (hb : c.code = cc) (hA : ∀ w ∈ wA, w.before args s = true) (hown : s.vm.findClass RcM = some m.cls) (hK : va_K D vwA tys s) (hP : va_P D vwA ws H) (hD : va_D A ws) (hS : va_S A H0 H locs) (q0 : Nat) {fs : List Value} (he : ws[q0]? = some (a, .inr (5, fs))) (hin2 : meth.name = "<init>") {v : Value} (hn : narrow (tcM 11) v = v) (hfit : fits (tcM 11) v = true) (hl : 11 < fs.length) (hdg : decode cc pc = .ok (.putfield 39, 3))
    (kk : ∀ (H1 : Heap) (locs1 : List Loc), va_P D vwA (ws.set q0 (a, .inr (5, fs.set 11 v))) H1 → va_D A (ws.set q0 (a, .inr (5, fs.set 11 v))) → va_S A H0 H1 locs1 → W p l e R s m args below meth c H1 locs1 cells slots Q (F0 m (pc + 3) ls rest)) : W p l e R s m args below meth c H locs cells slots Q (F0 m pc ls (v :: .ref a :: rest)) :=
  va_putF (D := D) (ci := 5) (C := RcM) (T := FcM) (N := 19) hx hb hA inM tcM okM nmM hown hK hP hD hS q0 he rfl 11 (by decide) (hA _ mf_M_39) (fun _ h => h) rfl hin2 rfl (okM 11 (by decide)) hn hfit hl hdg kk
theorem mf_M_58 : Cond.fieldLink RcM 58 (FcM 12).1 (FcM 12).2.1 (FcM 12).2.2.1 ∈ wA := wA_m (tb_3 (List.mem_of_getElem? (i := 147) rfl)) rfl
theorem gf_M_58 (hx : p.tables.exec = Jvm.exec) (hb : c.code = cc) (hA : ∀ w ∈ wA, w.before args s = true) (hown : s.vm.findClass RcM = some m.cls) (hK : va_K D vwA tys s) (hP : va_P D vwA ws H) (q0 : Nat) {fs : List Value} (he : ws[q0]? = some (a, .inr (5, fs))) {v : Value} (hv : fs[12]? = some v) (hdg : decode cc pc = .ok (.getfield 58, 3))
    (kk : W p l e R s m args below meth c H locs cells slots Q (F0 m (pc + 3) ls (v :: rest))) : W p l e R s m args below meth c H locs cells slots Q (F0 m pc ls (.ref a :: rest)) :=
  va_get (D := D) (ci := 5) (C := RcM) (T := FcM) (N := 19) hx hb hA inM hown hK hP q0 he rfl 12 (by decide) (hA _ mf_M_58) (fun _ h => h) hv hdg kk
theorem pf_M_58 (hx : p.tables.exec = Jvm.exec) (hb : c.code = cc) (hA : ∀ w ∈ wA, w.before args s = true) (hown : s.vm.findClass RcM = some m.cls) (hK : va_K D vwA tys s) (hP : va_P D vwA ws H) (hD : va_D A ws) (hS : va_S A H0 H locs) (q0 : Nat) {fs : List Value} (he : ws[q0]? = some (a, .inr (5, fs))) {v : Value} (hn : narrow (tcM 12) v = v) (hfit : fits (tcM 12) v = true) (hl : 12 < fs.length) (hdg : decode cc pc = .ok (.putfield 58, 3))
    (kk : ∀ (H1 : Heap) (locs1 : List Loc), va_P D vwA (ws.set q0 (a, .inr (5, fs.set 12 v))) H1 → va_D A (ws.set q0 (a, .inr (5, fs.set 12 v))) → va_S A H0 H1 locs1 → W p l e R s m args below meth c H1 locs1 cells slots Q (F0 m (pc + 3) ls rest)) : W p l e R s m args below meth c H locs cells slots Q (F0 m pc ls (v :: .ref a :: rest)) :=
  va_put (D := D) (ci := 5) (C := RcM) (T := FcM) (N := 19) hx hb hA inM tcM okM nmM hown hK hP hD hS q0 he rfl 12 (by decide) (hA _ mf_M_58) (fun _ h => h) rfl (okM 12 (by decide)) hn hfit hl hdg kk
theorem mf_M_92 : Cond.fieldLink RcM 92 (FcM 13).1 (FcM 13).2.1 (FcM 13).2.2.1 ∈ wA := wA_m (tb_3 (List.mem_of_getElem? (i := 148) rfl)) rfl
theorem gf_M_92 (hx : p.tables.exec = Jvm.exec) (hb : c.code = cc) (hA : ∀ w ∈ wA, w.before args s = true) (hown : s.vm.findClass RcM = some m.cls) (hK : va_K D vwA tys s) (hP : va_P D vwA ws H) (q0 : Nat) {fs : List Value} (he : ws[q0]? = some (a, .inr (5, fs))) {v : Value} (hv : fs[13]? = some v) (hdg : decode cc pc = .ok (.getfield 92, 3))
    (kk : W p l e R s m args below meth c H locs cells slots Q (F0 m (pc + 3) ls (v :: rest))) : W p l e R s m args below meth c H locs cells slots Q (F0 m pc ls (.ref a :: rest)) :=
  va_get (D := D) (ci := 5) (C := RcM) (T := FcM) (N := 19) hx hb hA inM hown hK hP q0 he rfl 13 (by decide) (hA _ mf_M_92) (fun _ h => h) hv hdg kk
theorem pf_M_92 (hx : p.tables.exec = Jvm.exec) (hb : c.code = cc) (hA : ∀ w ∈ wA, w.before args s = true) (hown : s.vm.findClass RcM = some m.cls) (hK : va_K D vwA tys s) (hP : va_P D vwA ws H) (hD : va_D A ws) (hS : va_S A H0 H locs) (q0 : Nat) {fs : List Value} (he : ws[q0]? = some (a, .inr (5, fs))) {v : Value} (hn : narrow (tcM 13) v = v) (hfit : fits (tcM 13) v = true) (hl : 13 < fs.length) (hdg : decode cc pc = .ok (.putfield 92, 3))
    (kk : ∀ (H1 : Heap) (locs1 : List Loc), va_P D vwA (ws.set q0 (a, .inr (5, fs.set 13 v))) H1 → va_D A (ws.set q0 (a, .inr (5, fs.set 13 v))) → va_S A H0 H1 locs1 → W p l e R s m args below meth c H1 locs1 cells slots Q (F0 m (pc + 3) ls rest)) : W p l e R s m args below meth c H locs cells slots Q (F0 m pc ls (v :: .ref a :: rest)) :=
  va_put (D := D) (ci := 5) (C := RcM) (T := FcM) (N := 19) hx hb hA inM tcM okM nmM hown hK hP hD hS q0 he rfl 13 (by decide) (hA _ mf_M_92) (fun _ h => h) rfl (okM 13 (by decide)) hn hfit hl hdg kk
theorem mf_M_42 : Cond.fieldLink RcM 42 (FcM 14).1 (FcM 14).2.1 (FcM 14).2.2.1 ∈ wA := wA_m (tb_3 (List.mem_of_getElem? (i := 149) rfl)) rfl
theorem gf_M_42 (hx : p.tables.exec = Jvm.exec) (hb : c.code = cc) (hA : ∀ w ∈ wA, w.before args s = true) (hown : s.vm.findClass RcM = some m.cls) (hK : va_K D vwA tys s) (hP : va_P D vwA ws H) (q0 : Nat) {fs : List Value} (he : ws[q0]? = some (a, .inr (5, fs))) {v : Value} (hv : fs[14]? = some v) (hdg : decode cc pc = .ok (.getfield 42, 3))
    (kk : W p l e R s m args below meth c H locs cells slots Q (F0 m (pc + 3) ls (v :: rest))) : W p l e R s m args below meth c H locs cells slots Q (F0 m pc ls (.ref a :: rest)) :=
  va_get (D := D) (ci := 5) (C := RcM) (T := FcM) (N := 19) hx hb hA inM hown hK hP q0 he rfl 14 (by decide) (hA _ mf_M_42) (fun _ h => h) hv hdg kk
theorem pf_M_42 (hx : p.tables.exec = Jvm.exec) (hb : c.code = cc) (hA : ∀ w ∈ wA, w.before args s = true) (hown : s.vm.findClass RcM = some m.cls) (hK : va_K D vwA tys s) (hP : va_P D vwA ws H) (hD : va_D A ws) (hS : va_S A H0 H locs) (q0 : Nat) {fs : List Value} (he : ws[q0]? = some (a, .inr (5, fs))) (hin2 : meth.name = "<init>") {v : Value} (hn : narrow (tcM 14) v = v) (hfit : fits (tcM 14) v = true) (hl : 14 < fs.length) (hdg : decode cc pc = .ok (.putfield 42, 3))
    (kk : ∀ (H1 : Heap) (locs1 : List Loc), va_P D vwA (ws.set q0 (a, .inr (5, fs.set 14 v))) H1 → va_D A (ws.set q0 (a, .inr (5, fs.set 14 v))) → va_S A H0 H1 locs1 → W p l e R s m args below meth c H1 locs1 cells slots Q (F0 m (pc + 3) ls rest)) : W p l e R s m args below meth c H locs cells slots Q (F0 m pc ls (v :: .ref a :: rest)) :=
  va_putF (D := D) (ci := 5) (C := RcM) (T := FcM) (N := 19) hx hb hA inM tcM okM nmM hown hK hP hD hS q0 he rfl 14 (by decide) (hA _ mf_M_42) (fun _ h => h) rfl hin2 rfl (okM 14 (by decide)) hn hfit hl hdg kk
theorem mf_M_46 : Cond.fieldLink RcM 46 (FcM 15).1 (FcM 15).2.1 (FcM 15).2.2.1 ∈ wA := wA_m (tb_3 (List.mem_of_getElem? (i := 150) rfl)) rfl
theorem gf_M_46 (hx : p.tables.exec = Jvm.exec) (hb : c.code = cc) (hA : ∀ w ∈ wA, w.before args s = true) (hown : s.vm.findClass RcM = some m.cls) (hK : va_K D vwA tys s) (hP : va_P D vwA ws H) (q0 : Nat) {fs : List Value} (he : ws[q0]? = some (a, .inr (5, fs))) {v : Value} (hv : fs[15]? = some v) (hdg : decode cc pc = .ok (.getfield 46, 3))
    (kk : W p l e R s m args below meth c H locs cells slots Q (F0 m (pc + 3) ls (v :: rest))) : W p l e R s m args below meth c H locs cells slots Q (F0 m pc ls (.ref a :: rest)) :=
  va_get (D := D) (ci := 5) (C := RcM) (T := FcM) (N := 19) hx hb hA inM hown hK hP q0 he rfl 15 (by decide) (hA _ mf_M_46) (fun _ h => h) hv hdg kk
theorem pf_M_46 (hx : p.tables.exec = Jvm.exec) (hb : c.code = cc) (hA : ∀ w ∈ wA, w.before args s = true) (hown : s.vm.findClass RcM = some m.cls) (hK : va_K D vwA tys s) (hP : va_P D vwA ws H) (hD : va_D A ws) (hS : va_S A H0 H locs) (q0 : Nat) {fs : List Value} (he : ws[q0]? = some (a, .inr (5, fs))) (hin2 : meth.name = "<init>") {v : Value} (hn : narrow (tcM 15) v = v) (hfit : fits (tcM 15) v = true) (hl : 15 < fs.length) (hdg : decode cc pc = .ok (.putfield 46, 3))
    (kk : ∀ (H1 : Heap) (locs1 : List Loc), va_P D vwA (ws.set q0 (a, .inr (5, fs.set 15 v))) H1 → va_D A (ws.set q0 (a, .inr (5, fs.set 15 v))) → va_S A H0 H1 locs1 → W p l e R s m args below meth c H1 locs1 cells slots Q (F0 m (pc + 3) ls rest)) : W p l e R s m args below meth c H locs cells slots Q (F0 m pc ls (v :: .ref a :: rest)) :=
  va_putF (D := D) (ci := 5) (C := RcM) (T := FcM) (N := 19) hx hb hA inM tcM okM nmM hown hK hP hD hS q0 he rfl 15 (by decide) (hA _ mf_M_46) (fun _ h => h) rfl hin2 rfl (okM 15 (by decide)) hn hfit hl hdg kk
theorem mf_M_49 : Cond.fieldLink RcM 49 (FcM 16).1 (FcM 16).2.1 (FcM 16).2.2.1 ∈ wA := wA_m (tb_3 (List.mem_of_getElem? (i := 151) rfl)) rfl
theorem gf_M_49 (hx : p.tables.exec = Jvm.exec) (hb : c.code = cc) (hA : ∀ w ∈ wA, w.before args s = true) (hown : s.vm.findClass RcM = some m.cls) (hK : va_K D vwA tys s) (hP : va_P D vwA ws H) (q0 : Nat) {fs : List Value} (he : ws[q0]? = some (a, .inr (5, fs))) {v : Value} (hv : fs[16]? = some v) (hdg : decode cc pc = .ok (.getfield 49, 3))
    (kk : W p l e R s m args below meth c H locs cells slots Q (F0 m (pc + 3) ls (v :: rest))) : W p l e R s m args below meth c H locs cells slots Q (F0 m pc ls (.ref a :: rest)) :=
  va_get (D := D) (ci := 5) (C := RcM) (T := FcM) (N := 19) hx hb hA inM hown hK hP q0 he rfl 16 (by decide) (hA _ mf_M_49) (fun _ h => h) hv hdg kk
theorem pf_M_49 (hx : p.tables.exec = Jvm.exec) (hb : c.code = cc) (hA : ∀ w ∈ wA, w.before args s = true) (hown : s.vm.findClass RcM = some m.cls) (hK : va_K D vwA tys s) (hP : va_P D vwA ws H) (hD : va_D A ws) (hS : va_S A H0 H locs) (q0 : Nat) {fs : List Value} (he : ws[q0]? = some (a, .inr (5, fs))) (hin2 : meth.name = "<init>") {v : Value} (hn : narrow (tcM 16) v = v) (hfit : fits (tcM 16) v = true) (hl : 16 < fs.length) (hdg : decode cc pc = .ok (.putfield 49, 3))
    (kk : ∀ (H1 : Heap) (locs1 : List Loc), va_P D vwA (ws.set q0 (a, .inr (5, fs.set 16 v))) H1 → va_D A (ws.set q0 (a, .inr (5, fs.set 16 v))) → va_S A H0 H1 locs1 → W p l e R s m args below meth c H1 locs1 cells slots Q (F0 m (pc + 3) ls rest)) : W p l e R s m args below meth c H locs cells slots Q (F0 m pc ls (v :: .ref a :: rest)) :=
  va_putF (D := D) (ci := 5) (C := RcM) (T := FcM) (N := 19) hx hb hA inM tcM okM nmM hown hK hP hD hS q0 he rfl 16 (by decide) (hA _ mf_M_49) (fun _ h => h) rfl hin2 rfl (okM 16 (by decide)) hn hfit hl hdg kk
theorem mf_M_141 : Cond.fieldLink RcM 141 (FcM 17).1 (FcM 17).2.1 (FcM 17).2.2.1 ∈ wA := wA_m (tb_3 (List.mem_of_getElem? (i := 152) rfl)) rfl
theorem gf_M_141 (hx : p.tables.exec = Jvm.exec) (hb : c.code = cc) (hA : ∀ w ∈ wA, w.before args s = true) (hown : s.vm.findClass RcM = some m.cls) (hK : va_K D vwA tys s) (hP : va_P D vwA ws H) (q0 : Nat) {fs : List Value} (he : ws[q0]? = some (a, .inr (5, fs))) {v : Value} (hv : fs[17]? = some v) (hdg : decode cc pc = .ok (.getfield 141, 3))
    (kk : W p l e R s m args below meth c H locs cells slots Q (F0 m (pc + 3) ls (v :: rest))) : W p l e R s m args below meth c H locs cells slots Q (F0 m pc ls (.ref a :: rest)) :=
  va_get (D := D) (ci := 5) (C := RcM) (T := FcM) (N := 19) hx hb hA inM hown hK hP q0 he rfl 17 (by decide) (hA _ mf_M_141) (fun _ h => h) hv hdg kk
theorem pf_M_141 (hx : p.tables.exec = Jvm.exec) (hb : c.code = cc) (hA : ∀ w ∈ wA, w.before args s = true) (hown : s.vm.findClass RcM = some m.cls) (hK : va_K D vwA tys s) (hP : va_P D vwA ws H) (hD : va_D A ws) (hS : va_S A H0 H locs) (q0 : Nat) {fs : List Value} (he : ws[q0]? = some (a, .inr (5, fs))) {v : Value} (hn : narrow (tcM 17) v = v) (hfit : fits (tcM 17) v = true) (hl : 17 < fs.length) (hdg : decode cc pc = .ok (.putfield 141, 3))
    (kk : ∀ (H1 : Heap) (locs1 : List Loc), va_P D vwA (ws.set q0 (a, .inr (5, fs.set 17 v))) H1 → va_D A (ws.set q0 (a, .inr (5, fs.set 17 v))) → va_S A H0 H1 locs1 → W p l e R s m args below meth c H1 locs1 cells slots Q (F0 m (pc + 3) ls rest)) : W p l e R s m args below meth c H locs cells slots Q (F0 m pc ls (v :: .ref a :: rest)) :=
  va_put (D := D) (ci := 5) (C := RcM) (T := FcM) (N := 19) hx hb hA inM tcM okM nmM hown hK hP hD hS q0 he rfl 17 (by decide) (hA _ mf_M_141) (fun _ h => h) rfl (okM 17 (by decide)) hn hfit hl hdg kk
theorem mf_M_52 : Cond.fieldLink RcM 52 (FcM 18).1 (FcM 18).2.1 (FcM 18).2.2.1 ∈ wA := wA_m (tb_3 (List.mem_of_getElem? (i := 153) rfl)) rfl
theorem gf_M_52 (hx : p.tables.exec = Jvm.exec) (hb : c.code = cc) (hA : ∀ w ∈ wA, w.before args s = true) (hown : s.vm.findClass RcM = some m.cls) (hK : va_K D vwA tys s) (hP : va_P D vwA ws H) (q0 : Nat) {fs : List Value} (he : ws[q0]? = some (a, .inr (5, fs))) {v : Value} (hv : fs[18]? = some v) (hdg : decode cc pc = .ok (.getfield 52, 3))
    (kk : W p l e R s m args below meth c H locs cells slots Q (F0 m (pc + 3) ls (v :: rest))) : W p l e R s m args below meth c H locs cells slots Q (F0 m pc ls (.ref a :: rest)) :=
  va_get (D := D) (ci := 5) (C := RcM) (T := FcM) (N := 19) hx hb hA inM hown hK hP q0 he rfl 18 (by decide) (hA _ mf_M_52) (fun _ h => h) hv hdg kk
theorem pf_M_52 (hx : p.tables.exec = Jvm.exec) (hb : c.code = cc) (hA : ∀ w ∈ wA, w.before args s = true) (hown : s.vm.findClass RcM = some m.cls) (hK : va_K D vwA tys s) (hP : va_P D vwA ws H) (hD : va_D A ws) (hS : va_S A H0 H locs) (q0 : Nat) {fs : List Value} (he : ws[q0]? = some (a, .inr (5, fs))) (hin2 : meth.name = "<init>") {v : Value} (hn : narrow (tcM 18) v = v) (hfit : fits (tcM 18) v = true) (hl : 18 < fs.length) (hdg : decode cc pc = .ok (.putfield 52, 3))
    (kk : ∀ (H1 : Heap) (locs1 : List Loc), va_P D vwA (ws.set q0 (a, .inr (5, fs.set 18 v))) H1 → va_D A (ws.set q0 (a, .inr (5, fs.set 18 v))) → va_S A H0 H1 locs1 → W p l e R s m args below meth c H1 locs1 cells slots Q (F0 m (pc + 3) ls rest)) : W p l e R s m args below meth c H locs cells slots Q (F0 m pc ls (v :: .ref a :: rest)) :=
  va_putF (D := D) (ci := 5) (C := RcM) (T := FcM) (N := 19) hx hb hA inM tcM okM nmM hown hK hP hD hS q0 he rfl 18 (by decide) (hA _ mf_M_52) (fun _ h => h) rfl hin2 rfl (okM 18 (by decide)) hn hfit hl hdg kk
end NF
section NC
variable {R : Room} {s : State} {args : Array Value} {rm : Room} {mc ms : Nat}
theorem ml_L_58 : Cond.methodLink RcL 58 yS_init ∈ wA := wA_m (tb_1 (List.mem_of_getElem? (i := 16) rfl)) rfl
theorem kw_L_58 (hA : ∀ w ∈ wA, w.before args s = true) (hrc : rm.cells = mc) (hrs : rm.slots = ms) (hR : rm.frames + 1 ≤ R.frames ∧ 8 + (1 + 11) + rm.locals ≤ R.locals) : CallB R s args RcL 58 yS_init bS_init 1 none (wS_init :: wA) rm mc ms 0 ∧ yS_init.name = "<init>" ∧ (Cond.instanceMethod yS_init).before args s = true :=
  cwI 0 hA (gdC mc_S_init) rfl hrc hrs (hA _ ini_S) (hA _ ml_L_58) (hA _ (wA_m (tb_1 (List.mem_of_getElem? (i := 17) rfl)) rfl)) rfl dm_S_init hR
theorem ml_S_9 : Cond.methodLink RcS 9 yT_init ∈ wA := wA_m (tb_1 (List.mem_of_getElem? (i := 24) rfl)) rfl
theorem kw_S_9 (hA : ∀ w ∈ wA, w.before args s = true) (hrc : rm.cells = mc) (hrs : rm.slots = ms) (hR : rm.frames + 1 ≤ R.frames ∧ 8 + (1 + 11) + rm.locals ≤ R.locals) : CallB R s args RcS 9 yT_init bT_init 1 none (wT_init :: wA) rm mc ms 0 ∧ yT_init.name = "<init>" ∧ (Cond.instanceMethod yT_init).before args s = true :=
  cwI 0 hA (gdC mc_T_init) rfl hrc hrs (hA _ ini_T) (hA _ ml_S_9) (hA _ (wA_m (tb_1 (List.mem_of_getElem? (i := 25) rfl)) rfl)) rfl dm_T_init hR
theorem ml_T_26 : Cond.methodLink RcT 26 yB_init ∈ wA := wA_m (tb_1 (List.mem_of_getElem? (i := 30) rfl)) rfl
theorem kw_T_26 (hA : ∀ w ∈ wA, w.before args s = true) (hrc : rm.cells = mc) (hrs : rm.slots = ms) (hR : rm.frames + 1 ≤ R.frames ∧ 8 + (3 + 11) + rm.locals ≤ R.locals) : CallB R s args RcT 26 yB_init bB_init 3 none (wB_init :: wA) rm mc ms 2 ∧ yB_init.name = "<init>" ∧ (Cond.instanceMethod yB_init).before args s = true :=
  cwI 2 hA (gdC mc_B_init) rfl hrc hrs (hA _ ini_B) (hA _ ml_T_26) (hA _ (wA_m (tb_1 (List.mem_of_getElem? (i := 31) rfl)) rfl)) rfl dm_B_init hR
theorem ml_T_36 : Cond.methodLink RcT 36 yJa_fill ∈ wA := wA_m (tb_1 (List.mem_of_getElem? (i := 46) rfl)) rfl
theorem kw_T_36 (hA : ∀ w ∈ wA, w.before args s = true) (hrc : rm.cells = mc) (hrs : rm.slots = ms) (hR : rm.frames + 1 ≤ R.frames ∧ 8 + (4 + 11) + rm.locals ≤ R.locals) : CallB R s args RcT 36 yJa_fill bJa_fill 4 none (wJa_fill :: wA) rm mc ms 2 ∧ (Cond.static yJa_fill).before args s = true :=
  ⟨callB_of 2 hA (gdC mc_Ja_fill) rfl hrc hrs (hA _ ini_Ja) (hA _ ml_T_36) dm_Ja_fill hR, hA _ (wA_m (tb_1 (List.mem_of_getElem? (i := 47) rfl)) rfl)⟩
theorem ml_S_18 : Cond.methodLink RcS 18 yA_init ∈ wA := wA_m (tb_1 (List.mem_of_getElem? (i := 78) rfl)) rfl
theorem kw_S_18 (hA : ∀ w ∈ wA, w.before args s = true) (hrc : rm.cells = mc) (hrs : rm.slots = ms) (hR : rm.frames + 1 ≤ R.frames ∧ 8 + (1 + 11) + rm.locals ≤ R.locals) : CallB R s args RcS 18 yA_init bA_init 1 none (wA_init :: wA) rm mc ms 0 ∧ yA_init.name = "<init>" ∧ (Cond.instanceMethod yA_init).before args s = true :=
  cwI 0 hA (gdC mc_A_init) rfl hrc hrs (hA _ ini_A) (hA _ ml_S_18) (hA _ (wA_m (tb_1 (List.mem_of_getElem? (i := 79) rfl)) rfl)) rfl dm_A_init hR
theorem ml_S_25 : Cond.methodLink RcS 25 yC_init ∈ wA := wA_m (tb_1 (List.mem_of_getElem? (i := 107) rfl)) rfl
theorem kw_S_25 (hA : ∀ w ∈ wA, w.before args s = true) (hrc : rm.cells = mc) (hrs : rm.slots = ms) (hR : rm.frames + 1 ≤ R.frames ∧ 8 + (3 + 11) + rm.locals ≤ R.locals) : CallB R s args RcS 25 yC_init bC_init 3 none (wC_init :: wA) rm mc ms 2 ∧ yC_init.name = "<init>" ∧ (Cond.instanceMethod yC_init).before args s = true :=
  cwI 2 hA (gdC mc_C_init) rfl hrc hrs (hA _ ini_C) (hA _ ml_S_25) (hA _ (wA_m (tb_1 (List.mem_of_getElem? (i := 108) rfl)) rfl)) rfl dm_C_init hR
theorem ml_C_21 : Cond.methodLink RcC 21 yB_init ∈ wA := wA_m (tb_1 (List.mem_of_getElem? (i := 112) rfl)) rfl
theorem kw_C_21 (hA : ∀ w ∈ wA, w.before args s = true) (hrc : rm.cells = mc) (hrs : rm.slots = ms) (hR : rm.frames + 1 ≤ R.frames ∧ 8 + (3 + 11) + rm.locals ≤ R.locals) : CallB R s args RcC 21 yB_init bB_init 3 none (wB_init :: wA) rm mc ms 2 ∧ yB_init.name = "<init>" ∧ (Cond.instanceMethod yB_init).before args s = true :=
  cwI 2 hA (gdC mc_B_init) rfl hrc hrs (hA _ ini_B) (hA _ ml_C_21) (hA _ (wA_m (tb_1 (List.mem_of_getElem? (i := 31) rfl)) rfl)) rfl dm_B_init hR
theorem ml_L_62 : Cond.methodLink RcL 62 yS_name ∈ wA := wA_m (tb_1 (List.mem_of_getElem? (i := 166) rfl)) rfl
theorem kw_L_62 (hA : ∀ w ∈ wA, w.before args s = true) (hrc : rm.cells = mc) (hrs : rm.slots = ms) (hR : rm.frames + 1 ≤ R.frames ∧ 8 + (1 + 11) + rm.locals ≤ R.locals) : CallW R s args RcL RcS 62 yS_name bS_name 1 (some .int) (wS_name :: wA) rm mc ms 0 :=
  cwV 0 hA (gdV ml_L_62 (wA_m (tb_1 (List.mem_of_getElem? (i := 167) rfl)) rfl) (wA_m (tb_1 (List.mem_of_getElem? (i := 168) rfl)) rfl) ini_S mc_S_name) rfl hrc hrs ⟨rfl, dm_S_name⟩ hR
theorem ml_S_40 : Cond.methodLink RcS 40 yT_make ∈ wA := wA_m (tb_1 (List.mem_of_getElem? (i := 170) rfl)) rfl
theorem kw_S_40 (hA : ∀ w ∈ wA, w.before args s = true) (hrc : rm.cells = mc) (hrs : rm.slots = ms) (hR : rm.frames + 1 ≤ R.frames ∧ 8 + (5 + 11) + rm.locals ≤ R.locals) : CallW R s args RcS RcT 40 yT_make bT_make 5 (some .int) (wT_make :: wA) rm mc ms 3 :=
  cwV 3 hA (gdV ml_S_40 (wA_m (tb_1 (List.mem_of_getElem? (i := 171) rfl)) rfl) (wA_m (tb_1 (List.mem_of_getElem? (i := 172) rfl)) rfl) ini_T mc_T_make) rfl hrc hrs ⟨rfl, dm_T_make⟩ hR
theorem ml_T_53 : Cond.methodLink RcT 53 yB_put ∈ wA := wA_m (tb_1 (List.mem_of_getElem? (i := 174) rfl)) rfl
theorem kw_T_53 (hA : ∀ w ∈ wA, w.before args s = true) (hrc : rm.cells = mc) (hrs : rm.slots = ms) (hR : rm.frames + 1 ≤ R.frames ∧ 8 + (6 + 11) + rm.locals ≤ R.locals) : CallW R s args RcT RcB 53 yB_put bB_put 6 (some .boolean) (wB_put :: wA) rm mc ms 2 :=
  cwV 2 hA (gdV ml_T_53 (wA_m (tb_1 (List.mem_of_getElem? (i := 175) rfl)) rfl) (wA_m (tb_1 (List.mem_of_getElem? (i := 176) rfl)) rfl) ini_B mc_B_put) rfl hrc hrs ⟨rfl, dm_B_put⟩ hR
theorem ml_L_92 : Cond.methodLink RcL 92 yS_retract ∈ wA := wA_m (tb_1 (List.mem_of_getElem? (i := 178) rfl)) rfl
theorem kw_L_92 (hA : ∀ w ∈ wA, w.before args s = true) (hrc : rm.cells = mc) (hrs : rm.slots = ms) (hR : rm.frames + 1 ≤ R.frames ∧ 8 + (2 + 11) + rm.locals ≤ R.locals) : CallW R s args RcL RcS 92 yS_retract bS_retract 2 (some .boolean) (wS_retract :: wA) rm mc ms 1 :=
  cwV 1 hA (gdV ml_L_92 (wA_m (tb_1 (List.mem_of_getElem? (i := 179) rfl)) rfl) (wA_m (tb_1 (List.mem_of_getElem? (i := 180) rfl)) rfl) ini_S mc_S_retract) rfl hrc hrs ⟨rfl, dm_S_retract⟩ hR
theorem ml_S_62 : Cond.methodLink RcS 62 yA_isInForce ∈ wA := wA_m (tb_1 (List.mem_of_getElem? (i := 182) rfl)) rfl
theorem kw_S_62 (hA : ∀ w ∈ wA, w.before args s = true) (hrc : rm.cells = mc) (hrs : rm.slots = ms) (hR : rm.frames + 1 ≤ R.frames ∧ 8 + (2 + 11) + rm.locals ≤ R.locals) : CallW R s args RcS RcA 62 yA_isInForce bA_isInForce 2 (some .boolean) (wA_isInForce :: wA) rm mc ms 1 :=
  cwV 1 hA (gdV ml_S_62 (wA_m (tb_1 (List.mem_of_getElem? (i := 183) rfl)) rfl) (wA_m (tb_1 (List.mem_of_getElem? (i := 184) rfl)) rfl) ini_A mc_A_isInForce) rfl hrc hrs ⟨rfl, dm_A_isInForce⟩ hR
theorem ml_S_66 : Cond.methodLink RcS 66 yA_takeBack ∈ wA := wA_m (tb_1 (List.mem_of_getElem? (i := 186) rfl)) rfl
theorem kw_S_66 (hA : ∀ w ∈ wA, w.before args s = true) (hrc : rm.cells = mc) (hrs : rm.slots = ms) (hR : rm.frames + 1 ≤ R.frames ∧ 8 + (2 + 11) + rm.locals ≤ R.locals) : CallW R s args RcS RcA 66 yA_takeBack bA_takeBack 2 none (wA_takeBack :: wA) rm mc ms 1 :=
  cwV 1 hA (gdV ml_S_66 (wA_m (tb_1 (List.mem_of_getElem? (i := 187) rfl)) rfl) (wA_m (tb_1 (List.mem_of_getElem? (i := 188) rfl)) rfl) ini_A mc_A_takeBack) rfl hrc hrs ⟨rfl, dm_A_takeBack⟩ hR
theorem ml_S_69 : Cond.methodLink RcS 69 yC_spoil ∈ wA := wA_m (tb_1 (List.mem_of_getElem? (i := 190) rfl)) rfl
theorem kw_S_69 (hA : ∀ w ∈ wA, w.before args s = true) (hrc : rm.cells = mc) (hrs : rm.slots = ms) (hR : rm.frames + 1 ≤ R.frames ∧ 8 + (1 + 11) + rm.locals ≤ R.locals) : CallW R s args RcS RcC 69 yC_spoil bC_spoil 1 none (wC_spoil :: wA) rm mc ms 0 :=
  cwV 0 hA (gdV ml_S_69 (wA_m (tb_1 (List.mem_of_getElem? (i := 191) rfl)) rfl) (wA_m (tb_1 (List.mem_of_getElem? (i := 192) rfl)) rfl) ini_C mc_C_spoil) rfl hrc hrs ⟨rfl, dm_C_spoil⟩ hR
theorem ml_L_119 : Cond.methodLink RcL 119 yS_reason ∈ wA := wA_m (tb_1 (List.mem_of_getElem? (i := 194) rfl)) rfl
theorem kw_L_119 (hA : ∀ w ∈ wA, w.before args s = true) (hrc : rm.cells = mc) (hrs : rm.slots = ms) (hR : rm.frames + 1 ≤ R.frames ∧ 8 + (2 + 11) + rm.locals ≤ R.locals) : CallW R s args RcL RcS 119 yS_reason bS_reason 2 (some .int) (wS_reason :: wA) rm mc ms 1 :=
  cwV 1 hA (gdV ml_L_119 (wA_m (tb_1 (List.mem_of_getElem? (i := 195) rfl)) rfl) (wA_m (tb_1 (List.mem_of_getElem? (i := 196) rfl)) rfl) ini_S mc_S_reason) rfl hrc hrs ⟨rfl, dm_S_reason⟩ hR
theorem ml_L_126 : Cond.methodLink RcL 126 yS_count ∈ wA := wA_m (tb_1 (List.mem_of_getElem? (i := 198) rfl)) rfl
theorem kw_L_126 (hA : ∀ w ∈ wA, w.before args s = true) (hrc : rm.cells = mc) (hrs : rm.slots = ms) (hR : rm.frames + 1 ≤ R.frames ∧ 8 + (2 + 11) + rm.locals ≤ R.locals) : CallW R s args RcL RcS 126 yS_count bS_count 2 (some .int) (wS_count :: wA) rm mc ms 1 :=
  cwV 1 hA (gdV ml_L_126 (wA_m (tb_1 (List.mem_of_getElem? (i := 199) rfl)) rfl) (wA_m (tb_1 (List.mem_of_getElem? (i := 200) rfl)) rfl) ini_S mc_S_count) rfl hrc hrs ⟨rfl, dm_S_count⟩ hR
theorem ml_S_112 : Cond.methodLink RcS 112 yC_placeAll ∈ wA := wA_m (tb_1 (List.mem_of_getElem? (i := 202) rfl)) rfl
theorem kw_S_112 (hA : ∀ w ∈ wA, w.before args s = true) (hrc : rm.cells = mc) (hrs : rm.slots = ms) (hR : rm.frames + 1 ≤ R.frames ∧ 8 + (2 + 11) + rm.locals ≤ R.locals) : CallW R s args RcS RcC 112 yC_placeAll bC_placeAll 2 none (wC_placeAll :: wA) rm mc ms 0 :=
  cwV 0 hA (gdV ml_S_112 (wA_m (tb_1 (List.mem_of_getElem? (i := 203) rfl)) rfl) (wA_m (tb_1 (List.mem_of_getElem? (i := 204) rfl)) rfl) ini_C mc_C_placeAll) rfl hrc hrs ⟨rfl, dm_C_placeAll⟩ hR
theorem ml_C_72 : Cond.methodLink RcC 72 yC_catchUp ∈ wA := wA_m (tb_1 (List.mem_of_getElem? (i := 206) rfl)) rfl
theorem kw_C_72 (hA : ∀ w ∈ wA, w.before args s = true) (hrc : rm.cells = mc) (hrs : rm.slots = ms) (hR : rm.frames + 1 ≤ R.frames ∧ 8 + (2 + 11) + rm.locals ≤ R.locals) : CallW R s args RcC RcC 72 yC_catchUp bC_catchUp 2 none (wC_catchUp :: wA) rm mc ms 0 :=
  cwV 0 hA (gdV ml_C_72 (wA_m (tb_1 (List.mem_of_getElem? (i := 208) rfl)) rfl) (wA_m (tb_p1 (List.mem_of_getElem? (i := 0) rfl)) rfl) ini_C mc_C_catchUp) rfl hrc hrs ⟨rfl, dm_C_catchUp⟩ hR
theorem ml_C_145 : Cond.methodLink RcC 145 yC_forget ∈ wA := wA_m (tb_1 (List.mem_of_getElem? (i := 210) rfl)) rfl
theorem kw_C_145 (hA : ∀ w ∈ wA, w.before args s = true) (hrc : rm.cells = mc) (hrs : rm.slots = ms) (hR : rm.frames + 1 ≤ R.frames ∧ 8 + (2 + 11) + rm.locals ≤ R.locals) : CallW R s args RcC RcC 145 yC_forget bC_forget 2 none (wC_forget :: wA) rm mc ms 0 :=
  cwV 0 hA (gdV ml_C_145 (wA_m (tb_1 (List.mem_of_getElem? (i := 211) rfl)) rfl) (wA_m (tb_1 (List.mem_of_getElem? (i := 212) rfl)) rfl) ini_C mc_C_forget) rfl hrc hrs ⟨rfl, dm_C_forget⟩ hR
theorem ml_C_82 : Cond.methodLink RcC 82 yT_size ∈ wA := wA_m (tb_1 (List.mem_of_getElem? (i := 214) rfl)) rfl
theorem kw_C_82 (hA : ∀ w ∈ wA, w.before args s = true) (hrc : rm.cells = mc) (hrs : rm.slots = ms) (hR : rm.frames + 1 ≤ R.frames ∧ 8 + (1 + 11) + rm.locals ≤ R.locals) : CallW R s args RcC RcT 82 yT_size bT_size 1 (some .int) (wT_size :: wA) rm mc ms 0 :=
  cwV 0 hA (gdV ml_C_82 (wA_m (tb_1 (List.mem_of_getElem? (i := 215) rfl)) rfl) (wA_m (tb_1 (List.mem_of_getElem? (i := 216) rfl)) rfl) ini_T mc_T_size) rfl hrc hrs ⟨rfl, dm_T_size⟩ hR
theorem ml_C_91 : Cond.methodLink RcC 91 yB_clear ∈ wA := wA_m (tb_1 (List.mem_of_getElem? (i := 218) rfl)) rfl
theorem kw_C_91 (hA : ∀ w ∈ wA, w.before args s = true) (hrc : rm.cells = mc) (hrs : rm.slots = ms) (hR : rm.frames + 1 ≤ R.frames ∧ 8 + (4 + 11) + rm.locals ≤ R.locals) : CallW R s args RcC RcB 91 yB_clear bB_clear 4 none (wB_clear :: wA) rm mc ms 1 :=
  cwV 1 hA (gdV ml_C_91 (wA_m (tb_1 (List.mem_of_getElem? (i := 219) rfl)) rfl) (wA_m (tb_1 (List.mem_of_getElem? (i := 220) rfl)) rfl) ini_B mc_B_clear) rfl hrc hrs ⟨rfl, dm_B_clear⟩ hR
theorem ml_B_28 : Cond.methodLink RcB 28 yJm_min ∈ wA := wA_m (tb_1 (List.mem_of_getElem? (i := 222) rfl)) rfl
theorem kw_B_28 (hA : ∀ w ∈ wA, w.before args s = true) (hrc : rm.cells = mc) (hrs : rm.slots = ms) (hR : rm.frames + 1 ≤ R.frames ∧ 8 + (2 + 11) + rm.locals ≤ R.locals) : CallB R s args RcB 28 yJm_min bJm_min 2 (some .int) (wJm_min :: wA) rm mc ms 2 ∧ (Cond.static yJm_min).before args s = true :=
  ⟨callB_of 2 hA (gdC mc_Jm_min) rfl hrc hrs (hA _ ini_Jm) (hA _ ml_B_28) dm_Jm_min hR, hA _ (wA_m (tb_1 (List.mem_of_getElem? (i := 223) rfl)) rfl)⟩
theorem ml_C_148 : Cond.methodLink RcC 148 yT_kind ∈ wA := wA_m (tb_1 (List.mem_of_getElem? (i := 225) rfl)) rfl
theorem kw_C_148 (hA : ∀ w ∈ wA, w.before args s = true) (hrc : rm.cells = mc) (hrs : rm.slots = ms) (hR : rm.frames + 1 ≤ R.frames ∧ 8 + (2 + 11) + rm.locals ≤ R.locals) : CallW R s args RcC RcT 148 yT_kind bT_kind 2 (some .int) (wT_kind :: wA) rm mc ms 1 :=
  cwV 1 hA (gdV ml_C_148 (wA_m (tb_1 (List.mem_of_getElem? (i := 226) rfl)) rfl) (wA_m (tb_1 (List.mem_of_getElem? (i := 227) rfl)) rfl) ini_T mc_T_kind) rfl hrc hrs ⟨rfl, dm_T_kind⟩ hR
theorem ml_C_149 : Cond.methodLink RcC 149 yC_admitBoth ∈ wA := wA_m (tb_1 (List.mem_of_getElem? (i := 229) rfl)) rfl
theorem kw_C_149 (hA : ∀ w ∈ wA, w.before args s = true) (hrc : rm.cells = mc) (hrs : rm.slots = ms) (hR : rm.frames + 1 ≤ R.frames ∧ 8 + (4 + 11) + rm.locals ≤ R.locals) : CallW R s args RcC RcC 149 yC_admitBoth bC_admitBoth 4 none (wC_admitBoth :: wA) rm mc ms 1 :=
  cwV 1 hA (gdV ml_C_149 (wA_m (tb_1 (List.mem_of_getElem? (i := 231) rfl)) rfl) (wA_m (tb_p1 (List.mem_of_getElem? (i := 1) rfl)) rfl) ini_C mc_C_admitBoth) rfl hrc hrs ⟨rfl, dm_C_admitBoth⟩ hR
theorem ml_C_164 : Cond.methodLink RcC 164 yT_left ∈ wA := wA_m (tb_1 (List.mem_of_getElem? (i := 233) rfl)) rfl
theorem kw_C_164 (hA : ∀ w ∈ wA, w.before args s = true) (hrc : rm.cells = mc) (hrs : rm.slots = ms) (hR : rm.frames + 1 ≤ R.frames ∧ 8 + (2 + 11) + rm.locals ≤ R.locals) : CallW R s args RcC RcT 164 yT_left bT_left 2 (some .int) (wT_left :: wA) rm mc ms 1 :=
  cwV 1 hA (gdV ml_C_164 (wA_m (tb_1 (List.mem_of_getElem? (i := 234) rfl)) rfl) (wA_m (tb_1 (List.mem_of_getElem? (i := 235) rfl)) rfl) ini_T mc_T_left) rfl hrc hrs ⟨rfl, dm_T_left⟩ hR
theorem ml_C_57 : Cond.methodLink RcC 57 yC_row ∈ wA := wA_m (tb_1 (List.mem_of_getElem? (i := 237) rfl)) rfl
theorem kw_C_57 (hA : ∀ w ∈ wA, w.before args s = true) (hrc : rm.cells = mc) (hrs : rm.slots = ms) (hR : rm.frames + 1 ≤ R.frames ∧ 8 + (2 + 11) + rm.locals ≤ R.locals) : CallB R s args RcC 57 yC_row bC_row 2 (some .int) (wC_row :: wA) rm mc ms 2 ∧ (Cond.static yC_row).before args s = true :=
  cwS 2 hA (gdS ml_C_57 (wA_m (tb_1 (List.mem_of_getElem? (i := 238) rfl)) rfl) ini_C mc_C_row) rfl hrc hrs ⟨rfl, dm_C_row⟩ hR
theorem ml_C_69 : Cond.methodLink RcC 69 yB_next ∈ wA := wA_m (tb_2 (List.mem_of_getElem? (i := 0) rfl)) rfl
theorem kw_C_69 (hA : ∀ w ∈ wA, w.before args s = true) (hrc : rm.cells = mc) (hrs : rm.slots = ms) (hR : rm.frames + 1 ≤ R.frames ∧ 8 + (6 + 11) + rm.locals ≤ R.locals) : CallW R s args RcC RcB 69 yB_next bB_next 6 (some .int) (wB_next :: wA) rm mc ms 2 :=
  cwV 2 hA (gdV ml_C_69 (wA_m (tb_2 (List.mem_of_getElem? (i := 1) rfl)) rfl) (wA_m (tb_2 (List.mem_of_getElem? (i := 2) rfl)) rfl) ini_B mc_B_next) rfl hrc hrs ⟨rfl, dm_B_next⟩ hR
theorem ml_B_22 : Cond.methodLink RcB 22 yJl_bitCount ∈ wA := wA_m (tb_2 (List.mem_of_getElem? (i := 4) rfl)) rfl
theorem kw_B_22 (hA : ∀ w ∈ wA, w.before args s = true) (hrc : rm.cells = mc) (hrs : rm.slots = ms) (hR : rm.frames + 1 ≤ R.frames ∧ 8 + (2 + 11) + rm.locals ≤ R.locals) : CallB R s args RcB 22 yJl_bitCount bJl_bitCount 2 (some .int) (wJl_bitCount :: wA) rm mc ms 1 ∧ (Cond.static yJl_bitCount).before args s = true :=
  ⟨callB_of 1 hA (gdC mc_Jl_bitCount) rfl hrc hrs (hA _ ini_Jl) (hA _ ml_B_22) dm_Jl_bitCount hR, hA _ (wA_m (tb_2 (List.mem_of_getElem? (i := 5) rfl)) rfl)⟩
theorem ml_C_167 : Cond.methodLink RcC 167 yT_right ∈ wA := wA_m (tb_2 (List.mem_of_getElem? (i := 10) rfl)) rfl
theorem kw_C_167 (hA : ∀ w ∈ wA, w.before args s = true) (hrc : rm.cells = mc) (hrs : rm.slots = ms) (hR : rm.frames + 1 ≤ R.frames ∧ 8 + (2 + 11) + rm.locals ≤ R.locals) : CallW R s args RcC RcT 167 yT_right bT_right 2 (some .int) (wT_right :: wA) rm mc ms 1 :=
  cwV 1 hA (gdV ml_C_167 (wA_m (tb_2 (List.mem_of_getElem? (i := 11) rfl)) rfl) (wA_m (tb_2 (List.mem_of_getElem? (i := 12) rfl)) rfl) ini_T mc_T_right) rfl hrc hrs ⟨rfl, dm_T_right⟩ hR
theorem ml_C_61 : Cond.methodLink RcC 61 yB_holds ∈ wA := wA_m (tb_2 (List.mem_of_getElem? (i := 14) rfl)) rfl
theorem kw_C_61 (hA : ∀ w ∈ wA, w.before args s = true) (hrc : rm.cells = mc) (hrs : rm.slots = ms) (hR : rm.frames + 1 ≤ R.frames ∧ 8 + (3 + 11) + rm.locals ≤ R.locals) : CallW R s args RcC RcB 61 yB_holds bB_holds 3 (some .boolean) (wB_holds :: wA) rm mc ms 2 :=
  cwV 2 hA (gdV ml_C_61 (wA_m (tb_2 (List.mem_of_getElem? (i := 15) rfl)) rfl) (wA_m (tb_2 (List.mem_of_getElem? (i := 16) rfl)) rfl) ini_B mc_B_holds) rfl hrc hrs ⟨rfl, dm_B_holds⟩ hR
theorem ml_C_94 : Cond.methodLink RcC 94 yC_add ∈ wA := wA_m (tb_2 (List.mem_of_getElem? (i := 18) rfl)) rfl
theorem kw_C_94 (hA : ∀ w ∈ wA, w.before args s = true) (hrc : rm.cells = mc) (hrs : rm.slots = ms) (hR : rm.frames + 1 ≤ R.frames ∧ 8 + (5 + 11) + rm.locals ≤ R.locals) : CallW R s args RcC RcC 94 yC_add bC_add 5 none (wC_add :: wA) rm mc ms 3 :=
  cwV 3 hA (gdV ml_C_94 (wA_m (tb_2 (List.mem_of_getElem? (i := 20) rfl)) rfl) (wA_m (tb_p1 (List.mem_of_getElem? (i := 2) rfl)) rfl) ini_C mc_C_add) rfl hrc hrs ⟨rfl, dm_C_add⟩ hR
theorem ml_C_110 : Cond.methodLink RcC 110 yB_put ∈ wA := wA_m (tb_2 (List.mem_of_getElem? (i := 22) rfl)) rfl
theorem kw_C_110 (hA : ∀ w ∈ wA, w.before args s = true) (hrc : rm.cells = mc) (hrs : rm.slots = ms) (hR : rm.frames + 1 ≤ R.frames ∧ 8 + (6 + 11) + rm.locals ≤ R.locals) : CallW R s args RcC RcB 110 yB_put bB_put 6 (some .boolean) (wB_put :: wA) rm mc ms 2 :=
  cwV 2 hA (gdV ml_C_110 (wA_m (tb_1 (List.mem_of_getElem? (i := 175) rfl)) rfl) (wA_m (tb_1 (List.mem_of_getElem? (i := 176) rfl)) rfl) ini_B mc_B_put) rfl hrc hrs ⟨rfl, dm_B_put⟩ hR
theorem ml_C_152 : Cond.methodLink RcC 152 yC_admitSome ∈ wA := wA_m (tb_2 (List.mem_of_getElem? (i := 23) rfl)) rfl
theorem kw_C_152 (hA : ∀ w ∈ wA, w.before args s = true) (hrc : rm.cells = mc) (hrs : rm.slots = ms) (hR : rm.frames + 1 ≤ R.frames ∧ 8 + (4 + 11) + rm.locals ≤ R.locals) : CallW R s args RcC RcC 152 yC_admitSome bC_admitSome 4 none (wC_admitSome :: wA) rm mc ms 1 :=
  cwV 1 hA (gdV ml_C_152 (wA_m (tb_2 (List.mem_of_getElem? (i := 25) rfl)) rfl) (wA_m (tb_p1 (List.mem_of_getElem? (i := 3) rfl)) rfl) ini_C mc_C_admitSome) rfl hrc hrs ⟨rfl, dm_C_admitSome⟩ hR
theorem ml_C_113 : Cond.methodLink RcC 113 yC_addFromAll ∈ wA := wA_m (tb_2 (List.mem_of_getElem? (i := 27) rfl)) rfl
theorem kw_C_113 (hA : ∀ w ∈ wA, w.before args s = true) (hrc : rm.cells = mc) (hrs : rm.slots = ms) (hR : rm.frames + 1 ≤ R.frames ∧ 8 + (6 + 11) + rm.locals ≤ R.locals) : CallW R s args RcC RcC 113 yC_addFromAll bC_addFromAll 6 none (wC_addFromAll :: wA) rm mc ms 3 :=
  cwV 3 hA (gdV ml_C_113 (wA_m (tb_2 (List.mem_of_getElem? (i := 29) rfl)) rfl) (wA_m (tb_p1 (List.mem_of_getElem? (i := 4) rfl)) rfl) ini_C mc_C_addFromAll) rfl hrc hrs ⟨rfl, dm_C_addFromAll⟩ hR
theorem ml_C_182 : Cond.methodLink RcC 182 yB_nextBeyond ∈ wA := wA_m (tb_2 (List.mem_of_getElem? (i := 31) rfl)) rfl
theorem kw_C_182 (hA : ∀ w ∈ wA, w.before args s = true) (hrc : rm.cells = mc) (hrs : rm.slots = ms) (hR : rm.frames + 1 ≤ R.frames ∧ 8 + (9 + 11) + rm.locals ≤ R.locals) : CallW R s args RcC RcB 182 yB_nextBeyond bB_nextBeyond 9 (some .int) (wB_nextBeyond :: wA) rm mc ms 4 :=
  cwV 4 hA (gdV ml_C_182 (wA_m (tb_2 (List.mem_of_getElem? (i := 32) rfl)) rfl) (wA_m (tb_2 (List.mem_of_getElem? (i := 33) rfl)) rfl) ini_B mc_B_nextBeyond) rfl hrc hrs ⟨rfl, dm_B_nextBeyond⟩ hR
theorem ml_C_155 : Cond.methodLink RcC 155 yA_told ∈ wA := wA_m (tb_2 (List.mem_of_getElem? (i := 36) rfl)) rfl
theorem kw_C_155 (hA : ∀ w ∈ wA, w.before args s = true) (hrc : rm.cells = mc) (hrs : rm.slots = ms) (hR : rm.frames + 1 ≤ R.frames ∧ 8 + (1 + 11) + rm.locals ≤ R.locals) : CallW R s args RcC RcA 155 yA_told bA_told 1 (some .int) (wA_told :: wA) rm mc ms 0 :=
  cwV 0 hA (gdV ml_C_155 (wA_m (tb_2 (List.mem_of_getElem? (i := 37) rfl)) rfl) (wA_m (tb_2 (List.mem_of_getElem? (i := 38) rfl)) rfl) ini_A mc_A_told) rfl hrc hrs ⟨rfl, dm_A_told⟩ hR
theorem ml_C_158 : Cond.methodLink RcC 158 yA_isInForce ∈ wA := wA_m (tb_2 (List.mem_of_getElem? (i := 40) rfl)) rfl
theorem kw_C_158 (hA : ∀ w ∈ wA, w.before args s = true) (hrc : rm.cells = mc) (hrs : rm.slots = ms) (hR : rm.frames + 1 ≤ R.frames ∧ 8 + (2 + 11) + rm.locals ≤ R.locals) : CallW R s args RcC RcA 158 yA_isInForce bA_isInForce 2 (some .boolean) (wA_isInForce :: wA) rm mc ms 1 :=
  cwV 1 hA (gdV ml_C_158 (wA_m (tb_1 (List.mem_of_getElem? (i := 183) rfl)) rfl) (wA_m (tb_1 (List.mem_of_getElem? (i := 184) rfl)) rfl) ini_A mc_A_isInForce) rfl hrc hrs ⟨rfl, dm_A_isInForce⟩ hR
theorem ml_C_161 : Cond.methodLink RcC 161 yC_hear ∈ wA := wA_m (tb_2 (List.mem_of_getElem? (i := 41) rfl)) rfl
theorem kw_C_161 (hA : ∀ w ∈ wA, w.before args s = true) (hrc : rm.cells = mc) (hrs : rm.slots = ms) (hR : rm.frames + 1 ≤ R.frames ∧ 8 + (7 + 11) + rm.locals ≤ R.locals) : CallW R s args RcC RcC 161 yC_hear bC_hear 7 none (wC_hear :: wA) rm mc ms 1 :=
  cwV 1 hA (gdV ml_C_161 (wA_m (tb_2 (List.mem_of_getElem? (i := 42) rfl)) rfl) (wA_m (tb_2 (List.mem_of_getElem? (i := 43) rfl)) rfl) ini_C mc_C_hear) rfl hrc hrs ⟨rfl, dm_C_hear⟩ hR
theorem ml_C_98 : Cond.methodLink RcC 98 yA_first ∈ wA := wA_m (tb_2 (List.mem_of_getElem? (i := 45) rfl)) rfl
theorem kw_C_98 (hA : ∀ w ∈ wA, w.before args s = true) (hrc : rm.cells = mc) (hrs : rm.slots = ms) (hR : rm.frames + 1 ≤ R.frames ∧ 8 + (2 + 11) + rm.locals ≤ R.locals) : CallW R s args RcC RcA 98 yA_first bA_first 2 (some .int) (wA_first :: wA) rm mc ms 1 :=
  cwV 1 hA (gdV ml_C_98 (wA_m (tb_2 (List.mem_of_getElem? (i := 46) rfl)) rfl) (wA_m (tb_2 (List.mem_of_getElem? (i := 47) rfl)) rfl) ini_A mc_A_first) rfl hrc hrs ⟨rfl, dm_A_first⟩ hR
theorem ml_C_104 : Cond.methodLink RcC 104 yA_second ∈ wA := wA_m (tb_2 (List.mem_of_getElem? (i := 49) rfl)) rfl
theorem kw_C_104 (hA : ∀ w ∈ wA, w.before args s = true) (hrc : rm.cells = mc) (hrs : rm.slots = ms) (hR : rm.frames + 1 ≤ R.frames ∧ 8 + (2 + 11) + rm.locals ≤ R.locals) : CallW R s args RcC RcA 104 yA_second bA_second 2 (some .int) (wA_second :: wA) rm mc ms 1 :=
  cwV 1 hA (gdV ml_C_104 (wA_m (tb_2 (List.mem_of_getElem? (i := 50) rfl)) rfl) (wA_m (tb_2 (List.mem_of_getElem? (i := 51) rfl)) rfl) ini_A mc_A_second) rfl hrc hrs ⟨rfl, dm_A_second⟩ hR
theorem ml_C_107 : Cond.methodLink RcC 107 yA_kind ∈ wA := wA_m (tb_2 (List.mem_of_getElem? (i := 53) rfl)) rfl
theorem kw_C_107 (hA : ∀ w ∈ wA, w.before args s = true) (hrc : rm.cells = mc) (hrs : rm.slots = ms) (hR : rm.frames + 1 ≤ R.frames ∧ 8 + (2 + 11) + rm.locals ≤ R.locals) : CallW R s args RcC RcA 107 yA_kind bA_kind 2 (some .int) (wA_kind :: wA) rm mc ms 1 :=
  cwV 1 hA (gdV ml_C_107 (wA_m (tb_2 (List.mem_of_getElem? (i := 54) rfl)) rfl) (wA_m (tb_2 (List.mem_of_getElem? (i := 55) rfl)) rfl) ini_A mc_A_kind) rfl hrc hrs ⟨rfl, dm_A_kind⟩ hR
theorem ml_C_116 : Cond.methodLink RcC 116 yA_third ∈ wA := wA_m (tb_2 (List.mem_of_getElem? (i := 57) rfl)) rfl
theorem kw_C_116 (hA : ∀ w ∈ wA, w.before args s = true) (hrc : rm.cells = mc) (hrs : rm.slots = ms) (hR : rm.frames + 1 ≤ R.frames ∧ 8 + (2 + 11) + rm.locals ≤ R.locals) : CallW R s args RcC RcA 116 yA_third bA_third 2 (some .int) (wA_third :: wA) rm mc ms 1 :=
  cwV 1 hA (gdV ml_C_116 (wA_m (tb_2 (List.mem_of_getElem? (i := 58) rfl)) rfl) (wA_m (tb_2 (List.mem_of_getElem? (i := 59) rfl)) rfl) ini_A mc_A_third) rfl hrc hrs ⟨rfl, dm_A_third⟩ hR
theorem ml_C_75 : Cond.methodLink RcC 75 yC_begin ∈ wA := wA_m (tb_2 (List.mem_of_getElem? (i := 61) rfl)) rfl
theorem kw_C_75 (hA : ∀ w ∈ wA, w.before args s = true) (hrc : rm.cells = mc) (hrs : rm.slots = ms) (hR : rm.frames + 1 ≤ R.frames ∧ 8 + (2 + 11) + rm.locals ≤ R.locals) : CallW R s args RcC RcC 75 yC_begin bC_begin 2 none (wC_begin :: wA) rm mc ms 1 :=
  cwV 1 hA (gdV ml_C_75 (wA_m (tb_2 (List.mem_of_getElem? (i := 62) rfl)) rfl) (wA_m (tb_2 (List.mem_of_getElem? (i := 63) rfl)) rfl) ini_C mc_C_begin) rfl hrc hrs ⟨rfl, dm_C_begin⟩ hR
theorem ml_C_79 : Cond.methodLink RcC 79 yC_saturate ∈ wA := wA_m (tb_2 (List.mem_of_getElem? (i := 65) rfl)) rfl
theorem kw_C_79 (hA : ∀ w ∈ wA, w.before args s = true) (hrc : rm.cells = mc) (hrs : rm.slots = ms) (hR : rm.frames + 1 ≤ R.frames ∧ 8 + (6 + 11) + rm.locals ≤ R.locals) : CallW R s args RcC RcC 79 yC_saturate bC_saturate 6 none (wC_saturate :: wA) rm mc ms 0 :=
  cwV 0 hA (gdV ml_C_79 (wA_m (tb_2 (List.mem_of_getElem? (i := 66) rfl)) rfl) (wA_m (tb_2 (List.mem_of_getElem? (i := 67) rfl)) rfl) ini_C mc_C_saturate) rfl hrc hrs ⟨rfl, dm_C_saturate⟩ hR
theorem ml_C_120 : Cond.methodLink RcC 120 yB_drop ∈ wA := wA_m (tb_2 (List.mem_of_getElem? (i := 70) rfl)) rfl
theorem kw_C_120 (hA : ∀ w ∈ wA, w.before args s = true) (hrc : rm.cells = mc) (hrs : rm.slots = ms) (hR : rm.frames + 1 ≤ R.frames ∧ 8 + (3 + 11) + rm.locals ≤ R.locals) : CallW R s args RcC RcB 120 yB_drop bB_drop 3 none (wB_drop :: wA) rm mc ms 2 :=
  cwV 2 hA (gdV ml_C_120 (wA_m (tb_2 (List.mem_of_getElem? (i := 71) rfl)) rfl) (wA_m (tb_2 (List.mem_of_getElem? (i := 72) rfl)) rfl) ini_B mc_B_drop) rfl hrc hrs ⟨rfl, dm_B_drop⟩ hR
theorem ml_C_123 : Cond.methodLink RcC 123 yC_emptySources ∈ wA := wA_m (tb_2 (List.mem_of_getElem? (i := 74) rfl)) rfl
theorem kw_C_123 (hA : ∀ w ∈ wA, w.before args s = true) (hrc : rm.cells = mc) (hrs : rm.slots = ms) (hR : rm.frames + 1 ≤ R.frames ∧ 8 + (3 + 11) + rm.locals ≤ R.locals) : CallW R s args RcC RcC 123 yC_emptySources bC_emptySources 3 none (wC_emptySources :: wA) rm mc ms 1 :=
  cwV 1 hA (gdV ml_C_123 (wA_m (tb_2 (List.mem_of_getElem? (i := 76) rfl)) rfl) (wA_m (tb_p1 (List.mem_of_getElem? (i := 5) rfl)) rfl) ini_C mc_C_emptySources) rfl hrc hrs ⟨rfl, dm_C_emptySources⟩ hR
theorem ml_C_65 : Cond.methodLink RcC 65 yC_isEmpty ∈ wA := wA_m (tb_2 (List.mem_of_getElem? (i := 78) rfl)) rfl
theorem kw_C_65 (hA : ∀ w ∈ wA, w.before args s = true) (hrc : rm.cells = mc) (hrs : rm.slots = ms) (hR : rm.frames + 1 ≤ R.frames ∧ 8 + (2 + 11) + rm.locals ≤ R.locals) : CallW R s args RcC RcC 65 yC_isEmpty bC_isEmpty 2 (some .boolean) (wC_isEmpty :: wA) rm mc ms 1 :=
  cwV 1 hA (gdV ml_C_65 (wA_m (tb_2 (List.mem_of_getElem? (i := 79) rfl)) rfl) (wA_m (tb_2 (List.mem_of_getElem? (i := 80) rfl)) rfl) ini_C mc_C_isEmpty) rfl hrc hrs ⟨rfl, dm_C_isEmpty⟩ hR
theorem ml_C_126 : Cond.methodLink RcC 126 yC_addAll ∈ wA := wA_m (tb_2 (List.mem_of_getElem? (i := 82) rfl)) rfl
theorem kw_C_126 (hA : ∀ w ∈ wA, w.before args s = true) (hrc : rm.cells = mc) (hrs : rm.slots = ms) (hR : rm.frames + 1 ≤ R.frames ∧ 8 + (7 + 11) + rm.locals ≤ R.locals) : CallW R s args RcC RcC 126 yC_addAll bC_addAll 7 none (wC_addAll :: wA) rm mc ms 4 :=
  cwV 4 hA (gdV ml_C_126 (wA_m (tb_2 (List.mem_of_getElem? (i := 84) rfl)) rfl) (wA_m (tb_p1 (List.mem_of_getElem? (i := 6) rfl)) rfl) ini_C mc_C_addAll) rfl hrc hrs ⟨rfl, dm_C_addAll⟩ hR
theorem ml_C_130 : Cond.methodLink RcC 130 yC_drawParts ∈ wA := wA_m (tb_2 (List.mem_of_getElem? (i := 86) rfl)) rfl
theorem kw_C_130 (hA : ∀ w ∈ wA, w.before args s = true) (hrc : rm.cells = mc) (hrs : rm.slots = ms) (hR : rm.frames + 1 ≤ R.frames ∧ 8 + (3 + 11) + rm.locals ≤ R.locals) : CallW R s args RcC RcC 130 yC_drawParts bC_drawParts 3 none (wC_drawParts :: wA) rm mc ms 2 :=
  cwV 2 hA (gdV ml_C_130 (wA_m (tb_2 (List.mem_of_getElem? (i := 88) rfl)) rfl) (wA_m (tb_p1 (List.mem_of_getElem? (i := 7) rfl)) rfl) ini_C mc_C_drawParts) rfl hrc hrs ⟨rfl, dm_C_drawParts⟩ hR
theorem ml_C_133 : Cond.methodLink RcC 133 yC_drawBoths ∈ wA := wA_m (tb_2 (List.mem_of_getElem? (i := 90) rfl)) rfl
theorem kw_C_133 (hA : ∀ w ∈ wA, w.before args s = true) (hrc : rm.cells = mc) (hrs : rm.slots = ms) (hR : rm.frames + 1 ≤ R.frames ∧ 8 + (5 + 11) + rm.locals ≤ R.locals) : CallW R s args RcC RcC 133 yC_drawBoths bC_drawBoths 5 none (wC_drawBoths :: wA) rm mc ms 2 :=
  cwV 2 hA (gdV ml_C_133 (wA_m (tb_2 (List.mem_of_getElem? (i := 92) rfl)) rfl) (wA_m (tb_p1 (List.mem_of_getElem? (i := 8) rfl)) rfl) ini_C mc_C_drawBoths) rfl hrc hrs ⟨rfl, dm_C_drawBoths⟩ hR
theorem ml_C_173 : Cond.methodLink RcC 173 yT_otherPart ∈ wA := wA_m (tb_2 (List.mem_of_getElem? (i := 94) rfl)) rfl
theorem kw_C_173 (hA : ∀ w ∈ wA, w.before args s = true) (hrc : rm.cells = mc) (hrs : rm.slots = ms) (hR : rm.frames + 1 ≤ R.frames ∧ 8 + (3 + 11) + rm.locals ≤ R.locals) : CallW R s args RcC RcT 173 yT_otherPart bT_otherPart 3 (some .int) (wT_otherPart :: wA) rm mc ms 2 :=
  cwV 2 hA (gdV ml_C_173 (wA_m (tb_2 (List.mem_of_getElem? (i := 95) rfl)) rfl) (wA_m (tb_2 (List.mem_of_getElem? (i := 96) rfl)) rfl) ini_T mc_T_otherPart) rfl hrc hrs ⟨rfl, dm_T_otherPart⟩ hR
theorem ml_C_136 : Cond.methodLink RcC 136 yC_drawSomes ∈ wA := wA_m (tb_2 (List.mem_of_getElem? (i := 98) rfl)) rfl
theorem kw_C_136 (hA : ∀ w ∈ wA, w.before args s = true) (hrc : rm.cells = mc) (hrs : rm.slots = ms) (hR : rm.frames + 1 ≤ R.frames ∧ 8 + (5 + 11) + rm.locals ≤ R.locals) : CallW R s args RcC RcC 136 yC_drawSomes bC_drawSomes 5 none (wC_drawSomes :: wA) rm mc ms 2 :=
  cwV 2 hA (gdV ml_C_136 (wA_m (tb_2 (List.mem_of_getElem? (i := 100) rfl)) rfl) (wA_m (tb_p1 (List.mem_of_getElem? (i := 9) rfl)) rfl) ini_C mc_C_drawSomes) rfl hrc hrs ⟨rfl, dm_C_drawSomes⟩ hR
theorem ml_C_176 : Cond.methodLink RcC 176 yT_findSome ∈ wA := wA_m (tb_2 (List.mem_of_getElem? (i := 102) rfl)) rfl
theorem kw_C_176 (hA : ∀ w ∈ wA, w.before args s = true) (hrc : rm.cells = mc) (hrs : rm.slots = ms) (hR : rm.frames + 1 ≤ R.frames ∧ 8 + (3 + 11) + rm.locals ≤ R.locals) : CallW R s args RcC RcT 176 yT_findSome bT_findSome 3 (some .int) (wT_findSome :: wA) rm mc ms 2 :=
  cwV 2 hA (gdV ml_C_176 (wA_m (tb_2 (List.mem_of_getElem? (i := 103) rfl)) rfl) (wA_m (tb_2 (List.mem_of_getElem? (i := 104) rfl)) rfl) ini_T mc_T_findSome) rfl hrc hrs ⟨rfl, dm_T_findSome⟩ hR
theorem ml_C_139 : Cond.methodLink RcC 139 yC_drawFromLink ∈ wA := wA_m (tb_2 (List.mem_of_getElem? (i := 106) rfl)) rfl
theorem kw_C_139 (hA : ∀ w ∈ wA, w.before args s = true) (hrc : rm.cells = mc) (hrs : rm.slots = ms) (hR : rm.frames + 1 ≤ R.frames ∧ 8 + (7 + 11) + rm.locals ≤ R.locals) : CallW R s args RcC RcC 139 yC_drawFromLink bC_drawFromLink 7 none (wC_drawFromLink :: wA) rm mc ms 3 :=
  cwV 3 hA (gdV ml_C_139 (wA_m (tb_2 (List.mem_of_getElem? (i := 108) rfl)) rfl) (wA_m (tb_p1 (List.mem_of_getElem? (i := 10) rfl)) rfl) ini_C mc_C_drawFromLink) rfl hrc hrs ⟨rfl, dm_C_drawFromLink⟩ hR
theorem ml_C_142 : Cond.methodLink RcC 142 yC_drawFromChains ∈ wA := wA_m (tb_2 (List.mem_of_getElem? (i := 110) rfl)) rfl
theorem kw_C_142 (hA : ∀ w ∈ wA, w.before args s = true) (hrc : rm.cells = mc) (hrs : rm.slots = ms) (hR : rm.frames + 1 ≤ R.frames ∧ 8 + (8 + 11) + rm.locals ≤ R.locals) : CallW R s args RcC RcC 142 yC_drawFromChains bC_drawFromChains 8 none (wC_drawFromChains :: wA) rm mc ms 3 :=
  cwV 3 hA (gdV ml_C_142 (wA_m (tb_2 (List.mem_of_getElem? (i := 112) rfl)) rfl) (wA_m (tb_p1 (List.mem_of_getElem? (i := 11) rfl)) rfl) ini_C mc_C_drawFromChains) rfl hrc hrs ⟨rfl, dm_C_drawFromChains⟩ hR
theorem ml_S_79 : Cond.methodLink RcS 79 yT_size ∈ wA := wA_m (tb_2 (List.mem_of_getElem? (i := 114) rfl)) rfl
theorem kw_S_79 (hA : ∀ w ∈ wA, w.before args s = true) (hrc : rm.cells = mc) (hrs : rm.slots = ms) (hR : rm.frames + 1 ≤ R.frames ∧ 8 + (1 + 11) + rm.locals ≤ R.locals) : CallW R s args RcS RcT 79 yT_size bT_size 1 (some .int) (wT_size :: wA) rm mc ms 0 :=
  cwV 0 hA (gdV ml_S_79 (wA_m (tb_1 (List.mem_of_getElem? (i := 215) rfl)) rfl) (wA_m (tb_1 (List.mem_of_getElem? (i := 216) rfl)) rfl) ini_T mc_T_size) rfl hrc hrs ⟨rfl, dm_T_size⟩ hR
theorem ml_S_115 : Cond.methodLink RcS 115 yT_names ∈ wA := wA_m (tb_2 (List.mem_of_getElem? (i := 115) rfl)) rfl
theorem kw_S_115 (hA : ∀ w ∈ wA, w.before args s = true) (hrc : rm.cells = mc) (hrs : rm.slots = ms) (hR : rm.frames + 1 ≤ R.frames ∧ 8 + (1 + 11) + rm.locals ≤ R.locals) : CallW R s args RcS RcT 115 yT_names bT_names 1 (some .int) (wT_names :: wA) rm mc ms 0 :=
  cwV 0 hA (gdV ml_S_115 (wA_m (tb_2 (List.mem_of_getElem? (i := 116) rfl)) rfl) (wA_m (tb_2 (List.mem_of_getElem? (i := 117) rfl)) rfl) ini_T mc_T_names) rfl hrc hrs ⟨rfl, dm_T_names⟩ hR
theorem ml_S_103 : Cond.methodLink RcS 103 yA_told ∈ wA := wA_m (tb_2 (List.mem_of_getElem? (i := 119) rfl)) rfl
theorem kw_S_103 (hA : ∀ w ∈ wA, w.before args s = true) (hrc : rm.cells = mc) (hrs : rm.slots = ms) (hR : rm.frames + 1 ≤ R.frames ∧ 8 + (1 + 11) + rm.locals ≤ R.locals) : CallW R s args RcS RcA 103 yA_told bA_told 1 (some .int) (wA_told :: wA) rm mc ms 0 :=
  cwV 0 hA (gdV ml_S_103 (wA_m (tb_2 (List.mem_of_getElem? (i := 37) rfl)) rfl) (wA_m (tb_2 (List.mem_of_getElem? (i := 38) rfl)) rfl) ini_A mc_A_told) rfl hrc hrs ⟨rfl, dm_A_told⟩ hR
theorem ml_S_118 : Cond.methodLink RcS 118 yA_inForce ∈ wA := wA_m (tb_2 (List.mem_of_getElem? (i := 120) rfl)) rfl
theorem kw_S_118 (hA : ∀ w ∈ wA, w.before args s = true) (hrc : rm.cells = mc) (hrs : rm.slots = ms) (hR : rm.frames + 1 ≤ R.frames ∧ 8 + (1 + 11) + rm.locals ≤ R.locals) : CallW R s args RcS RcA 118 yA_inForce bA_inForce 1 (some .int) (wA_inForce :: wA) rm mc ms 0 :=
  cwV 0 hA (gdV ml_S_118 (wA_m (tb_2 (List.mem_of_getElem? (i := 121) rfl)) rfl) (wA_m (tb_2 (List.mem_of_getElem? (i := 122) rfl)) rfl) ini_A mc_A_inForce) rfl hrc hrs ⟨rfl, dm_A_inForce⟩ hR
theorem ml_S_121 : Cond.methodLink RcS 121 yS_countPairs ∈ wA := wA_m (tb_2 (List.mem_of_getElem? (i := 124) rfl)) rfl
theorem kw_S_121 (hA : ∀ w ∈ wA, w.before args s = true) (hrc : rm.cells = mc) (hrs : rm.slots = ms) (hR : rm.frames + 1 ≤ R.frames ∧ 8 + (4 + 11) + rm.locals ≤ R.locals) : CallW R s args RcS RcS 121 yS_countPairs bS_countPairs 4 (some .int) (wS_countPairs :: wA) rm mc ms 0 :=
  cwV 0 hA (gdV ml_S_121 (wA_m (tb_2 (List.mem_of_getElem? (i := 126) rfl)) rfl) (wA_m (tb_p1 (List.mem_of_getElem? (i := 12) rfl)) rfl) ini_S mc_S_countPairs) rfl hrc hrs ⟨rfl, dm_S_countPairs⟩ hR
theorem ml_S_75 : Cond.methodLink RcS 75 yC_covers ∈ wA := wA_m (tb_2 (List.mem_of_getElem? (i := 128) rfl)) rfl
theorem kw_S_75 (hA : ∀ w ∈ wA, w.before args s = true) (hrc : rm.cells = mc) (hrs : rm.slots = ms) (hR : rm.frames + 1 ≤ R.frames ∧ 8 + (3 + 11) + rm.locals ≤ R.locals) : CallW R s args RcS RcC 75 yC_covers bC_covers 3 (some .boolean) (wC_covers :: wA) rm mc ms 2 :=
  cwV 2 hA (gdV ml_S_75 (wA_m (tb_2 (List.mem_of_getElem? (i := 129) rfl)) rfl) (wA_m (tb_2 (List.mem_of_getElem? (i := 130) rfl)) rfl) ini_C mc_C_covers) rfl hrc hrs ⟨rfl, dm_C_covers⟩ hR
theorem ml_S_124 : Cond.methodLink RcS 124 yS_countEmpty ∈ wA := wA_m (tb_2 (List.mem_of_getElem? (i := 132) rfl)) rfl
theorem kw_S_124 (hA : ∀ w ∈ wA, w.before args s = true) (hrc : rm.cells = mc) (hrs : rm.slots = ms) (hR : rm.frames + 1 ≤ R.frames ∧ 8 + (3 + 11) + rm.locals ≤ R.locals) : CallW R s args RcS RcS 124 yS_countEmpty bS_countEmpty 3 (some .int) (wS_countEmpty :: wA) rm mc ms 0 :=
  cwV 0 hA (gdV ml_S_124 (wA_m (tb_2 (List.mem_of_getElem? (i := 134) rfl)) rfl) (wA_m (tb_p1 (List.mem_of_getElem? (i := 13) rfl)) rfl) ini_S mc_S_countEmpty) rfl hrc hrs ⟨rfl, dm_S_countEmpty⟩ hR
theorem ml_S_154 : Cond.methodLink RcS 154 yC_isEmpty ∈ wA := wA_m (tb_2 (List.mem_of_getElem? (i := 136) rfl)) rfl
theorem kw_S_154 (hA : ∀ w ∈ wA, w.before args s = true) (hrc : rm.cells = mc) (hrs : rm.slots = ms) (hR : rm.frames + 1 ≤ R.frames ∧ 8 + (2 + 11) + rm.locals ≤ R.locals) : CallW R s args RcS RcC 154 yC_isEmpty bC_isEmpty 2 (some .boolean) (wC_isEmpty :: wA) rm mc ms 1 :=
  cwV 1 hA (gdV ml_S_154 (wA_m (tb_2 (List.mem_of_getElem? (i := 79) rfl)) rfl) (wA_m (tb_2 (List.mem_of_getElem? (i := 80) rfl)) rfl) ini_C mc_C_isEmpty) rfl hrc hrs ⟨rfl, dm_C_isEmpty⟩ hR
theorem ml_S_127 : Cond.methodLink RcS 127 yS_countClasses ∈ wA := wA_m (tb_2 (List.mem_of_getElem? (i := 137) rfl)) rfl
theorem kw_S_127 (hA : ∀ w ∈ wA, w.before args s = true) (hrc : rm.cells = mc) (hrs : rm.slots = ms) (hR : rm.frames + 1 ≤ R.frames ∧ 8 + (3 + 11) + rm.locals ≤ R.locals) : CallW R s args RcS RcS 127 yS_countClasses bS_countClasses 3 (some .int) (wS_countClasses :: wA) rm mc ms 0 :=
  cwV 0 hA (gdV ml_S_127 (wA_m (tb_2 (List.mem_of_getElem? (i := 139) rfl)) rfl) (wA_m (tb_p1 (List.mem_of_getElem? (i := 14) rfl)) rfl) ini_S mc_S_countClasses) rfl hrc hrs ⟨rfl, dm_S_countClasses⟩ hR
theorem ml_S_92 : Cond.methodLink RcS 92 yS_leastEqual ∈ wA := wA_m (tb_2 (List.mem_of_getElem? (i := 141) rfl)) rfl
theorem kw_S_92 (hA : ∀ w ∈ wA, w.before args s = true) (hrc : rm.cells = mc) (hrs : rm.slots = ms) (hR : rm.frames + 1 ≤ R.frames ∧ 8 + (3 + 11) + rm.locals ≤ R.locals) : CallW R s args RcS RcS 92 yS_leastEqual bS_leastEqual 3 (some .int) (wS_leastEqual :: wA) rm mc ms 1 :=
  cwV 1 hA (gdV ml_S_92 (wA_m (tb_2 (List.mem_of_getElem? (i := 143) rfl)) rfl) (wA_m (tb_p1 (List.mem_of_getElem? (i := 15) rfl)) rfl) ini_S mc_S_leastEqual) rfl hrc hrs ⟨rfl, dm_S_leastEqual⟩ hR
theorem ml_L_67 : Cond.methodLink RcL 67 yL_both ∈ wA := wA_m (tb_2 (List.mem_of_getElem? (i := 145) rfl)) rfl
theorem ml_L_7 : Cond.methodLink RcL 7 yS_both ∈ wA := wA_m (tb_2 (List.mem_of_getElem? (i := 149) rfl)) rfl
theorem kw_L_7 (hA : ∀ w ∈ wA, w.before args s = true) (hrc : rm.cells = mc) (hrs : rm.slots = ms) (hR : rm.frames + 1 ≤ R.frames ∧ 8 + (4 + 11) + rm.locals ≤ R.locals) : CallW R s args RcL RcS 7 yS_both bS_both 4 (some .int) (wS_both :: wA) rm mc ms 2 :=
  cwV 2 hA (gdV ml_L_7 (wA_m (tb_2 (List.mem_of_getElem? (i := 150) rfl)) rfl) (wA_m (tb_2 (List.mem_of_getElem? (i := 151) rfl)) rfl) ini_S mc_S_both) rfl hrc hrs ⟨rfl, dm_S_both⟩ hR
theorem ml_S_44 : Cond.methodLink RcS 44 yS_checkTerm ∈ wA := wA_m (tb_2 (List.mem_of_getElem? (i := 153) rfl)) rfl
theorem kw_S_44 (hA : ∀ w ∈ wA, w.before args s = true) (hrc : rm.cells = mc) (hrs : rm.slots = ms) (hR : rm.frames + 1 ≤ R.frames ∧ 8 + (2 + 11) + rm.locals ≤ R.locals) : CallW R s args RcS RcS 44 yS_checkTerm bS_checkTerm 2 none (wS_checkTerm :: wA) rm mc ms 1 :=
  cwV 1 hA (gdV ml_S_44 (wA_m (tb_2 (List.mem_of_getElem? (i := 155) rfl)) rfl) (wA_m (tb_p2 (List.mem_of_getElem? (i := 0) rfl)) rfl) ini_S mc_S_checkTerm) rfl hrc hrs ⟨rfl, dm_S_checkTerm⟩ hR
theorem ml_S_48 : Cond.methodLink RcS 48 yT_findBoth ∈ wA := wA_m (tb_2 (List.mem_of_getElem? (i := 223) rfl)) rfl
theorem kw_S_48 (hA : ∀ w ∈ wA, w.before args s = true) (hrc : rm.cells = mc) (hrs : rm.slots = ms) (hR : rm.frames + 1 ≤ R.frames ∧ 8 + (4 + 11) + rm.locals ≤ R.locals) : CallW R s args RcS RcT 48 yT_findBoth bT_findBoth 4 (some .int) (wT_findBoth :: wA) rm mc ms 2 :=
  cwV 2 hA (gdV ml_S_48 (wA_m (tb_2 (List.mem_of_getElem? (i := 224) rfl)) rfl) (wA_m (tb_2 (List.mem_of_getElem? (i := 225) rfl)) rfl) ini_T mc_T_findBoth) rfl hrc hrs ⟨rfl, dm_T_findBoth⟩ hR
theorem ml_T_49 : Cond.methodLink RcT 49 yB_next ∈ wA := wA_m (tb_2 (List.mem_of_getElem? (i := 227) rfl)) rfl
theorem kw_T_49 (hA : ∀ w ∈ wA, w.before args s = true) (hrc : rm.cells = mc) (hrs : rm.slots = ms) (hR : rm.frames + 1 ≤ R.frames ∧ 8 + (6 + 11) + rm.locals ≤ R.locals) : CallW R s args RcT RcB 49 yB_next bB_next 6 (some .int) (wB_next :: wA) rm mc ms 2 :=
  cwV 2 hA (gdV ml_T_49 (wA_m (tb_2 (List.mem_of_getElem? (i := 1) rfl)) rfl) (wA_m (tb_2 (List.mem_of_getElem? (i := 2) rfl)) rfl) ini_B mc_B_next) rfl hrc hrs ⟨rfl, dm_B_next⟩ hR
theorem ml_L_76 : Cond.methodLink RcL 76 yL_some ∈ wA := wA_m (tb_2 (List.mem_of_getElem? (i := 228) rfl)) rfl
theorem ml_L_15 : Cond.methodLink RcL 15 yS_some ∈ wA := wA_m (tb_2 (List.mem_of_getElem? (i := 231) rfl)) rfl
theorem kw_L_15 (hA : ∀ w ∈ wA, w.before args s = true) (hrc : rm.cells = mc) (hrs : rm.slots = ms) (hR : rm.frames + 1 ≤ R.frames ∧ 8 + (4 + 11) + rm.locals ≤ R.locals) : CallW R s args RcL RcS 15 yS_some bS_some 4 (some .int) (wS_some :: wA) rm mc ms 2 :=
  cwV 2 hA (gdV ml_L_15 (wA_m (tb_2 (List.mem_of_getElem? (i := 232) rfl)) rfl) (wA_m (tb_2 (List.mem_of_getElem? (i := 233) rfl)) rfl) ini_S mc_S_some) rfl hrc hrs ⟨rfl, dm_S_some⟩ hR
theorem ml_S_52 : Cond.methodLink RcS 52 yS_checkRole ∈ wA := wA_m (tb_2 (List.mem_of_getElem? (i := 235) rfl)) rfl
theorem kw_S_52 (hA : ∀ w ∈ wA, w.before args s = true) (hrc : rm.cells = mc) (hrs : rm.slots = ms) (hR : rm.frames + 1 ≤ R.frames ∧ 8 + (1 + 11) + rm.locals ≤ R.locals) : CallB R s args RcS 52 yS_checkRole bS_checkRole 1 none (wS_checkRole :: wA) rm mc ms 1 ∧ (Cond.static yS_checkRole).before args s = true :=
  cwS 1 hA (gdS ml_S_52 (wA_m (tb_2 (List.mem_of_getElem? (i := 236) rfl)) rfl) ini_S mc_S_checkRole) rfl hrc hrs ⟨rfl, dm_S_checkRole⟩ hR
theorem ml_S_55 : Cond.methodLink RcS 55 yT_findSome ∈ wA := wA_m (tb_2 (List.mem_of_getElem? (i := 239) rfl)) rfl
theorem kw_S_55 (hA : ∀ w ∈ wA, w.before args s = true) (hrc : rm.cells = mc) (hrs : rm.slots = ms) (hR : rm.frames + 1 ≤ R.frames ∧ 8 + (3 + 11) + rm.locals ≤ R.locals) : CallW R s args RcS RcT 55 yT_findSome bT_findSome 3 (some .int) (wT_findSome :: wA) rm mc ms 2 :=
  cwV 2 hA (gdV ml_S_55 (wA_m (tb_2 (List.mem_of_getElem? (i := 103) rfl)) rfl) (wA_m (tb_2 (List.mem_of_getElem? (i := 104) rfl)) rfl) ini_T mc_T_findSome) rfl hrc hrs ⟨rfl, dm_T_findSome⟩ hR
theorem ml_L_79 : Cond.methodLink RcL 79 yL_below ∈ wA := wA_m (tb_3 (List.mem_of_getElem? (i := 0) rfl)) rfl
theorem ml_L_18 : Cond.methodLink RcL 18 yS_below ∈ wA := wA_m (tb_3 (List.mem_of_getElem? (i := 3) rfl)) rfl
theorem kw_L_18 (hA : ∀ w ∈ wA, w.before args s = true) (hrc : rm.cells = mc) (hrs : rm.slots = ms) (hR : rm.frames + 1 ≤ R.frames ∧ 8 + (3 + 11) + rm.locals ≤ R.locals) : CallW R s args RcL RcS 18 yS_below bS_below 3 (some .int) (wS_below :: wA) rm mc ms 2 :=
  cwV 2 hA (gdV ml_L_18 (wA_m (tb_3 (List.mem_of_getElem? (i := 4) rfl)) rfl) (wA_m (tb_3 (List.mem_of_getElem? (i := 5) rfl)) rfl) ini_S mc_S_below) rfl hrc hrs ⟨rfl, dm_S_below⟩ hR
theorem ml_S_58 : Cond.methodLink RcS 58 yA_tell ∈ wA := wA_m (tb_3 (List.mem_of_getElem? (i := 7) rfl)) rfl
theorem kw_S_58 (hA : ∀ w ∈ wA, w.before args s = true) (hrc : rm.cells = mc) (hrs : rm.slots = ms) (hR : rm.frames + 1 ≤ R.frames ∧ 8 + (5 + 11) + rm.locals ≤ R.locals) : CallW R s args RcS RcA 58 yA_tell bA_tell 5 (some .int) (wA_tell :: wA) rm mc ms 4 :=
  cwV 4 hA (gdV ml_S_58 (wA_m (tb_3 (List.mem_of_getElem? (i := 8) rfl)) rfl) (wA_m (tb_3 (List.mem_of_getElem? (i := 9) rfl)) rfl) ini_A mc_A_tell) rfl hrc hrs ⟨rfl, dm_A_tell⟩ hR
theorem ml_L_82 : Cond.methodLink RcL 82 yL_equal ∈ wA := wA_m (tb_3 (List.mem_of_getElem? (i := 11) rfl)) rfl
theorem ml_L_21 : Cond.methodLink RcL 21 yS_equal ∈ wA := wA_m (tb_3 (List.mem_of_getElem? (i := 14) rfl)) rfl
theorem kw_L_21 (hA : ∀ w ∈ wA, w.before args s = true) (hrc : rm.cells = mc) (hrs : rm.slots = ms) (hR : rm.frames + 1 ≤ R.frames ∧ 8 + (3 + 11) + rm.locals ≤ R.locals) : CallW R s args RcL RcS 21 yS_equal bS_equal 3 (some .int) (wS_equal :: wA) rm mc ms 2 :=
  cwV 2 hA (gdV ml_L_21 (wA_m (tb_3 (List.mem_of_getElem? (i := 15) rfl)) rfl) (wA_m (tb_3 (List.mem_of_getElem? (i := 16) rfl)) rfl) ini_S mc_S_equal) rfl hrc hrs ⟨rfl, dm_S_equal⟩ hR
theorem ml_L_85 : Cond.methodLink RcL 85 yL_roleBelow ∈ wA := wA_m (tb_3 (List.mem_of_getElem? (i := 18) rfl)) rfl
theorem ml_L_24 : Cond.methodLink RcL 24 yS_roleBelow ∈ wA := wA_m (tb_3 (List.mem_of_getElem? (i := 21) rfl)) rfl
theorem kw_L_24 (hA : ∀ w ∈ wA, w.before args s = true) (hrc : rm.cells = mc) (hrs : rm.slots = ms) (hR : rm.frames + 1 ≤ R.frames ∧ 8 + (3 + 11) + rm.locals ≤ R.locals) : CallW R s args RcL RcS 24 yS_roleBelow bS_roleBelow 3 (some .int) (wS_roleBelow :: wA) rm mc ms 2 :=
  cwV 2 hA (gdV ml_L_24 (wA_m (tb_3 (List.mem_of_getElem? (i := 22) rfl)) rfl) (wA_m (tb_3 (List.mem_of_getElem? (i := 23) rfl)) rfl) ini_S mc_S_roleBelow) rfl hrc hrs ⟨rfl, dm_S_roleBelow⟩ hR
theorem ml_L_88 : Cond.methodLink RcL 88 yL_chain ∈ wA := wA_m (tb_3 (List.mem_of_getElem? (i := 25) rfl)) rfl
theorem ml_L_27 : Cond.methodLink RcL 27 yS_chain ∈ wA := wA_m (tb_3 (List.mem_of_getElem? (i := 28) rfl)) rfl
theorem kw_L_27 (hA : ∀ w ∈ wA, w.before args s = true) (hrc : rm.cells = mc) (hrs : rm.slots = ms) (hR : rm.frames + 1 ≤ R.frames ∧ 8 + (4 + 11) + rm.locals ≤ R.locals) : CallW R s args RcL RcS 27 yS_chain bS_chain 4 (some .int) (wS_chain :: wA) rm mc ms 3 :=
  cwV 3 hA (gdV ml_L_27 (wA_m (tb_3 (List.mem_of_getElem? (i := 29) rfl)) rfl) (wA_m (tb_3 (List.mem_of_getElem? (i := 30) rfl)) rfl) ini_S mc_S_chain) rfl hrc hrs ⟨rfl, dm_S_chain⟩ hR
theorem ml_L_97 : Cond.methodLink RcL 97 yL_isBelow ∈ wA := wA_m (tb_3 (List.mem_of_getElem? (i := 32) rfl)) rfl
theorem ml_L_31 : Cond.methodLink RcL 31 yS_isBelow ∈ wA := wA_m (tb_3 (List.mem_of_getElem? (i := 35) rfl)) rfl
theorem kw_L_31 (hA : ∀ w ∈ wA, w.before args s = true) (hrc : rm.cells = mc) (hrs : rm.slots = ms) (hR : rm.frames + 1 ≤ R.frames ∧ 8 + (3 + 11) + rm.locals ≤ R.locals) : CallW R s args RcL RcS 31 yS_isBelow bS_isBelow 3 (some .boolean) (wS_isBelow :: wA) rm mc ms 2 :=
  cwV 2 hA (gdV ml_L_31 (wA_m (tb_3 (List.mem_of_getElem? (i := 36) rfl)) rfl) (wA_m (tb_3 (List.mem_of_getElem? (i := 37) rfl)) rfl) ini_S mc_S_isBelow) rfl hrc hrs ⟨rfl, dm_S_isBelow⟩ hR
theorem ml_S_72 : Cond.methodLink RcS 72 yC_place ∈ wA := wA_m (tb_3 (List.mem_of_getElem? (i := 39) rfl)) rfl
theorem kw_S_72 (hA : ∀ w ∈ wA, w.before args s = true) (hrc : rm.cells = mc) (hrs : rm.slots = ms) (hR : rm.frames + 1 ≤ R.frames ∧ 8 + (2 + 11) + rm.locals ≤ R.locals) : CallW R s args RcS RcC 72 yC_place bC_place 2 none (wC_place :: wA) rm mc ms 1 :=
  cwV 1 hA (gdV ml_S_72 (wA_m (tb_3 (List.mem_of_getElem? (i := 40) rfl)) rfl) (wA_m (tb_3 (List.mem_of_getElem? (i := 41) rfl)) rfl) ini_C mc_C_place) rfl hrc hrs ⟨rfl, dm_C_place⟩ hR
theorem ml_L_100 : Cond.methodLink RcL 100 yL_supers ∈ wA := wA_m (tb_3 (List.mem_of_getElem? (i := 43) rfl)) rfl
theorem ml_L_35 : Cond.methodLink RcL 35 yS_supers ∈ wA := wA_m (tb_3 (List.mem_of_getElem? (i := 46) rfl)) rfl
theorem kw_L_35 (hA : ∀ w ∈ wA, w.before args s = true) (hrc : rm.cells = mc) (hrs : rm.slots = ms) (hR : rm.frames + 1 ≤ R.frames ∧ 8 + (4 + 11) + rm.locals ≤ R.locals) : CallW R s args RcL RcS 35 yS_supers bS_supers 4 (some .int) (wS_supers :: wA) rm mc ms 1 :=
  cwV 1 hA (gdV ml_L_35 (wA_m (tb_3 (List.mem_of_getElem? (i := 47) rfl)) rfl) (wA_m (tb_3 (List.mem_of_getElem? (i := 48) rfl)) rfl) ini_S mc_S_supers) rfl hrc hrs ⟨rfl, dm_S_supers⟩ hR
theorem ml_S_83 : Cond.methodLink RcS 83 yS_isNameAbove ∈ wA := wA_m (tb_3 (List.mem_of_getElem? (i := 50) rfl)) rfl
theorem kw_S_83 (hA : ∀ w ∈ wA, w.before args s = true) (hrc : rm.cells = mc) (hrs : rm.slots = ms) (hR : rm.frames + 1 ≤ R.frames ∧ 8 + (3 + 11) + rm.locals ≤ R.locals) : CallW R s args RcS RcS 83 yS_isNameAbove bS_isNameAbove 3 (some .boolean) (wS_isNameAbove :: wA) rm mc ms 2 :=
  cwV 2 hA (gdV ml_S_83 (wA_m (tb_3 (List.mem_of_getElem? (i := 52) rfl)) rfl) (wA_m (tb_p2 (List.mem_of_getElem? (i := 2) rfl)) rfl) ini_S mc_S_isNameAbove) rfl hrc hrs ⟨rfl, dm_S_isNameAbove⟩ hR
theorem ml_S_139 : Cond.methodLink RcS 139 yT_isName ∈ wA := wA_m (tb_3 (List.mem_of_getElem? (i := 54) rfl)) rfl
theorem kw_S_139 (hA : ∀ w ∈ wA, w.before args s = true) (hrc : rm.cells = mc) (hrs : rm.slots = ms) (hR : rm.frames + 1 ≤ R.frames ∧ 8 + (2 + 11) + rm.locals ≤ R.locals) : CallW R s args RcS RcT 139 yT_isName bT_isName 2 (some .boolean) (wT_isName :: wA) rm mc ms 1 :=
  cwV 1 hA (gdV ml_S_139 (wA_m (tb_3 (List.mem_of_getElem? (i := 55) rfl)) rfl) (wA_m (tb_3 (List.mem_of_getElem? (i := 56) rfl)) rfl) ini_T mc_T_isName) rfl hrc hrs ⟨rfl, dm_T_isName⟩ hR
theorem ml_L_104 : Cond.methodLink RcL 104 yL_sup ∈ wA := wA_m (tb_3 (List.mem_of_getElem? (i := 58) rfl)) rfl
theorem ml_L_39 : Cond.methodLink RcL 39 yS_sup ∈ wA := wA_m (tb_3 (List.mem_of_getElem? (i := 61) rfl)) rfl
theorem kw_L_39 (hA : ∀ w ∈ wA, w.before args s = true) (hrc : rm.cells = mc) (hrs : rm.slots = ms) (hR : rm.frames + 1 ≤ R.frames ∧ 8 + (5 + 11) + rm.locals ≤ R.locals) : CallW R s args RcL RcS 39 yS_sup bS_sup 5 (some .int) (wS_sup :: wA) rm mc ms 2 :=
  cwV 2 hA (gdV ml_L_39 (wA_m (tb_3 (List.mem_of_getElem? (i := 62) rfl)) rfl) (wA_m (tb_3 (List.mem_of_getElem? (i := 63) rfl)) rfl) ini_S mc_S_sup) rfl hrc hrs ⟨rfl, dm_S_sup⟩ hR
theorem ml_L_107 : Cond.methodLink RcL 107 yL_direct ∈ wA := wA_m (tb_3 (List.mem_of_getElem? (i := 65) rfl)) rfl
theorem ml_L_42 : Cond.methodLink RcL 42 yS_direct ∈ wA := wA_m (tb_3 (List.mem_of_getElem? (i := 68) rfl)) rfl
theorem kw_L_42 (hA : ∀ w ∈ wA, w.before args s = true) (hrc : rm.cells = mc) (hrs : rm.slots = ms) (hR : rm.frames + 1 ≤ R.frames ∧ 8 + (4 + 11) + rm.locals ≤ R.locals) : CallW R s args RcL RcS 42 yS_direct bS_direct 4 (some .boolean) (wS_direct :: wA) rm mc ms 2 :=
  cwV 2 hA (gdV ml_L_42 (wA_m (tb_3 (List.mem_of_getElem? (i := 69) rfl)) rfl) (wA_m (tb_3 (List.mem_of_getElem? (i := 70) rfl)) rfl) ini_S mc_S_direct) rfl hrc hrs ⟨rfl, dm_S_direct⟩ hR
theorem ml_S_86 : Cond.methodLink RcS 86 yC_placeWithAbove ∈ wA := wA_m (tb_3 (List.mem_of_getElem? (i := 72) rfl)) rfl
theorem kw_S_86 (hA : ∀ w ∈ wA, w.before args s = true) (hrc : rm.cells = mc) (hrs : rm.slots = ms) (hR : rm.frames + 1 ≤ R.frames ∧ 8 + (3 + 11) + rm.locals ≤ R.locals) : CallW R s args RcS RcC 86 yC_placeWithAbove bC_placeWithAbove 3 none (wC_placeWithAbove :: wA) rm mc ms 1 :=
  cwV 1 hA (gdV ml_S_86 (wA_m (tb_3 (List.mem_of_getElem? (i := 73) rfl)) rfl) (wA_m (tb_3 (List.mem_of_getElem? (i := 74) rfl)) rfl) ini_C mc_C_placeWithAbove) rfl hrc hrs ⟨rfl, dm_C_placeWithAbove⟩ hR
theorem ml_C_88 : Cond.methodLink RcC 88 yC_covers ∈ wA := wA_m (tb_3 (List.mem_of_getElem? (i := 76) rfl)) rfl
theorem kw_C_88 (hA : ∀ w ∈ wA, w.before args s = true) (hrc : rm.cells = mc) (hrs : rm.slots = ms) (hR : rm.frames + 1 ≤ R.frames ∧ 8 + (3 + 11) + rm.locals ≤ R.locals) : CallW R s args RcC RcC 88 yC_covers bC_covers 3 (some .boolean) (wC_covers :: wA) rm mc ms 2 :=
  cwV 2 hA (gdV ml_C_88 (wA_m (tb_2 (List.mem_of_getElem? (i := 129) rfl)) rfl) (wA_m (tb_2 (List.mem_of_getElem? (i := 130) rfl)) rfl) ini_C mc_C_covers) rfl hrc hrs ⟨rfl, dm_C_covers⟩ hR
theorem ml_S_89 : Cond.methodLink RcS 89 yS_isStrictlyBelow ∈ wA := wA_m (tb_3 (List.mem_of_getElem? (i := 77) rfl)) rfl
theorem kw_S_89 (hA : ∀ w ∈ wA, w.before args s = true) (hrc : rm.cells = mc) (hrs : rm.slots = ms) (hR : rm.frames + 1 ≤ R.frames ∧ 8 + (3 + 11) + rm.locals ≤ R.locals) : CallW R s args RcS RcS 89 yS_isStrictlyBelow bS_isStrictlyBelow 3 (some .boolean) (wS_isStrictlyBelow :: wA) rm mc ms 2 :=
  cwV 2 hA (gdV ml_S_89 (wA_m (tb_3 (List.mem_of_getElem? (i := 79) rfl)) rfl) (wA_m (tb_p2 (List.mem_of_getElem? (i := 3) rfl)) rfl) ini_S mc_S_isStrictlyBelow) rfl hrc hrs ⟨rfl, dm_S_isStrictlyBelow⟩ hR
theorem ml_L_110 : Cond.methodLink RcL 110 yL_twin ∈ wA := wA_m (tb_3 (List.mem_of_getElem? (i := 81) rfl)) rfl
theorem ml_L_45 : Cond.methodLink RcL 45 yS_twin ∈ wA := wA_m (tb_3 (List.mem_of_getElem? (i := 84) rfl)) rfl
theorem kw_L_45 (hA : ∀ w ∈ wA, w.before args s = true) (hrc : rm.cells = mc) (hrs : rm.slots = ms) (hR : rm.frames + 1 ≤ R.frames ∧ 8 + (2 + 11) + rm.locals ≤ R.locals) : CallW R s args RcL RcS 45 yS_twin bS_twin 2 (some .int) (wS_twin :: wA) rm mc ms 1 :=
  cwV 1 hA (gdV ml_L_45 (wA_m (tb_3 (List.mem_of_getElem? (i := 85) rfl)) rfl) (wA_m (tb_3 (List.mem_of_getElem? (i := 86) rfl)) rfl) ini_S mc_S_twin) rfl hrc hrs ⟨rfl, dm_S_twin⟩ hR
theorem ml_L_113 : Cond.methodLink RcL 113 yL_common ∈ wA := wA_m (tb_3 (List.mem_of_getElem? (i := 88) rfl)) rfl
theorem ml_L_48 : Cond.methodLink RcL 48 yS_common ∈ wA := wA_m (tb_3 (List.mem_of_getElem? (i := 91) rfl)) rfl
theorem kw_L_48 (hA : ∀ w ∈ wA, w.before args s = true) (hrc : rm.cells = mc) (hrs : rm.slots = ms) (hR : rm.frames + 1 ≤ R.frames ∧ 8 + (6 + 11) + rm.locals ≤ R.locals) : CallW R s args RcL RcS 48 yS_common bS_common 6 (some .int) (wS_common :: wA) rm mc ms 3 :=
  cwV 3 hA (gdV ml_L_48 (wA_m (tb_3 (List.mem_of_getElem? (i := 92) rfl)) rfl) (wA_m (tb_3 (List.mem_of_getElem? (i := 93) rfl)) rfl) ini_S mc_S_common) rfl hrc hrs ⟨rfl, dm_S_common⟩ hR
theorem ml_S_96 : Cond.methodLink RcS 96 yS_isNameAboveBoth ∈ wA := wA_m (tb_3 (List.mem_of_getElem? (i := 95) rfl)) rfl
theorem kw_S_96 (hA : ∀ w ∈ wA, w.before args s = true) (hrc : rm.cells = mc) (hrs : rm.slots = ms) (hR : rm.frames + 1 ≤ R.frames ∧ 8 + (4 + 11) + rm.locals ≤ R.locals) : CallW R s args RcS RcS 96 yS_isNameAboveBoth bS_isNameAboveBoth 4 (some .boolean) (wS_isNameAboveBoth :: wA) rm mc ms 3 :=
  cwV 3 hA (gdV ml_S_96 (wA_m (tb_3 (List.mem_of_getElem? (i := 97) rfl)) rfl) (wA_m (tb_p2 (List.mem_of_getElem? (i := 4) rfl)) rfl) ini_S mc_S_isNameAboveBoth) rfl hrc hrs ⟨rfl, dm_S_isNameAboveBoth⟩ hR
theorem ml_S_100 : Cond.methodLink RcS 100 yS_isLowestAboveBoth ∈ wA := wA_m (tb_3 (List.mem_of_getElem? (i := 99) rfl)) rfl
theorem kw_S_100 (hA : ∀ w ∈ wA, w.before args s = true) (hrc : rm.cells = mc) (hrs : rm.slots = ms) (hR : rm.frames + 1 ≤ R.frames ∧ 8 + (5 + 11) + rm.locals ≤ R.locals) : CallW R s args RcS RcS 100 yS_isLowestAboveBoth bS_isLowestAboveBoth 5 (some .boolean) (wS_isLowestAboveBoth :: wA) rm mc ms 3 :=
  cwV 3 hA (gdV ml_S_100 (wA_m (tb_3 (List.mem_of_getElem? (i := 101) rfl)) rfl) (wA_m (tb_p2 (List.mem_of_getElem? (i := 5) rfl)) rfl) ini_S mc_S_isLowestAboveBoth) rfl hrc hrs ⟨rfl, dm_S_isLowestAboveBoth⟩ hR
theorem ml_L_116 : Cond.methodLink RcL 116 yL_why ∈ wA := wA_m (tb_3 (List.mem_of_getElem? (i := 103) rfl)) rfl
theorem ml_L_51 : Cond.methodLink RcL 51 yS_why ∈ wA := wA_m (tb_3 (List.mem_of_getElem? (i := 106) rfl)) rfl
theorem kw_L_51 (hA : ∀ w ∈ wA, w.before args s = true) (hrc : rm.cells = mc) (hrs : rm.slots = ms) (hR : rm.frames + 1 ≤ R.frames ∧ 8 + (5 + 11) + rm.locals ≤ R.locals) : CallW R s args RcL RcS 51 yS_why bS_why 5 (some .int) (wS_why :: wA) rm mc ms 2 :=
  cwV 2 hA (gdV ml_L_51 (wA_m (tb_3 (List.mem_of_getElem? (i := 107) rfl)) rfl) (wA_m (tb_3 (List.mem_of_getElem? (i := 108) rfl)) rfl) ini_S mc_S_why) rfl hrc hrs ⟨rfl, dm_S_why⟩ hR
theorem ml_S_106 : Cond.methodLink RcS 106 yS_reasonBefore ∈ wA := wA_m (tb_3 (List.mem_of_getElem? (i := 110) rfl)) rfl
theorem kw_S_106 (hA : ∀ w ∈ wA, w.before args s = true) (hrc : rm.cells = mc) (hrs : rm.slots = ms) (hR : rm.frames + 1 ≤ R.frames ∧ 8 + (5 + 11) + rm.locals ≤ R.locals) : CallW R s args RcS RcS 106 yS_reasonBefore bS_reasonBefore 5 (some .int) (wS_reasonBefore :: wA) rm mc ms 3 :=
  cwV 3 hA (gdV ml_S_106 (wA_m (tb_3 (List.mem_of_getElem? (i := 112) rfl)) rfl) (wA_m (tb_p2 (List.mem_of_getElem? (i := 6) rfl)) rfl) ini_S mc_S_reasonBefore) rfl hrc hrs ⟨rfl, dm_S_reasonBefore⟩ hR
theorem ml_S_142 : Cond.methodLink RcS 142 yC_forget ∈ wA := wA_m (tb_3 (List.mem_of_getElem? (i := 114) rfl)) rfl
theorem kw_S_142 (hA : ∀ w ∈ wA, w.before args s = true) (hrc : rm.cells = mc) (hrs : rm.slots = ms) (hR : rm.frames + 1 ≤ R.frames ∧ 8 + (2 + 11) + rm.locals ≤ R.locals) : CallW R s args RcS RcC 142 yC_forget bC_forget 2 none (wC_forget :: wA) rm mc ms 0 :=
  cwV 0 hA (gdV ml_S_142 (wA_m (tb_1 (List.mem_of_getElem? (i := 211) rfl)) rfl) (wA_m (tb_1 (List.mem_of_getElem? (i := 212) rfl)) rfl) ini_C mc_C_forget) rfl hrc hrs ⟨rfl, dm_C_forget⟩ hR
theorem ml_S_145 : Cond.methodLink RcS 145 yC_begin ∈ wA := wA_m (tb_3 (List.mem_of_getElem? (i := 115) rfl)) rfl
theorem kw_S_145 (hA : ∀ w ∈ wA, w.before args s = true) (hrc : rm.cells = mc) (hrs : rm.slots = ms) (hR : rm.frames + 1 ≤ R.frames ∧ 8 + (2 + 11) + rm.locals ≤ R.locals) : CallW R s args RcS RcC 145 yC_begin bC_begin 2 none (wC_begin :: wA) rm mc ms 1 :=
  cwV 1 hA (gdV ml_S_145 (wA_m (tb_2 (List.mem_of_getElem? (i := 62) rfl)) rfl) (wA_m (tb_2 (List.mem_of_getElem? (i := 63) rfl)) rfl) ini_C mc_C_begin) rfl hrc hrs ⟨rfl, dm_C_begin⟩ hR
theorem ml_S_148 : Cond.methodLink RcS 148 yC_hear ∈ wA := wA_m (tb_3 (List.mem_of_getElem? (i := 116) rfl)) rfl
theorem kw_S_148 (hA : ∀ w ∈ wA, w.before args s = true) (hrc : rm.cells = mc) (hrs : rm.slots = ms) (hR : rm.frames + 1 ≤ R.frames ∧ 8 + (7 + 11) + rm.locals ≤ R.locals) : CallW R s args RcS RcC 148 yC_hear bC_hear 7 none (wC_hear :: wA) rm mc ms 1 :=
  cwV 1 hA (gdV ml_S_148 (wA_m (tb_2 (List.mem_of_getElem? (i := 42) rfl)) rfl) (wA_m (tb_2 (List.mem_of_getElem? (i := 43) rfl)) rfl) ini_C mc_C_hear) rfl hrc hrs ⟨rfl, dm_C_hear⟩ hR
theorem ml_S_151 : Cond.methodLink RcS 151 yC_saturate ∈ wA := wA_m (tb_3 (List.mem_of_getElem? (i := 117) rfl)) rfl
theorem kw_S_151 (hA : ∀ w ∈ wA, w.before args s = true) (hrc : rm.cells = mc) (hrs : rm.slots = ms) (hR : rm.frames + 1 ≤ R.frames ∧ 8 + (6 + 11) + rm.locals ≤ R.locals) : CallW R s args RcS RcC 151 yC_saturate bC_saturate 6 none (wC_saturate :: wA) rm mc ms 0 :=
  cwV 0 hA (gdV ml_S_151 (wA_m (tb_2 (List.mem_of_getElem? (i := 66) rfl)) rfl) (wA_m (tb_2 (List.mem_of_getElem? (i := 67) rfl)) rfl) ini_C mc_C_saturate) rfl hrc hrs ⟨rfl, dm_C_saturate⟩ hR
theorem ml_L_123 : Cond.methodLink RcL 123 yL_has ∈ wA := wA_m (tb_3 (List.mem_of_getElem? (i := 118) rfl)) rfl
theorem ml_L_54 : Cond.methodLink RcL 54 yS_has ∈ wA := wA_m (tb_3 (List.mem_of_getElem? (i := 121) rfl)) rfl
theorem kw_L_54 (hA : ∀ w ∈ wA, w.before args s = true) (hrc : rm.cells = mc) (hrs : rm.slots = ms) (hR : rm.frames + 1 ≤ R.frames ∧ 8 + (4 + 11) + rm.locals ≤ R.locals) : CallW R s args RcL RcS 54 yS_has bS_has 4 (some .boolean) (wS_has :: wA) rm mc ms 3 :=
  cwV 3 hA (gdV ml_L_54 (wA_m (tb_3 (List.mem_of_getElem? (i := 122) rfl)) rfl) (wA_m (tb_3 (List.mem_of_getElem? (i := 123) rfl)) rfl) ini_S mc_S_has) rfl hrc hrs ⟨rfl, dm_S_has⟩ hR
theorem ml_S_109 : Cond.methodLink RcS 109 yC_reaches ∈ wA := wA_m (tb_3 (List.mem_of_getElem? (i := 125) rfl)) rfl
theorem kw_S_109 (hA : ∀ w ∈ wA, w.before args s = true) (hrc : rm.cells = mc) (hrs : rm.slots = ms) (hR : rm.frames + 1 ≤ R.frames ∧ 8 + (6 + 11) + rm.locals ≤ R.locals) : CallW R s args RcS RcC 109 yC_reaches bC_reaches 6 (some .boolean) (wC_reaches :: wA) rm mc ms 3 :=
  cwV 3 hA (gdV ml_S_109 (wA_m (tb_3 (List.mem_of_getElem? (i := 126) rfl)) rfl) (wA_m (tb_3 (List.mem_of_getElem? (i := 127) rfl)) rfl) ini_C mc_C_reaches) rfl hrc hrs ⟨rfl, dm_C_reaches⟩ hR
theorem ml_L_61 : Cond.methodLink RcL 61 yM_init ∈ wA := wA_m (tb_3 (List.mem_of_getElem? (i := 131) rfl)) rfl
theorem kw_L_61 (hA : ∀ w ∈ wA, w.before args s = true) (hrc : rm.cells = mc) (hrs : rm.slots = ms) (hR : rm.frames + 1 ≤ R.frames ∧ 8 + (1 + 11) + rm.locals ≤ R.locals) : CallB R s args RcL 61 yM_init bM_init 1 none (wM_init :: wA) rm mc ms 0 ∧ yM_init.name = "<init>" ∧ (Cond.instanceMethod yM_init).before args s = true :=
  cwI 0 hA (gdC mc_M_init) rfl hrc hrs (hA _ ini_M) (hA _ ml_L_61) (hA _ (wA_m (tb_3 (List.mem_of_getElem? (i := 132) rfl)) rfl)) rfl dm_M_init hR
theorem ml_L_73 : Cond.methodLink RcL 73 yM_thrown ∈ wA := wA_m (tb_3 (List.mem_of_getElem? (i := 193) rfl)) rfl
theorem kw_L_73 (hA : ∀ w ∈ wA, w.before args s = true) (hrc : rm.cells = mc) (hrs : rm.slots = ms) (hR : rm.frames + 1 ≤ R.frames ∧ 8 + (1 + 11) + rm.locals ≤ R.locals) : CallW R s args RcL RcM 73 yM_thrown bM_thrown 1 (some .int) (wM_thrown :: wA) rm mc ms 0 :=
  cwV 0 hA (gdV ml_L_73 (wA_m (tb_3 (List.mem_of_getElem? (i := 194) rfl)) rfl) (wA_m (tb_3 (List.mem_of_getElem? (i := 195) rfl)) rfl) ini_M mc_M_thrown) rfl hrc hrs ⟨rfl, dm_M_thrown⟩ hR
theorem ml_L_66 : Cond.methodLink RcL 66 yM_name ∈ wA := wA_m (tb_3 (List.mem_of_getElem? (i := 197) rfl)) rfl
theorem kw_L_66 (hA : ∀ w ∈ wA, w.before args s = true) (hrc : rm.cells = mc) (hrs : rm.slots = ms) (hR : rm.frames + 1 ≤ R.frames ∧ 8 + (1 + 11) + rm.locals ≤ R.locals) : CallW R s args RcL RcM 66 yM_name bM_name 1 (some .int) (wM_name :: wA) rm mc ms 0 :=
  cwV 0 hA (gdV ml_L_66 (wA_m (tb_3 (List.mem_of_getElem? (i := 198) rfl)) rfl) (wA_m (tb_3 (List.mem_of_getElem? (i := 199) rfl)) rfl) ini_M mc_M_name) rfl hrc hrs ⟨rfl, dm_M_name⟩ hR
theorem ml_M_62 : Cond.methodLink RcM 62 yM_made ∈ wA := wA_m (tb_3 (List.mem_of_getElem? (i := 201) rfl)) rfl
theorem kw_M_62 (hA : ∀ w ∈ wA, w.before args s = true) (hrc : rm.cells = mc) (hrs : rm.slots = ms) (hR : rm.frames + 1 ≤ R.frames ∧ 8 + (5 + 11) + rm.locals ≤ R.locals) : CallW R s args RcM RcM 62 yM_made bM_made 5 (some .int) (wM_made :: wA) rm mc ms 3 :=
  cwV 3 hA (gdV ml_M_62 (wA_m (tb_3 (List.mem_of_getElem? (i := 203) rfl)) rfl) (wA_m (tb_p2 (List.mem_of_getElem? (i := 7) rfl)) rfl) ini_M mc_M_made) rfl hrc hrs ⟨rfl, dm_M_made⟩ hR
theorem ml_L_72 : Cond.methodLink RcL 72 yM_both ∈ wA := wA_m (tb_3 (List.mem_of_getElem? (i := 205) rfl)) rfl
theorem kw_L_72 (hA : ∀ w ∈ wA, w.before args s = true) (hrc : rm.cells = mc) (hrs : rm.slots = ms) (hR : rm.frames + 1 ≤ R.frames ∧ 8 + (3 + 11) + rm.locals ≤ R.locals) : CallW R s args RcL RcM 72 yM_both bM_both 3 (some .int) (wM_both :: wA) rm mc ms 2 :=
  cwV 2 hA (gdV ml_L_72 (wA_m (tb_3 (List.mem_of_getElem? (i := 206) rfl)) rfl) (wA_m (tb_3 (List.mem_of_getElem? (i := 207) rfl)) rfl) ini_M mc_M_both) rfl hrc hrs ⟨rfl, dm_M_both⟩ hR
theorem ml_M_66 : Cond.methodLink RcM 66 yM_isThere ∈ wA := wA_m (tb_3 (List.mem_of_getElem? (i := 209) rfl)) rfl
theorem kw_M_66 (hA : ∀ w ∈ wA, w.before args s = true) (hrc : rm.cells = mc) (hrs : rm.slots = ms) (hR : rm.frames + 1 ≤ R.frames ∧ 8 + (2 + 11) + rm.locals ≤ R.locals) : CallW R s args RcM RcM 66 yM_isThere bM_isThere 2 (some .boolean) (wM_isThere :: wA) rm mc ms 1 :=
  cwV 1 hA (gdV ml_M_66 (wA_m (tb_3 (List.mem_of_getElem? (i := 211) rfl)) rfl) (wA_m (tb_p2 (List.mem_of_getElem? (i := 8) rfl)) rfl) ini_M mc_M_isThere) rfl hrc hrs ⟨rfl, dm_M_isThere⟩ hR
theorem ml_M_70 : Cond.methodLink RcM 70 yM_fails ∈ wA := wA_m (tb_3 (List.mem_of_getElem? (i := 213) rfl)) rfl
theorem kw_M_70 (hA : ∀ w ∈ wA, w.before args s = true) (hrc : rm.cells = mc) (hrs : rm.slots = ms) (hR : rm.frames + 1 ≤ R.frames ∧ 8 + (2 + 11) + rm.locals ≤ R.locals) : CallW R s args RcM RcM 70 yM_fails bM_fails 2 (some .boolean) (wM_fails :: wA) rm mc ms 1 :=
  cwV 1 hA (gdV ml_M_70 (wA_m (tb_3 (List.mem_of_getElem? (i := 215) rfl)) rfl) (wA_m (tb_p2 (List.mem_of_getElem? (i := 9) rfl)) rfl) ini_M mc_M_fails) rfl hrc hrs ⟨rfl, dm_M_fails⟩ hR
theorem ml_L_78 : Cond.methodLink RcL 78 yM_some ∈ wA := wA_m (tb_3 (List.mem_of_getElem? (i := 217) rfl)) rfl
theorem kw_L_78 (hA : ∀ w ∈ wA, w.before args s = true) (hrc : rm.cells = mc) (hrs : rm.slots = ms) (hR : rm.frames + 1 ≤ R.frames ∧ 8 + (3 + 11) + rm.locals ≤ R.locals) : CallW R s args RcL RcM 78 yM_some bM_some 3 (some .int) (wM_some :: wA) rm mc ms 2 :=
  cwV 2 hA (gdV ml_L_78 (wA_m (tb_3 (List.mem_of_getElem? (i := 218) rfl)) rfl) (wA_m (tb_3 (List.mem_of_getElem? (i := 219) rfl)) rfl) ini_M mc_M_some) rfl hrc hrs ⟨rfl, dm_M_some⟩ hR
theorem ml_M_74 : Cond.methodLink RcM 74 yM_isRole ∈ wA := wA_m (tb_3 (List.mem_of_getElem? (i := 221) rfl)) rfl
theorem kw_M_74 (hA : ∀ w ∈ wA, w.before args s = true) (hrc : rm.cells = mc) (hrs : rm.slots = ms) (hR : rm.frames + 1 ≤ R.frames ∧ 8 + (1 + 11) + rm.locals ≤ R.locals) : CallB R s args RcM 74 yM_isRole bM_isRole 1 (some .boolean) (wM_isRole :: wA) rm mc ms 1 ∧ (Cond.static yM_isRole).before args s = true :=
  cwS 1 hA (gdS ml_M_74 (wA_m (tb_3 (List.mem_of_getElem? (i := 222) rfl)) rfl) ini_M mc_M_isRole) rfl hrc hrs ⟨rfl, dm_M_isRole⟩ hR
theorem ml_L_81 : Cond.methodLink RcL 81 yM_below ∈ wA := wA_m (tb_3 (List.mem_of_getElem? (i := 224) rfl)) rfl
theorem kw_L_81 (hA : ∀ w ∈ wA, w.before args s = true) (hrc : rm.cells = mc) (hrs : rm.slots = ms) (hR : rm.frames + 1 ≤ R.frames ∧ 8 + (3 + 11) + rm.locals ≤ R.locals) : CallW R s args RcL RcM 81 yM_below bM_below 3 (some .int) (wM_below :: wA) rm mc ms 2 :=
  cwV 2 hA (gdV ml_L_81 (wA_m (tb_3 (List.mem_of_getElem? (i := 225) rfl)) rfl) (wA_m (tb_3 (List.mem_of_getElem? (i := 226) rfl)) rfl) ini_M mc_M_below) rfl hrc hrs ⟨rfl, dm_M_below⟩ hR
theorem ml_M_80 : Cond.methodLink RcM 80 yM_axiom ∈ wA := wA_m (tb_3 (List.mem_of_getElem? (i := 228) rfl)) rfl
theorem kw_M_80 (hA : ∀ w ∈ wA, w.before args s = true) (hrc : rm.cells = mc) (hrs : rm.slots = ms) (hR : rm.frames + 1 ≤ R.frames ∧ 8 + (5 + 11) + rm.locals ≤ R.locals) : CallW R s args RcM RcM 80 yM_axiom bM_axiom 5 (some .int) (wM_axiom :: wA) rm mc ms 4 :=
  cwV 4 hA (gdV ml_M_80 (wA_m (tb_3 (List.mem_of_getElem? (i := 230) rfl)) rfl) (wA_m (tb_p2 (List.mem_of_getElem? (i := 10) rfl)) rfl) ini_M mc_M_axiom) rfl hrc hrs ⟨rfl, dm_M_axiom⟩ hR
theorem ml_L_84 : Cond.methodLink RcL 84 yM_equal ∈ wA := wA_m (tb_3 (List.mem_of_getElem? (i := 232) rfl)) rfl
theorem kw_L_84 (hA : ∀ w ∈ wA, w.before args s = true) (hrc : rm.cells = mc) (hrs : rm.slots = ms) (hR : rm.frames + 1 ≤ R.frames ∧ 8 + (3 + 11) + rm.locals ≤ R.locals) : CallW R s args RcL RcM 84 yM_equal bM_equal 3 (some .int) (wM_equal :: wA) rm mc ms 2 :=
  cwV 2 hA (gdV ml_L_84 (wA_m (tb_3 (List.mem_of_getElem? (i := 233) rfl)) rfl) (wA_m (tb_3 (List.mem_of_getElem? (i := 234) rfl)) rfl) ini_M mc_M_equal) rfl hrc hrs ⟨rfl, dm_M_equal⟩ hR
theorem ml_L_87 : Cond.methodLink RcL 87 yM_roleBelow ∈ wA := wA_m (tb_3 (List.mem_of_getElem? (i := 236) rfl)) rfl
theorem kw_L_87 (hA : ∀ w ∈ wA, w.before args s = true) (hrc : rm.cells = mc) (hrs : rm.slots = ms) (hR : rm.frames + 1 ≤ R.frames ∧ 8 + (3 + 11) + rm.locals ≤ R.locals) : CallW R s args RcL RcM 87 yM_roleBelow bM_roleBelow 3 (some .int) (wM_roleBelow :: wA) rm mc ms 2 :=
  cwV 2 hA (gdV ml_L_87 (wA_m (tb_3 (List.mem_of_getElem? (i := 237) rfl)) rfl) (wA_m (tb_3 (List.mem_of_getElem? (i := 238) rfl)) rfl) ini_M mc_M_roleBelow) rfl hrc hrs ⟨rfl, dm_M_roleBelow⟩ hR
theorem ml_L_91 : Cond.methodLink RcL 91 yM_chain ∈ wA := wA_m (tb_4 (List.mem_of_getElem? (i := 0) rfl)) rfl
theorem kw_L_91 (hA : ∀ w ∈ wA, w.before args s = true) (hrc : rm.cells = mc) (hrs : rm.slots = ms) (hR : rm.frames + 1 ≤ R.frames ∧ 8 + (4 + 11) + rm.locals ≤ R.locals) : CallW R s args RcL RcM 91 yM_chain bM_chain 4 (some .int) (wM_chain :: wA) rm mc ms 3 :=
  cwV 3 hA (gdV ml_L_91 (wA_m (tb_4 (List.mem_of_getElem? (i := 1) rfl)) rfl) (wA_m (tb_4 (List.mem_of_getElem? (i := 2) rfl)) rfl) ini_M mc_M_chain) rfl hrc hrs ⟨rfl, dm_M_chain⟩ hR
theorem ml_L_96 : Cond.methodLink RcL 96 yM_retract ∈ wA := wA_m (tb_4 (List.mem_of_getElem? (i := 4) rfl)) rfl
theorem kw_L_96 (hA : ∀ w ∈ wA, w.before args s = true) (hrc : rm.cells = mc) (hrs : rm.slots = ms) (hR : rm.frames + 1 ≤ R.frames ∧ 8 + (2 + 11) + rm.locals ≤ R.locals) : CallW R s args RcL RcM 96 yM_retract bM_retract 2 (some .boolean) (wM_retract :: wA) rm mc ms 1 :=
  cwV 1 hA (gdV ml_L_96 (wA_m (tb_4 (List.mem_of_getElem? (i := 5) rfl)) rfl) (wA_m (tb_4 (List.mem_of_getElem? (i := 6) rfl)) rfl) ini_M mc_M_retract) rfl hrc hrs ⟨rfl, dm_M_retract⟩ hR
theorem ml_L_99 : Cond.methodLink RcL 99 yM_isBelow ∈ wA := wA_m (tb_4 (List.mem_of_getElem? (i := 8) rfl)) rfl
theorem kw_L_99 (hA : ∀ w ∈ wA, w.before args s = true) (hrc : rm.cells = mc) (hrs : rm.slots = ms) (hR : rm.frames + 1 ≤ R.frames ∧ 8 + (3 + 11) + rm.locals ≤ R.locals) : CallW R s args RcL RcM 99 yM_isBelow bM_isBelow 3 (some .boolean) (wM_isBelow :: wA) rm mc ms 2 :=
  cwV 2 hA (gdV ml_L_99 (wA_m (tb_4 (List.mem_of_getElem? (i := 9) rfl)) rfl) (wA_m (tb_4 (List.mem_of_getElem? (i := 10) rfl)) rfl) ini_M mc_M_isBelow) rfl hrc hrs ⟨rfl, dm_M_isBelow⟩ hR
theorem ml_M_127 : Cond.methodLink RcM 127 yM_close ∈ wA := wA_m (tb_4 (List.mem_of_getElem? (i := 12) rfl)) rfl
theorem kw_M_127 (hA : ∀ w ∈ wA, w.before args s = true) (hrc : rm.cells = mc) (hrs : rm.slots = ms) (hR : rm.frames + 1 ≤ R.frames ∧ 8 + (2 + 11) + rm.locals ≤ R.locals) : CallW R s args RcM RcM 127 yM_close bM_close 2 none (wM_close :: wA) rm mc ms 0 :=
  cwV 0 hA (gdV ml_M_127 (wA_m (tb_4 (List.mem_of_getElem? (i := 14) rfl)) rfl) (wA_m (tb_p2 (List.mem_of_getElem? (i := 11) rfl)) rfl) ini_M mc_M_close) rfl hrc hrs ⟨rfl, dm_M_close⟩ hR
theorem ml_M_124 : Cond.methodLink RcM 124 yM_follow ∈ wA := wA_m (tb_4 (List.mem_of_getElem? (i := 16) rfl)) rfl
theorem kw_M_124 (hA : ∀ w ∈ wA, w.before args s = true) (hrc : rm.cells = mc) (hrs : rm.slots = ms) (hR : rm.frames + 1 ≤ R.frames ∧ 8 + (4 + 11) + rm.locals ≤ R.locals) : CallW R s args RcM RcM 124 yM_follow bM_follow 4 none (wM_follow :: wA) rm mc ms 2 :=
  cwV 2 hA (gdV ml_M_124 (wA_m (tb_4 (List.mem_of_getElem? (i := 18) rfl)) rfl) (wA_m (tb_p2 (List.mem_of_getElem? (i := 12) rfl)) rfl) ini_M mc_M_follow) rfl hrc hrs ⟨rfl, dm_M_follow⟩ hR
theorem ml_M_107 : Cond.methodLink RcM 107 yM_add ∈ wA := wA_m (tb_4 (List.mem_of_getElem? (i := 20) rfl)) rfl
theorem kw_M_107 (hA : ∀ w ∈ wA, w.before args s = true) (hrc : rm.cells = mc) (hrs : rm.slots = ms) (hR : rm.frames + 1 ≤ R.frames ∧ 8 + (3 + 11) + rm.locals ≤ R.locals) : CallW R s args RcM RcM 107 yM_add bM_add 3 none (wM_add :: wA) rm mc ms 2 :=
  cwV 2 hA (gdV ml_M_107 (wA_m (tb_4 (List.mem_of_getElem? (i := 22) rfl)) rfl) (wA_m (tb_p2 (List.mem_of_getElem? (i := 13) rfl)) rfl) ini_M mc_M_add) rfl hrc hrs ⟨rfl, dm_M_add⟩ hR
theorem ml_M_84 : Cond.methodLink RcM 84 yM_in ∈ wA := wA_m (tb_4 (List.mem_of_getElem? (i := 24) rfl)) rfl
theorem kw_M_84 (hA : ∀ w ∈ wA, w.before args s = true) (hrc : rm.cells = mc) (hrs : rm.slots = ms) (hR : rm.frames + 1 ≤ R.frames ∧ 8 + (3 + 11) + rm.locals ≤ R.locals) : CallB R s args RcM 84 yM_in bM_in 3 (some .boolean) (wM_in :: wA) rm mc ms 3 ∧ (Cond.static yM_in).before args s = true :=
  cwS 3 hA (gdS ml_M_84 (wA_m (tb_4 (List.mem_of_getElem? (i := 25) rfl)) rfl) ini_M mc_M_in) rfl hrc hrs ⟨rfl, dm_M_in⟩ hR
theorem ml_M_88 : Cond.methodLink RcM 88 yM_set ∈ wA := wA_m (tb_4 (List.mem_of_getElem? (i := 27) rfl)) rfl
theorem kw_M_88 (hA : ∀ w ∈ wA, w.before args s = true) (hrc : rm.cells = mc) (hrs : rm.slots = ms) (hR : rm.frames + 1 ≤ R.frames ∧ 8 + (3 + 11) + rm.locals ≤ R.locals) : CallB R s args RcM 88 yM_set bM_set 3 none (wM_set :: wA) rm mc ms 3 ∧ (Cond.static yM_set).before args s = true :=
  cwS 3 hA (gdS ml_M_88 (wA_m (tb_4 (List.mem_of_getElem? (i := 28) rfl)) rfl) ini_M mc_M_set) rfl hrc hrs ⟨rfl, dm_M_set⟩ hR
theorem ml_M_114 : Cond.methodLink RcM 114 yM_byAxioms ∈ wA := wA_m (tb_4 (List.mem_of_getElem? (i := 30) rfl)) rfl
theorem kw_M_114 (hA : ∀ w ∈ wA, w.before args s = true) (hrc : rm.cells = mc) (hrs : rm.slots = ms) (hR : rm.frames + 1 ≤ R.frames ∧ 8 + (5 + 11) + rm.locals ≤ R.locals) : CallW R s args RcM RcM 114 yM_byAxioms bM_byAxioms 5 none (wM_byAxioms :: wA) rm mc ms 1 :=
  cwV 1 hA (gdV ml_M_114 (wA_m (tb_4 (List.mem_of_getElem? (i := 32) rfl)) rfl) (wA_m (tb_p2 (List.mem_of_getElem? (i := 14) rfl)) rfl) ini_M mc_M_byAxioms) rfl hrc hrs ⟨rfl, dm_M_byAxioms⟩ hR
theorem ml_M_95 : Cond.methodLink RcM 95 yM_row ∈ wA := wA_m (tb_4 (List.mem_of_getElem? (i := 34) rfl)) rfl
theorem kw_M_95 (hA : ∀ w ∈ wA, w.before args s = true) (hrc : rm.cells = mc) (hrs : rm.slots = ms) (hR : rm.frames + 1 ≤ R.frames ∧ 8 + (2 + 11) + rm.locals ≤ R.locals) : CallB R s args RcM 95 yM_row bM_row 2 (some .int) (wM_row :: wA) rm mc ms 2 ∧ (Cond.static yM_row).before args s = true :=
  cwS 2 hA (gdS ml_M_95 (wA_m (tb_4 (List.mem_of_getElem? (i := 35) rfl)) rfl) ini_M mc_M_row) rfl hrc hrs ⟨rfl, dm_M_row⟩ hR
theorem ml_M_99 : Cond.methodLink RcM 99 yM_join ∈ wA := wA_m (tb_4 (List.mem_of_getElem? (i := 37) rfl)) rfl
theorem kw_M_99 (hA : ∀ w ∈ wA, w.before args s = true) (hrc : rm.cells = mc) (hrs : rm.slots = ms) (hR : rm.frames + 1 ≤ R.frames ∧ 8 + (6 + 11) + rm.locals ≤ R.locals) : CallW R s args RcM RcM 99 yM_join bM_join 6 none (wM_join :: wA) rm mc ms 2 :=
  cwV 2 hA (gdV ml_M_99 (wA_m (tb_4 (List.mem_of_getElem? (i := 39) rfl)) rfl) (wA_m (tb_p2 (List.mem_of_getElem? (i := 15) rfl)) rfl) ini_M mc_M_join) rfl hrc hrs ⟨rfl, dm_M_join⟩ hR
theorem ml_M_103 : Cond.methodLink RcM 103 yM_byChain ∈ wA := wA_m (tb_4 (List.mem_of_getElem? (i := 41) rfl)) rfl
theorem kw_M_103 (hA : ∀ w ∈ wA, w.before args s = true) (hrc : rm.cells = mc) (hrs : rm.slots = ms) (hR : rm.frames + 1 ≤ R.frames ∧ 8 + (6 + 11) + rm.locals ≤ R.locals) : CallW R s args RcM RcM 103 yM_byChain bM_byChain 6 none (wM_byChain :: wA) rm mc ms 4 :=
  cwV 4 hA (gdV ml_M_103 (wA_m (tb_4 (List.mem_of_getElem? (i := 43) rfl)) rfl) (wA_m (tb_p3 (List.mem_of_getElem? (i := 0) rfl)) rfl) ini_M mc_M_byChain) rfl hrc hrs ⟨rfl, dm_M_byChain⟩ hR
theorem ml_M_118 : Cond.methodLink RcM 118 yM_byDescriptions ∈ wA := wA_m (tb_4 (List.mem_of_getElem? (i := 45) rfl)) rfl
theorem kw_M_118 (hA : ∀ w ∈ wA, w.before args s = true) (hrc : rm.cells = mc) (hrs : rm.slots = ms) (hR : rm.frames + 1 ≤ R.frames ∧ 8 + (5 + 11) + rm.locals ≤ R.locals) : CallW R s args RcM RcM 118 yM_byDescriptions bM_byDescriptions 5 none (wM_byDescriptions :: wA) rm mc ms 1 :=
  cwV 1 hA (gdV ml_M_118 (wA_m (tb_4 (List.mem_of_getElem? (i := 47) rfl)) rfl) (wA_m (tb_p3 (List.mem_of_getElem? (i := 1) rfl)) rfl) ini_M mc_M_byDescriptions) rfl hrc hrs ⟨rfl, dm_M_byDescriptions⟩ hR
theorem ml_M_110 : Cond.methodLink RcM 110 yM_meets ∈ wA := wA_m (tb_4 (List.mem_of_getElem? (i := 49) rfl)) rfl
theorem kw_M_110 (hA : ∀ w ∈ wA, w.before args s = true) (hrc : rm.cells = mc) (hrs : rm.slots = ms) (hR : rm.frames + 1 ≤ R.frames ∧ 8 + (7 + 11) + rm.locals ≤ R.locals) : CallW R s args RcM RcM 110 yM_meets bM_meets 7 (some .boolean) (wM_meets :: wA) rm mc ms 3 :=
  cwV 3 hA (gdV ml_M_110 (wA_m (tb_4 (List.mem_of_getElem? (i := 51) rfl)) rfl) (wA_m (tb_p3 (List.mem_of_getElem? (i := 2) rfl)) rfl) ini_M mc_M_meets) rfl hrc hrs ⟨rfl, dm_M_meets⟩ hR
theorem ml_M_121 : Cond.methodLink RcM 121 yM_byNothing ∈ wA := wA_m (tb_4 (List.mem_of_getElem? (i := 53) rfl)) rfl
theorem kw_M_121 (hA : ∀ w ∈ wA, w.before args s = true) (hrc : rm.cells = mc) (hrs : rm.slots = ms) (hR : rm.frames + 1 ≤ R.frames ∧ 8 + (3 + 11) + rm.locals ≤ R.locals) : CallW R s args RcM RcM 121 yM_byNothing bM_byNothing 3 none (wM_byNothing :: wA) rm mc ms 1 :=
  cwV 1 hA (gdV ml_M_121 (wA_m (tb_4 (List.mem_of_getElem? (i := 55) rfl)) rfl) (wA_m (tb_p3 (List.mem_of_getElem? (i := 3) rfl)) rfl) ini_M mc_M_byNothing) rfl hrc hrs ⟨rfl, dm_M_byNothing⟩ hR
theorem ml_L_103 : Cond.methodLink RcL 103 yM_supers ∈ wA := wA_m (tb_4 (List.mem_of_getElem? (i := 57) rfl)) rfl
theorem kw_L_103 (hA : ∀ w ∈ wA, w.before args s = true) (hrc : rm.cells = mc) (hrs : rm.slots = ms) (hR : rm.frames + 1 ≤ R.frames ∧ 8 + (4 + 11) + rm.locals ≤ R.locals) : CallW R s args RcL RcM 103 yM_supers bM_supers 4 (some .int) (wM_supers :: wA) rm mc ms 1 :=
  cwV 1 hA (gdV ml_L_103 (wA_m (tb_4 (List.mem_of_getElem? (i := 58) rfl)) rfl) (wA_m (tb_4 (List.mem_of_getElem? (i := 59) rfl)) rfl) ini_M mc_M_supers) rfl hrc hrs ⟨rfl, dm_M_supers⟩ hR
theorem ml_L_106 : Cond.methodLink RcL 106 yM_sup ∈ wA := wA_m (tb_4 (List.mem_of_getElem? (i := 61) rfl)) rfl
theorem kw_L_106 (hA : ∀ w ∈ wA, w.before args s = true) (hrc : rm.cells = mc) (hrs : rm.slots = ms) (hR : rm.frames + 1 ≤ R.frames ∧ 8 + (5 + 11) + rm.locals ≤ R.locals) : CallW R s args RcL RcM 106 yM_sup bM_sup 5 (some .int) (wM_sup :: wA) rm mc ms 2 :=
  cwV 2 hA (gdV ml_L_106 (wA_m (tb_4 (List.mem_of_getElem? (i := 62) rfl)) rfl) (wA_m (tb_4 (List.mem_of_getElem? (i := 63) rfl)) rfl) ini_M mc_M_sup) rfl hrc hrs ⟨rfl, dm_M_sup⟩ hR
theorem ml_L_109 : Cond.methodLink RcL 109 yM_direct ∈ wA := wA_m (tb_4 (List.mem_of_getElem? (i := 65) rfl)) rfl
theorem kw_L_109 (hA : ∀ w ∈ wA, w.before args s = true) (hrc : rm.cells = mc) (hrs : rm.slots = ms) (hR : rm.frames + 1 ≤ R.frames ∧ 8 + (5 + 11) + rm.locals ≤ R.locals) : CallW R s args RcL RcM 109 yM_direct bM_direct 5 (some .boolean) (wM_direct :: wA) rm mc ms 2 :=
  cwV 2 hA (gdV ml_L_109 (wA_m (tb_4 (List.mem_of_getElem? (i := 66) rfl)) rfl) (wA_m (tb_4 (List.mem_of_getElem? (i := 67) rfl)) rfl) ini_M mc_M_direct) rfl hrc hrs ⟨rfl, dm_M_direct⟩ hR
theorem ml_M_130 : Cond.methodLink RcM 130 yM_strictly ∈ wA := wA_m (tb_4 (List.mem_of_getElem? (i := 69) rfl)) rfl
theorem kw_M_130 (hA : ∀ w ∈ wA, w.before args s = true) (hrc : rm.cells = mc) (hrs : rm.slots = ms) (hR : rm.frames + 1 ≤ R.frames ∧ 8 + (3 + 11) + rm.locals ≤ R.locals) : CallW R s args RcM RcM 130 yM_strictly bM_strictly 3 (some .boolean) (wM_strictly :: wA) rm mc ms 2 :=
  cwV 2 hA (gdV ml_M_130 (wA_m (tb_4 (List.mem_of_getElem? (i := 71) rfl)) rfl) (wA_m (tb_p3 (List.mem_of_getElem? (i := 4) rfl)) rfl) ini_M mc_M_strictly) rfl hrc hrs ⟨rfl, dm_M_strictly⟩ hR
theorem ml_L_112 : Cond.methodLink RcL 112 yM_twin ∈ wA := wA_m (tb_4 (List.mem_of_getElem? (i := 73) rfl)) rfl
theorem kw_L_112 (hA : ∀ w ∈ wA, w.before args s = true) (hrc : rm.cells = mc) (hrs : rm.slots = ms) (hR : rm.frames + 1 ≤ R.frames ∧ 8 + (2 + 11) + rm.locals ≤ R.locals) : CallW R s args RcL RcM 112 yM_twin bM_twin 2 (some .int) (wM_twin :: wA) rm mc ms 1 :=
  cwV 1 hA (gdV ml_L_112 (wA_m (tb_4 (List.mem_of_getElem? (i := 74) rfl)) rfl) (wA_m (tb_4 (List.mem_of_getElem? (i := 75) rfl)) rfl) ini_M mc_M_twin) rfl hrc hrs ⟨rfl, dm_M_twin⟩ hR
theorem ml_M_134 : Cond.methodLink RcM 134 yM_least ∈ wA := wA_m (tb_4 (List.mem_of_getElem? (i := 77) rfl)) rfl
theorem kw_M_134 (hA : ∀ w ∈ wA, w.before args s = true) (hrc : rm.cells = mc) (hrs : rm.slots = ms) (hR : rm.frames + 1 ≤ R.frames ∧ 8 + (3 + 11) + rm.locals ≤ R.locals) : CallW R s args RcM RcM 134 yM_least bM_least 3 (some .int) (wM_least :: wA) rm mc ms 1 :=
  cwV 1 hA (gdV ml_M_134 (wA_m (tb_4 (List.mem_of_getElem? (i := 79) rfl)) rfl) (wA_m (tb_p3 (List.mem_of_getElem? (i := 5) rfl)) rfl) ini_M mc_M_least) rfl hrc hrs ⟨rfl, dm_M_least⟩ hR
theorem ml_L_115 : Cond.methodLink RcL 115 yM_common ∈ wA := wA_m (tb_4 (List.mem_of_getElem? (i := 81) rfl)) rfl
theorem kw_L_115 (hA : ∀ w ∈ wA, w.before args s = true) (hrc : rm.cells = mc) (hrs : rm.slots = ms) (hR : rm.frames + 1 ≤ R.frames ∧ 8 + (9 + 11) + rm.locals ≤ R.locals) : CallW R s args RcL RcM 115 yM_common bM_common 9 (some .int) (wM_common :: wA) rm mc ms 3 :=
  cwV 3 hA (gdV ml_L_115 (wA_m (tb_4 (List.mem_of_getElem? (i := 82) rfl)) rfl) (wA_m (tb_4 (List.mem_of_getElem? (i := 83) rfl)) rfl) ini_M mc_M_common) rfl hrc hrs ⟨rfl, dm_M_common⟩ hR
theorem ml_M_138 : Cond.methodLink RcM 138 yM_isCommon ∈ wA := wA_m (tb_4 (List.mem_of_getElem? (i := 85) rfl)) rfl
theorem kw_M_138 (hA : ∀ w ∈ wA, w.before args s = true) (hrc : rm.cells = mc) (hrs : rm.slots = ms) (hR : rm.frames + 1 ≤ R.frames ∧ 8 + (4 + 11) + rm.locals ≤ R.locals) : CallW R s args RcM RcM 138 yM_isCommon bM_isCommon 4 (some .boolean) (wM_isCommon :: wA) rm mc ms 3 :=
  cwV 3 hA (gdV ml_M_138 (wA_m (tb_4 (List.mem_of_getElem? (i := 87) rfl)) rfl) (wA_m (tb_p3 (List.mem_of_getElem? (i := 6) rfl)) rfl) ini_M mc_M_isCommon) rfl hrc hrs ⟨rfl, dm_M_isCommon⟩ hR
theorem ml_L_118 : Cond.methodLink RcL 118 yM_why ∈ wA := wA_m (tb_4 (List.mem_of_getElem? (i := 89) rfl)) rfl
theorem kw_L_118 (hA : ∀ w ∈ wA, w.before args s = true) (hrc : rm.cells = mc) (hrs : rm.slots = ms) (hR : rm.frames + 1 ≤ R.frames ∧ 8 + (4 + 11) + rm.locals ≤ R.locals) : CallW R s args RcL RcM 118 yM_why bM_why 4 (some .int) (wM_why :: wA) rm mc ms 2 :=
  cwV 2 hA (gdV ml_L_118 (wA_m (tb_4 (List.mem_of_getElem? (i := 90) rfl)) rfl) (wA_m (tb_4 (List.mem_of_getElem? (i := 91) rfl)) rfl) ini_M mc_M_why) rfl hrc hrs ⟨rfl, dm_M_why⟩ hR
theorem ml_L_122 : Cond.methodLink RcL 122 yM_reason ∈ wA := wA_m (tb_4 (List.mem_of_getElem? (i := 93) rfl)) rfl
theorem kw_L_122 (hA : ∀ w ∈ wA, w.before args s = true) (hrc : rm.cells = mc) (hrs : rm.slots = ms) (hR : rm.frames + 1 ≤ R.frames ∧ 8 + (2 + 11) + rm.locals ≤ R.locals) : CallW R s args RcL RcM 122 yM_reason bM_reason 2 (some .int) (wM_reason :: wA) rm mc ms 1 :=
  cwV 1 hA (gdV ml_L_122 (wA_m (tb_4 (List.mem_of_getElem? (i := 94) rfl)) rfl) (wA_m (tb_4 (List.mem_of_getElem? (i := 95) rfl)) rfl) ini_M mc_M_reason) rfl hrc hrs ⟨rfl, dm_M_reason⟩ hR
theorem ml_L_125 : Cond.methodLink RcL 125 yM_has ∈ wA := wA_m (tb_4 (List.mem_of_getElem? (i := 97) rfl)) rfl
theorem kw_L_125 (hA : ∀ w ∈ wA, w.before args s = true) (hrc : rm.cells = mc) (hrs : rm.slots = ms) (hR : rm.frames + 1 ≤ R.frames ∧ 8 + (4 + 11) + rm.locals ≤ R.locals) : CallW R s args RcL RcM 125 yM_has bM_has 4 (some .boolean) (wM_has :: wA) rm mc ms 3 :=
  cwV 3 hA (gdV ml_L_125 (wA_m (tb_4 (List.mem_of_getElem? (i := 98) rfl)) rfl) (wA_m (tb_4 (List.mem_of_getElem? (i := 99) rfl)) rfl) ini_M mc_M_has) rfl hrc hrs ⟨rfl, dm_M_has⟩ hR
theorem ml_L_129 : Cond.methodLink RcL 129 yM_count ∈ wA := wA_m (tb_4 (List.mem_of_getElem? (i := 101) rfl)) rfl
theorem kw_L_129 (hA : ∀ w ∈ wA, w.before args s = true) (hrc : rm.cells = mc) (hrs : rm.slots = ms) (hR : rm.frames + 1 ≤ R.frames ∧ 8 + (4 + 11) + rm.locals ≤ R.locals) : CallW R s args RcL RcM 129 yM_count bM_count 4 (some .int) (wM_count :: wA) rm mc ms 1 :=
  cwV 1 hA (gdV ml_L_129 (wA_m (tb_4 (List.mem_of_getElem? (i := 102) rfl)) rfl) (wA_m (tb_4 (List.mem_of_getElem? (i := 103) rfl)) rfl) ini_M mc_M_count) rfl hrc hrs ⟨rfl, dm_M_count⟩ hR
theorem ml_M_144 : Cond.methodLink RcM 144 yM_pairs ∈ wA := wA_m (tb_4 (List.mem_of_getElem? (i := 105) rfl)) rfl
theorem kw_M_144 (hA : ∀ w ∈ wA, w.before args s = true) (hrc : rm.cells = mc) (hrs : rm.slots = ms) (hR : rm.frames + 1 ≤ R.frames ∧ 8 + (4 + 11) + rm.locals ≤ R.locals) : CallW R s args RcM RcM 144 yM_pairs bM_pairs 4 (some .int) (wM_pairs :: wA) rm mc ms 0 :=
  cwV 0 hA (gdV ml_M_144 (wA_m (tb_4 (List.mem_of_getElem? (i := 107) rfl)) rfl) (wA_m (tb_p3 (List.mem_of_getElem? (i := 7) rfl)) rfl) ini_M mc_M_pairs) rfl hrc hrs ⟨rfl, dm_M_pairs⟩ hR
end NC
end
section
theorem dA_init_0 : decode bA_init 0 = .ok (.aload_n 0, 1) := by decide +kernel
theorem dA_init_1 : decode bA_init 1 = .ok (.invokespecial 3, 3) := by decide +kernel
theorem dA_init_4 : decode bA_init 4 = .ok (.aload_n 0, 1) := by decide +kernel
theorem dA_init_5 : decode bA_init 5 = .ok (.bipush 100, 2) := by decide +kernel
theorem dA_init_7 : decode bA_init 7 = .ok (.newarray .int, 2) := by decide +kernel
theorem dA_init_9 : decode bA_init 9 = .ok (.putfield 9, 3) := by decide +kernel
theorem dA_init_12 : decode bA_init 12 = .ok (.aload_n 0, 1) := by decide +kernel
theorem dA_init_13 : decode bA_init 13 = .ok (.bipush 100, 2) := by decide +kernel
theorem dA_init_15 : decode bA_init 15 = .ok (.newarray .int, 2) := by decide +kernel
theorem dA_init_17 : decode bA_init 17 = .ok (.putfield 15, 3) := by decide +kernel
theorem dA_init_20 : decode bA_init 20 = .ok (.aload_n 0, 1) := by decide +kernel
theorem dA_init_21 : decode bA_init 21 = .ok (.bipush 100, 2) := by decide +kernel
theorem dA_init_23 : decode bA_init 23 = .ok (.newarray .int, 2) := by decide +kernel
theorem dA_init_25 : decode bA_init 25 = .ok (.putfield 18, 3) := by decide +kernel
theorem dA_init_28 : decode bA_init 28 = .ok (.aload_n 0, 1) := by decide +kernel
theorem dA_init_29 : decode bA_init 29 = .ok (.bipush 100, 2) := by decide +kernel
theorem dA_init_31 : decode bA_init 31 = .ok (.newarray .int, 2) := by decide +kernel
theorem dA_init_33 : decode bA_init 33 = .ok (.putfield 21, 3) := by decide +kernel
theorem dA_init_36 : decode bA_init 36 = .ok (.aload_n 0, 1) := by decide +kernel
theorem dA_init_37 : decode bA_init 37 = .ok (.bipush 100, 2) := by decide +kernel
theorem dA_init_39 : decode bA_init 39 = .ok (.newarray .boolean, 2) := by decide +kernel
theorem dA_init_41 : decode bA_init 41 = .ok (.putfield 24, 3) := by decide +kernel
theorem dA_init_44 : decode bA_init 44 = .ok (.aload_n 0, 1) := by decide +kernel
theorem dA_init_45 : decode bA_init 45 = .ok (.iconst 0, 1) := by decide +kernel
theorem dA_init_46 : decode bA_init 46 = .ok (.putfield 28, 3) := by decide +kernel
theorem dA_init_49 : decode bA_init 49 = .ok (.aload_n 0, 1) := by decide +kernel
theorem dA_init_50 : decode bA_init 50 = .ok (.iconst 0, 1) := by decide +kernel
theorem dA_init_51 : decode bA_init 51 = .ok (.putfield 32, 3) := by decide +kernel
theorem dA_init_54 : decode bA_init 54 = .ok (.return_, 1) := by decide +kernel
theorem dA_told_0 : decode bA_told 0 = .ok (.aload_n 0, 1) := by decide +kernel
theorem dA_told_1 : decode bA_told 1 = .ok (.getfield 28, 3) := by decide +kernel
theorem dA_told_4 : decode bA_told 4 = .ok (.ireturn, 1) := by decide +kernel
theorem dA_inForce_0 : decode bA_inForce 0 = .ok (.aload_n 0, 1) := by decide +kernel
theorem dA_inForce_1 : decode bA_inForce 1 = .ok (.getfield 32, 3) := by decide +kernel
theorem dA_inForce_4 : decode bA_inForce 4 = .ok (.ireturn, 1) := by decide +kernel
theorem dA_kind_0 : decode bA_kind 0 = .ok (.aload_n 0, 1) := by decide +kernel
theorem dA_kind_1 : decode bA_kind 1 = .ok (.getfield 9, 3) := by decide +kernel
theorem dA_kind_4 : decode bA_kind 4 = .ok (.iload_n 1, 1) := by decide +kernel
theorem dA_kind_5 : decode bA_kind 5 = .ok (.iconst 1, 1) := by decide +kernel
theorem dA_kind_6 : decode bA_kind 6 = .ok (.isub, 1) := by decide +kernel
theorem dA_kind_7 : decode bA_kind 7 = .ok (.iaload, 1) := by decide +kernel
theorem dA_kind_8 : decode bA_kind 8 = .ok (.ireturn, 1) := by decide +kernel
theorem dA_first_0 : decode bA_first 0 = .ok (.aload_n 0, 1) := by decide +kernel
theorem dA_first_1 : decode bA_first 1 = .ok (.getfield 15, 3) := by decide +kernel
theorem dA_first_4 : decode bA_first 4 = .ok (.iload_n 1, 1) := by decide +kernel
theorem dA_first_5 : decode bA_first 5 = .ok (.iconst 1, 1) := by decide +kernel
theorem dA_first_6 : decode bA_first 6 = .ok (.isub, 1) := by decide +kernel
theorem dA_first_7 : decode bA_first 7 = .ok (.iaload, 1) := by decide +kernel
theorem dA_first_8 : decode bA_first 8 = .ok (.ireturn, 1) := by decide +kernel
theorem dA_second_0 : decode bA_second 0 = .ok (.aload_n 0, 1) := by decide +kernel
theorem dA_second_1 : decode bA_second 1 = .ok (.getfield 18, 3) := by decide +kernel
theorem dA_second_4 : decode bA_second 4 = .ok (.iload_n 1, 1) := by decide +kernel
theorem dA_second_5 : decode bA_second 5 = .ok (.iconst 1, 1) := by decide +kernel
theorem dA_second_6 : decode bA_second 6 = .ok (.isub, 1) := by decide +kernel
theorem dA_second_7 : decode bA_second 7 = .ok (.iaload, 1) := by decide +kernel
theorem dA_second_8 : decode bA_second 8 = .ok (.ireturn, 1) := by decide +kernel
theorem dA_third_0 : decode bA_third 0 = .ok (.aload_n 0, 1) := by decide +kernel
theorem dA_third_1 : decode bA_third 1 = .ok (.getfield 21, 3) := by decide +kernel
theorem dA_third_4 : decode bA_third 4 = .ok (.iload_n 1, 1) := by decide +kernel
theorem dA_third_5 : decode bA_third 5 = .ok (.iconst 1, 1) := by decide +kernel
theorem dA_third_6 : decode bA_third 6 = .ok (.isub, 1) := by decide +kernel
theorem dA_third_7 : decode bA_third 7 = .ok (.iaload, 1) := by decide +kernel
theorem dA_third_8 : decode bA_third 8 = .ok (.ireturn, 1) := by decide +kernel
theorem dA_isInForce_0 : decode bA_isInForce 0 = .ok (.iload_n 1, 1) := by decide +kernel
theorem dA_isInForce_1 : decode bA_isInForce 1 = .ok (.iconst 1, 1) := by decide +kernel
theorem dA_isInForce_2 : decode bA_isInForce 2 = .ok (.if_icmp .lt 26, 3) := by decide +kernel
theorem dA_isInForce_5 : decode bA_isInForce 5 = .ok (.iload_n 1, 1) := by decide +kernel
theorem dA_isInForce_6 : decode bA_isInForce 6 = .ok (.aload_n 0, 1) := by decide +kernel
theorem dA_isInForce_7 : decode bA_isInForce 7 = .ok (.getfield 28, 3) := by decide +kernel
theorem dA_isInForce_10 : decode bA_isInForce 10 = .ok (.if_icmp .gt 18, 3) := by decide +kernel
theorem dA_isInForce_13 : decode bA_isInForce 13 = .ok (.aload_n 0, 1) := by decide +kernel
theorem dA_isInForce_14 : decode bA_isInForce 14 = .ok (.getfield 24, 3) := by decide +kernel
theorem dA_isInForce_17 : decode bA_isInForce 17 = .ok (.iload_n 1, 1) := by decide +kernel
theorem dA_isInForce_18 : decode bA_isInForce 18 = .ok (.iconst 1, 1) := by decide +kernel
theorem dA_isInForce_19 : decode bA_isInForce 19 = .ok (.isub, 1) := by decide +kernel
theorem dA_isInForce_20 : decode bA_isInForce 20 = .ok (.baload, 1) := by decide +kernel
theorem dA_isInForce_21 : decode bA_isInForce 21 = .ok (.ifCond .ne 7, 3) := by decide +kernel
theorem dA_isInForce_24 : decode bA_isInForce 24 = .ok (.iconst 1, 1) := by decide +kernel
theorem dA_isInForce_25 : decode bA_isInForce 25 = .ok (.goto 4, 3) := by decide +kernel
theorem dA_isInForce_28 : decode bA_isInForce 28 = .ok (.iconst 0, 1) := by decide +kernel
theorem dA_isInForce_29 : decode bA_isInForce 29 = .ok (.ireturn, 1) := by decide +kernel
theorem dA_tell_0 : decode bA_tell 0 = .ok (.aload_n 0, 1) := by decide +kernel
theorem dA_tell_1 : decode bA_tell 1 = .ok (.getfield 28, 3) := by decide +kernel
theorem dA_tell_4 : decode bA_tell 4 = .ok (.bipush 100, 2) := by decide +kernel
theorem dA_tell_6 : decode bA_tell 6 = .ok (.if_icmp .lt 5, 3) := by decide +kernel
theorem dA_tell_9 : decode bA_tell 9 = .ok (.iconst (-1), 1) := by decide +kernel
theorem dA_tell_10 : decode bA_tell 10 = .ok (.ireturn, 1) := by decide +kernel
theorem dA_tell_11 : decode bA_tell 11 = .ok (.aload_n 0, 1) := by decide +kernel
theorem dA_tell_12 : decode bA_tell 12 = .ok (.getfield 9, 3) := by decide +kernel
theorem dA_tell_15 : decode bA_tell 15 = .ok (.aload_n 0, 1) := by decide +kernel
theorem dA_tell_16 : decode bA_tell 16 = .ok (.getfield 28, 3) := by decide +kernel
theorem dA_tell_19 : decode bA_tell 19 = .ok (.iload_n 1, 1) := by decide +kernel
theorem dA_tell_20 : decode bA_tell 20 = .ok (.iastore, 1) := by decide +kernel
theorem dA_tell_21 : decode bA_tell 21 = .ok (.aload_n 0, 1) := by decide +kernel
theorem dA_tell_22 : decode bA_tell 22 = .ok (.getfield 15, 3) := by decide +kernel
theorem dA_tell_25 : decode bA_tell 25 = .ok (.aload_n 0, 1) := by decide +kernel
theorem dA_tell_26 : decode bA_tell 26 = .ok (.getfield 28, 3) := by decide +kernel
theorem dA_tell_29 : decode bA_tell 29 = .ok (.iload_n 2, 1) := by decide +kernel
theorem dA_tell_30 : decode bA_tell 30 = .ok (.iastore, 1) := by decide +kernel
theorem dA_tell_31 : decode bA_tell 31 = .ok (.aload_n 0, 1) := by decide +kernel
theorem dA_tell_32 : decode bA_tell 32 = .ok (.getfield 18, 3) := by decide +kernel
theorem dA_tell_35 : decode bA_tell 35 = .ok (.aload_n 0, 1) := by decide +kernel
theorem dA_tell_36 : decode bA_tell 36 = .ok (.getfield 28, 3) := by decide +kernel
theorem dA_tell_39 : decode bA_tell 39 = .ok (.iload_n 3, 1) := by decide +kernel
theorem dA_tell_40 : decode bA_tell 40 = .ok (.iastore, 1) := by decide +kernel
theorem dA_tell_41 : decode bA_tell 41 = .ok (.aload_n 0, 1) := by decide +kernel
theorem dA_tell_42 : decode bA_tell 42 = .ok (.getfield 21, 3) := by decide +kernel
theorem dA_tell_45 : decode bA_tell 45 = .ok (.aload_n 0, 1) := by decide +kernel
theorem dA_tell_46 : decode bA_tell 46 = .ok (.getfield 28, 3) := by decide +kernel
theorem dA_tell_49 : decode bA_tell 49 = .ok (.iload 4, 2) := by decide +kernel
theorem dA_tell_51 : decode bA_tell 51 = .ok (.iastore, 1) := by decide +kernel
theorem dA_tell_52 : decode bA_tell 52 = .ok (.aload_n 0, 1) := by decide +kernel
theorem dA_tell_53 : decode bA_tell 53 = .ok (.dup, 1) := by decide +kernel
theorem dA_tell_54 : decode bA_tell 54 = .ok (.getfield 28, 3) := by decide +kernel
theorem dA_tell_57 : decode bA_tell 57 = .ok (.iconst 1, 1) := by decide +kernel
theorem dA_tell_58 : decode bA_tell 58 = .ok (.iadd, 1) := by decide +kernel
theorem dA_tell_59 : decode bA_tell 59 = .ok (.putfield 28, 3) := by decide +kernel
theorem dA_tell_62 : decode bA_tell 62 = .ok (.aload_n 0, 1) := by decide +kernel
theorem dA_tell_63 : decode bA_tell 63 = .ok (.dup, 1) := by decide +kernel
theorem dA_tell_64 : decode bA_tell 64 = .ok (.getfield 32, 3) := by decide +kernel
theorem dA_tell_67 : decode bA_tell 67 = .ok (.iconst 1, 1) := by decide +kernel
theorem dA_tell_68 : decode bA_tell 68 = .ok (.iadd, 1) := by decide +kernel
theorem dA_tell_69 : decode bA_tell 69 = .ok (.putfield 32, 3) := by decide +kernel
theorem dA_tell_72 : decode bA_tell 72 = .ok (.aload_n 0, 1) := by decide +kernel
theorem dA_tell_73 : decode bA_tell 73 = .ok (.getfield 28, 3) := by decide +kernel
theorem dA_tell_76 : decode bA_tell 76 = .ok (.ireturn, 1) := by decide +kernel
theorem dA_takeBack_0 : decode bA_takeBack 0 = .ok (.aload_n 0, 1) := by decide +kernel
theorem dA_takeBack_1 : decode bA_takeBack 1 = .ok (.getfield 24, 3) := by decide +kernel
theorem dA_takeBack_4 : decode bA_takeBack 4 = .ok (.iload_n 1, 1) := by decide +kernel
theorem dA_takeBack_5 : decode bA_takeBack 5 = .ok (.iconst 1, 1) := by decide +kernel
theorem dA_takeBack_6 : decode bA_takeBack 6 = .ok (.isub, 1) := by decide +kernel
theorem dA_takeBack_7 : decode bA_takeBack 7 = .ok (.iconst 1, 1) := by decide +kernel
theorem dA_takeBack_8 : decode bA_takeBack 8 = .ok (.bastore, 1) := by decide +kernel
theorem dA_takeBack_9 : decode bA_takeBack 9 = .ok (.aload_n 0, 1) := by decide +kernel
theorem dA_takeBack_10 : decode bA_takeBack 10 = .ok (.dup, 1) := by decide +kernel
theorem dA_takeBack_11 : decode bA_takeBack 11 = .ok (.getfield 32, 3) := by decide +kernel
theorem dA_takeBack_14 : decode bA_takeBack 14 = .ok (.iconst 1, 1) := by decide +kernel
theorem dA_takeBack_15 : decode bA_takeBack 15 = .ok (.isub, 1) := by decide +kernel
theorem dA_takeBack_16 : decode bA_takeBack 16 = .ok (.putfield 32, 3) := by decide +kernel
theorem dA_takeBack_19 : decode bA_takeBack 19 = .ok (.return_, 1) := by decide +kernel
theorem dB_init_0 : decode bB_init 0 = .ok (.aload_n 0, 1) := by decide +kernel
theorem dB_init_1 : decode bB_init 1 = .ok (.invokespecial 1, 3) := by decide +kernel
theorem dB_init_4 : decode bB_init 4 = .ok (.aload_n 0, 1) := by decide +kernel
theorem dB_init_5 : decode bB_init 5 = .ok (.iload_n 2, 1) := by decide +kernel
theorem dB_init_6 : decode bB_init 6 = .ok (.putfield 7, 3) := by decide +kernel
theorem dB_init_9 : decode bB_init 9 = .ok (.aload_n 0, 1) := by decide +kernel
theorem dB_init_10 : decode bB_init 10 = .ok (.iload_n 2, 1) := by decide +kernel
theorem dB_init_11 : decode bB_init 11 = .ok (.bipush 63, 2) := by decide +kernel
theorem dB_init_13 : decode bB_init 13 = .ok (.iadd, 1) := by decide +kernel
theorem dB_init_14 : decode bB_init 14 = .ok (.bipush 64, 2) := by decide +kernel
theorem dB_init_16 : decode bB_init 16 = .ok (.idiv, 1) := by decide +kernel
theorem dB_init_17 : decode bB_init 17 = .ok (.putfield 13, 3) := by decide +kernel
theorem dB_init_20 : decode bB_init 20 = .ok (.aload_n 0, 1) := by decide +kernel
theorem dB_init_21 : decode bB_init 21 = .ok (.iload_n 1, 1) := by decide +kernel
theorem dB_init_22 : decode bB_init 22 = .ok (.aload_n 0, 1) := by decide +kernel
theorem dB_init_23 : decode bB_init 23 = .ok (.getfield 13, 3) := by decide +kernel
theorem dB_init_26 : decode bB_init 26 = .ok (.imul, 1) := by decide +kernel
theorem dB_init_27 : decode bB_init 27 = .ok (.newarray .long, 2) := by decide +kernel
theorem dB_init_29 : decode bB_init 29 = .ok (.putfield 16, 3) := by decide +kernel
theorem dB_init_32 : decode bB_init 32 = .ok (.return_, 1) := by decide +kernel
theorem dB_holds_0 : decode bB_holds 0 = .ok (.aload_n 0, 1) := by decide +kernel
theorem dB_holds_1 : decode bB_holds 1 = .ok (.getfield 16, 3) := by decide +kernel
theorem dB_holds_4 : decode bB_holds 4 = .ok (.iload_n 1, 1) := by decide +kernel
theorem dB_holds_5 : decode bB_holds 5 = .ok (.aload_n 0, 1) := by decide +kernel
theorem dB_holds_6 : decode bB_holds 6 = .ok (.getfield 13, 3) := by decide +kernel
theorem dB_holds_9 : decode bB_holds 9 = .ok (.imul, 1) := by decide +kernel
theorem dB_holds_10 : decode bB_holds 10 = .ok (.iload_n 2, 1) := by decide +kernel
theorem dB_holds_11 : decode bB_holds 11 = .ok (.bipush 6, 2) := by decide +kernel
theorem dB_holds_13 : decode bB_holds 13 = .ok (.ishr, 1) := by decide +kernel
theorem dB_holds_14 : decode bB_holds 14 = .ok (.iadd, 1) := by decide +kernel
theorem dB_holds_15 : decode bB_holds 15 = .ok (.laload, 1) := by decide +kernel
theorem dB_holds_16 : decode bB_holds 16 = .ok (.iload_n 2, 1) := by decide +kernel
theorem dB_holds_17 : decode bB_holds 17 = .ok (.bipush 63, 2) := by decide +kernel
theorem dB_holds_19 : decode bB_holds 19 = .ok (.iand, 1) := by decide +kernel
theorem dB_holds_20 : decode bB_holds 20 = .ok (.lushr, 1) := by decide +kernel
theorem dB_holds_21 : decode bB_holds 21 = .ok (.lconst 1, 1) := by decide +kernel
theorem dB_holds_22 : decode bB_holds 22 = .ok (.land, 1) := by decide +kernel
theorem dB_holds_23 : decode bB_holds 23 = .ok (.lconst 0, 1) := by decide +kernel
theorem dB_holds_24 : decode bB_holds 24 = .ok (.lcmp, 1) := by decide +kernel
theorem dB_holds_25 : decode bB_holds 25 = .ok (.ifCond .eq 7, 3) := by decide +kernel
theorem dB_holds_28 : decode bB_holds 28 = .ok (.iconst 1, 1) := by decide +kernel
theorem dB_holds_29 : decode bB_holds 29 = .ok (.goto 4, 3) := by decide +kernel
theorem dB_holds_32 : decode bB_holds 32 = .ok (.iconst 0, 1) := by decide +kernel
theorem dB_holds_33 : decode bB_holds 33 = .ok (.ireturn, 1) := by decide +kernel
theorem dB_put_0 : decode bB_put 0 = .ok (.iload_n 1, 1) := by decide +kernel
theorem dB_put_1 : decode bB_put 1 = .ok (.aload_n 0, 1) := by decide +kernel
theorem dB_put_2 : decode bB_put 2 = .ok (.getfield 13, 3) := by decide +kernel
theorem dB_put_5 : decode bB_put 5 = .ok (.imul, 1) := by decide +kernel
theorem dB_put_6 : decode bB_put 6 = .ok (.iload_n 2, 1) := by decide +kernel
theorem dB_put_7 : decode bB_put 7 = .ok (.bipush 6, 2) := by decide +kernel
theorem dB_put_9 : decode bB_put 9 = .ok (.ishr, 1) := by decide +kernel
theorem dB_put_10 : decode bB_put 10 = .ok (.iadd, 1) := by decide +kernel
theorem dB_put_11 : decode bB_put 11 = .ok (.istore_n 3, 1) := by decide +kernel
theorem dB_put_12 : decode bB_put 12 = .ok (.aload_n 0, 1) := by decide +kernel
theorem dB_put_13 : decode bB_put 13 = .ok (.getfield 16, 3) := by decide +kernel
theorem dB_put_16 : decode bB_put 16 = .ok (.iload_n 3, 1) := by decide +kernel
theorem dB_put_17 : decode bB_put 17 = .ok (.laload, 1) := by decide +kernel
theorem dB_put_18 : decode bB_put 18 = .ok (.lstore 4, 2) := by decide +kernel
theorem dB_put_20 : decode bB_put 20 = .ok (.aload_n 0, 1) := by decide +kernel
theorem dB_put_21 : decode bB_put 21 = .ok (.getfield 16, 3) := by decide +kernel
theorem dB_put_24 : decode bB_put 24 = .ok (.iload_n 3, 1) := by decide +kernel
theorem dB_put_25 : decode bB_put 25 = .ok (.lload 4, 2) := by decide +kernel
theorem dB_put_27 : decode bB_put 27 = .ok (.lconst 1, 1) := by decide +kernel
theorem dB_put_28 : decode bB_put 28 = .ok (.iload_n 2, 1) := by decide +kernel
theorem dB_put_29 : decode bB_put 29 = .ok (.bipush 63, 2) := by decide +kernel
theorem dB_put_31 : decode bB_put 31 = .ok (.iand, 1) := by decide +kernel
theorem dB_put_32 : decode bB_put 32 = .ok (.lshl, 1) := by decide +kernel
theorem dB_put_33 : decode bB_put 33 = .ok (.lor, 1) := by decide +kernel
theorem dB_put_34 : decode bB_put 34 = .ok (.lastore, 1) := by decide +kernel
theorem dB_put_35 : decode bB_put 35 = .ok (.aload_n 0, 1) := by decide +kernel
theorem dB_put_36 : decode bB_put 36 = .ok (.getfield 16, 3) := by decide +kernel
theorem dB_put_39 : decode bB_put 39 = .ok (.iload_n 3, 1) := by decide +kernel
theorem dB_put_40 : decode bB_put 40 = .ok (.laload, 1) := by decide +kernel
theorem dB_put_41 : decode bB_put 41 = .ok (.lload 4, 2) := by decide +kernel
theorem dB_put_43 : decode bB_put 43 = .ok (.lcmp, 1) := by decide +kernel
theorem dB_put_44 : decode bB_put 44 = .ok (.ifCond .eq 7, 3) := by decide +kernel
theorem dB_put_47 : decode bB_put 47 = .ok (.iconst 1, 1) := by decide +kernel
theorem dB_put_48 : decode bB_put 48 = .ok (.goto 4, 3) := by decide +kernel
theorem dB_put_51 : decode bB_put 51 = .ok (.iconst 0, 1) := by decide +kernel
theorem dB_put_52 : decode bB_put 52 = .ok (.ireturn, 1) := by decide +kernel
theorem dB_drop_0 : decode bB_drop 0 = .ok (.aload_n 0, 1) := by decide +kernel
theorem dB_drop_1 : decode bB_drop 1 = .ok (.getfield 16, 3) := by decide +kernel
theorem dB_drop_4 : decode bB_drop 4 = .ok (.iload_n 1, 1) := by decide +kernel
theorem dB_drop_5 : decode bB_drop 5 = .ok (.aload_n 0, 1) := by decide +kernel
theorem dB_drop_6 : decode bB_drop 6 = .ok (.getfield 13, 3) := by decide +kernel
theorem dB_drop_9 : decode bB_drop 9 = .ok (.imul, 1) := by decide +kernel
theorem dB_drop_10 : decode bB_drop 10 = .ok (.iload_n 2, 1) := by decide +kernel
theorem dB_drop_11 : decode bB_drop 11 = .ok (.bipush 6, 2) := by decide +kernel
theorem dB_drop_13 : decode bB_drop 13 = .ok (.ishr, 1) := by decide +kernel
theorem dB_drop_14 : decode bB_drop 14 = .ok (.iadd, 1) := by decide +kernel
theorem dB_drop_15 : decode bB_drop 15 = .ok (.dup2, 1) := by decide +kernel
theorem dB_drop_16 : decode bB_drop 16 = .ok (.laload, 1) := by decide +kernel
theorem dB_drop_17 : decode bB_drop 17 = .ok (.lconst 1, 1) := by decide +kernel
theorem dB_drop_18 : decode bB_drop 18 = .ok (.iload_n 2, 1) := by decide +kernel
theorem dB_drop_19 : decode bB_drop 19 = .ok (.bipush 63, 2) := by decide +kernel
theorem dB_drop_21 : decode bB_drop 21 = .ok (.iand, 1) := by decide +kernel
theorem dB_drop_22 : decode bB_drop 22 = .ok (.lshl, 1) := by decide +kernel
theorem dB_drop_23 : decode bB_drop 23 = .ok (.ldc2_w 20, 3) := by decide +kernel
theorem dB_drop_26 : decode bB_drop 26 = .ok (.lxor, 1) := by decide +kernel
theorem dB_drop_27 : decode bB_drop 27 = .ok (.land, 1) := by decide +kernel
theorem dB_drop_28 : decode bB_drop 28 = .ok (.lastore, 1) := by decide +kernel
theorem dB_drop_29 : decode bB_drop 29 = .ok (.return_, 1) := by decide +kernel
theorem dB_next_0 : decode bB_next 0 = .ok (.iload_n 2, 1) := by decide +kernel
theorem dB_next_1 : decode bB_next 1 = .ok (.istore_n 3, 1) := by decide +kernel
theorem dB_next_2 : decode bB_next 2 = .ok (.iload_n 3, 1) := by decide +kernel
theorem dB_next_3 : decode bB_next 3 = .ok (.aload_n 0, 1) := by decide +kernel
theorem dB_next_4 : decode bB_next 4 = .ok (.getfield 7, 3) := by decide +kernel
theorem dB_next_7 : decode bB_next 7 = .ok (.if_icmp .ge 57, 3) := by decide +kernel
theorem dB_next_10 : decode bB_next 10 = .ok (.aload_n 0, 1) := by decide +kernel
theorem dB_next_11 : decode bB_next 11 = .ok (.getfield 16, 3) := by decide +kernel
theorem dB_next_14 : decode bB_next 14 = .ok (.iload_n 1, 1) := by decide +kernel
theorem dB_next_15 : decode bB_next 15 = .ok (.aload_n 0, 1) := by decide +kernel
theorem dB_next_16 : decode bB_next 16 = .ok (.getfield 13, 3) := by decide +kernel
theorem dB_next_19 : decode bB_next 19 = .ok (.imul, 1) := by decide +kernel
theorem dB_next_20 : decode bB_next 20 = .ok (.iload_n 3, 1) := by decide +kernel
theorem dB_next_21 : decode bB_next 21 = .ok (.bipush 6, 2) := by decide +kernel
theorem dB_next_23 : decode bB_next 23 = .ok (.ishr, 1) := by decide +kernel
theorem dB_next_24 : decode bB_next 24 = .ok (.iadd, 1) := by decide +kernel
theorem dB_next_25 : decode bB_next 25 = .ok (.laload, 1) := by decide +kernel
theorem dB_next_26 : decode bB_next 26 = .ok (.iload_n 3, 1) := by decide +kernel
theorem dB_next_27 : decode bB_next 27 = .ok (.bipush 63, 2) := by decide +kernel
theorem dB_next_29 : decode bB_next 29 = .ok (.iand, 1) := by decide +kernel
theorem dB_next_30 : decode bB_next 30 = .ok (.lushr, 1) := by decide +kernel
theorem dB_next_31 : decode bB_next 31 = .ok (.lstore 4, 2) := by decide +kernel
theorem dB_next_33 : decode bB_next 33 = .ok (.lload 4, 2) := by decide +kernel
theorem dB_next_35 : decode bB_next 35 = .ok (.lconst 0, 1) := by decide +kernel
theorem dB_next_36 : decode bB_next 36 = .ok (.lcmp, 1) := by decide +kernel
theorem dB_next_37 : decode bB_next 37 = .ok (.ifCond .eq 17, 3) := by decide +kernel
theorem dB_next_40 : decode bB_next 40 = .ok (.iload_n 3, 1) := by decide +kernel
theorem dB_next_41 : decode bB_next 41 = .ok (.lload 4, 2) := by decide +kernel
theorem dB_next_43 : decode bB_next 43 = .ok (.lload 4, 2) := by decide +kernel
theorem dB_next_45 : decode bB_next 45 = .ok (.lneg, 1) := by decide +kernel
theorem dB_next_46 : decode bB_next 46 = .ok (.land, 1) := by decide +kernel
theorem dB_next_47 : decode bB_next 47 = .ok (.lconst 1, 1) := by decide +kernel
theorem dB_next_48 : decode bB_next 48 = .ok (.lsub, 1) := by decide +kernel
theorem dB_next_49 : decode bB_next 49 = .ok (.invokestatic 22, 3) := by decide +kernel
theorem dB_next_52 : decode bB_next 52 = .ok (.iadd, 1) := by decide +kernel
theorem dB_next_53 : decode bB_next 53 = .ok (.ireturn, 1) := by decide +kernel
theorem dB_next_54 : decode bB_next 54 = .ok (.iload_n 3, 1) := by decide +kernel
theorem dB_next_55 : decode bB_next 55 = .ok (.bipush 63, 2) := by decide +kernel
theorem dB_next_57 : decode bB_next 57 = .ok (.ior, 1) := by decide +kernel
theorem dB_next_58 : decode bB_next 58 = .ok (.iconst 1, 1) := by decide +kernel
theorem dB_next_59 : decode bB_next 59 = .ok (.iadd, 1) := by decide +kernel
theorem dB_next_60 : decode bB_next 60 = .ok (.istore_n 3, 1) := by decide +kernel
theorem dB_next_61 : decode bB_next 61 = .ok (.goto (-59), 3) := by decide +kernel
theorem dB_next_64 : decode bB_next 64 = .ok (.aload_n 0, 1) := by decide +kernel
theorem dB_next_65 : decode bB_next 65 = .ok (.getfield 7, 3) := by decide +kernel
theorem dB_next_68 : decode bB_next 68 = .ok (.ireturn, 1) := by decide +kernel
theorem dB_nextBeyond_0 : decode bB_nextBeyond 0 = .ok (.iload_n 2, 1) := by decide +kernel
theorem dB_nextBeyond_1 : decode bB_nextBeyond 1 = .ok (.istore 5, 2) := by decide +kernel
theorem dB_nextBeyond_3 : decode bB_nextBeyond 3 = .ok (.iload 5, 2) := by decide +kernel
theorem dB_nextBeyond_5 : decode bB_nextBeyond 5 = .ok (.aload_n 0, 1) := by decide +kernel
theorem dB_nextBeyond_6 : decode bB_nextBeyond 6 = .ok (.getfield 7, 3) := by decide +kernel
theorem dB_nextBeyond_9 : decode bB_nextBeyond 9 = .ok (.if_icmp .ge 90, 3) := by decide +kernel
theorem dB_nextBeyond_12 : decode bB_nextBeyond 12 = .ok (.iload 5, 2) := by decide +kernel
theorem dB_nextBeyond_14 : decode bB_nextBeyond 14 = .ok (.bipush 6, 2) := by decide +kernel
theorem dB_nextBeyond_16 : decode bB_nextBeyond 16 = .ok (.ishr, 1) := by decide +kernel
theorem dB_nextBeyond_17 : decode bB_nextBeyond 17 = .ok (.istore 6, 2) := by decide +kernel
theorem dB_nextBeyond_19 : decode bB_nextBeyond 19 = .ok (.aload_n 0, 1) := by decide +kernel
theorem dB_nextBeyond_20 : decode bB_nextBeyond 20 = .ok (.getfield 16, 3) := by decide +kernel
theorem dB_nextBeyond_23 : decode bB_nextBeyond 23 = .ok (.iload_n 1, 1) := by decide +kernel
theorem dB_nextBeyond_24 : decode bB_nextBeyond 24 = .ok (.aload_n 0, 1) := by decide +kernel
theorem dB_nextBeyond_25 : decode bB_nextBeyond 25 = .ok (.getfield 13, 3) := by decide +kernel
theorem dB_nextBeyond_28 : decode bB_nextBeyond 28 = .ok (.imul, 1) := by decide +kernel
theorem dB_nextBeyond_29 : decode bB_nextBeyond 29 = .ok (.iload 6, 2) := by decide +kernel
theorem dB_nextBeyond_31 : decode bB_nextBeyond 31 = .ok (.iadd, 1) := by decide +kernel
theorem dB_nextBeyond_32 : decode bB_nextBeyond 32 = .ok (.laload, 1) := by decide +kernel
theorem dB_nextBeyond_33 : decode bB_nextBeyond 33 = .ok (.aload_n 3, 1) := by decide +kernel
theorem dB_nextBeyond_34 : decode bB_nextBeyond 34 = .ok (.getfield 16, 3) := by decide +kernel
theorem dB_nextBeyond_37 : decode bB_nextBeyond 37 = .ok (.iload 4, 2) := by decide +kernel
theorem dB_nextBeyond_39 : decode bB_nextBeyond 39 = .ok (.aload_n 0, 1) := by decide +kernel
theorem dB_nextBeyond_40 : decode bB_nextBeyond 40 = .ok (.getfield 13, 3) := by decide +kernel
theorem dB_nextBeyond_43 : decode bB_nextBeyond 43 = .ok (.imul, 1) := by decide +kernel
theorem dB_nextBeyond_44 : decode bB_nextBeyond 44 = .ok (.iload 6, 2) := by decide +kernel
theorem dB_nextBeyond_46 : decode bB_nextBeyond 46 = .ok (.iadd, 1) := by decide +kernel
theorem dB_nextBeyond_47 : decode bB_nextBeyond 47 = .ok (.laload, 1) := by decide +kernel
theorem dB_nextBeyond_48 : decode bB_nextBeyond 48 = .ok (.ldc2_w 20, 3) := by decide +kernel
theorem dB_nextBeyond_51 : decode bB_nextBeyond 51 = .ok (.lxor, 1) := by decide +kernel
theorem dB_nextBeyond_52 : decode bB_nextBeyond 52 = .ok (.land, 1) := by decide +kernel
theorem dB_nextBeyond_53 : decode bB_nextBeyond 53 = .ok (.lstore 7, 2) := by decide +kernel
theorem dB_nextBeyond_55 : decode bB_nextBeyond 55 = .ok (.lload 7, 2) := by decide +kernel
theorem dB_nextBeyond_57 : decode bB_nextBeyond 57 = .ok (.iload 5, 2) := by decide +kernel
theorem dB_nextBeyond_59 : decode bB_nextBeyond 59 = .ok (.bipush 63, 2) := by decide +kernel
theorem dB_nextBeyond_61 : decode bB_nextBeyond 61 = .ok (.iand, 1) := by decide +kernel
theorem dB_nextBeyond_62 : decode bB_nextBeyond 62 = .ok (.lushr, 1) := by decide +kernel
theorem dB_nextBeyond_63 : decode bB_nextBeyond 63 = .ok (.lstore 7, 2) := by decide +kernel
theorem dB_nextBeyond_65 : decode bB_nextBeyond 65 = .ok (.lload 7, 2) := by decide +kernel
theorem dB_nextBeyond_67 : decode bB_nextBeyond 67 = .ok (.lconst 0, 1) := by decide +kernel
theorem dB_nextBeyond_68 : decode bB_nextBeyond 68 = .ok (.lcmp, 1) := by decide +kernel
theorem dB_nextBeyond_69 : decode bB_nextBeyond 69 = .ok (.ifCond .eq 18, 3) := by decide +kernel
theorem dB_nextBeyond_72 : decode bB_nextBeyond 72 = .ok (.iload 5, 2) := by decide +kernel
theorem dB_nextBeyond_74 : decode bB_nextBeyond 74 = .ok (.lload 7, 2) := by decide +kernel
theorem dB_nextBeyond_76 : decode bB_nextBeyond 76 = .ok (.lload 7, 2) := by decide +kernel
theorem dB_nextBeyond_78 : decode bB_nextBeyond 78 = .ok (.lneg, 1) := by decide +kernel
theorem dB_nextBeyond_79 : decode bB_nextBeyond 79 = .ok (.land, 1) := by decide +kernel
theorem dB_nextBeyond_80 : decode bB_nextBeyond 80 = .ok (.lconst 1, 1) := by decide +kernel
theorem dB_nextBeyond_81 : decode bB_nextBeyond 81 = .ok (.lsub, 1) := by decide +kernel
theorem dB_nextBeyond_82 : decode bB_nextBeyond 82 = .ok (.invokestatic 22, 3) := by decide +kernel
theorem dB_nextBeyond_85 : decode bB_nextBeyond 85 = .ok (.iadd, 1) := by decide +kernel
theorem dB_nextBeyond_86 : decode bB_nextBeyond 86 = .ok (.ireturn, 1) := by decide +kernel
theorem dB_nextBeyond_87 : decode bB_nextBeyond 87 = .ok (.iload 5, 2) := by decide +kernel
theorem dB_nextBeyond_89 : decode bB_nextBeyond 89 = .ok (.bipush 63, 2) := by decide +kernel
theorem dB_nextBeyond_91 : decode bB_nextBeyond 91 = .ok (.ior, 1) := by decide +kernel
theorem dB_nextBeyond_92 : decode bB_nextBeyond 92 = .ok (.iconst 1, 1) := by decide +kernel
theorem dB_nextBeyond_93 : decode bB_nextBeyond 93 = .ok (.iadd, 1) := by decide +kernel
theorem dB_nextBeyond_94 : decode bB_nextBeyond 94 = .ok (.istore 5, 2) := by decide +kernel
theorem dB_nextBeyond_96 : decode bB_nextBeyond 96 = .ok (.goto (-93), 3) := by decide +kernel
theorem dB_nextBeyond_99 : decode bB_nextBeyond 99 = .ok (.aload_n 0, 1) := by decide +kernel
theorem dB_nextBeyond_100 : decode bB_nextBeyond 100 = .ok (.getfield 7, 3) := by decide +kernel
theorem dB_nextBeyond_103 : decode bB_nextBeyond 103 = .ok (.ireturn, 1) := by decide +kernel
theorem dB_clear_0 : decode bB_clear 0 = .ok (.iload_n 1, 1) := by decide +kernel
theorem dB_clear_1 : decode bB_clear 1 = .ok (.aload_n 0, 1) := by decide +kernel
theorem dB_clear_2 : decode bB_clear 2 = .ok (.getfield 13, 3) := by decide +kernel
theorem dB_clear_5 : decode bB_clear 5 = .ok (.imul, 1) := by decide +kernel
theorem dB_clear_6 : decode bB_clear 6 = .ok (.aload_n 0, 1) := by decide +kernel
theorem dB_clear_7 : decode bB_clear 7 = .ok (.getfield 16, 3) := by decide +kernel
theorem dB_clear_10 : decode bB_clear 10 = .ok (.arraylength, 1) := by decide +kernel
theorem dB_clear_11 : decode bB_clear 11 = .ok (.invokestatic 28, 3) := by decide +kernel
theorem dB_clear_14 : decode bB_clear 14 = .ok (.istore_n 2, 1) := by decide +kernel
theorem dB_clear_15 : decode bB_clear 15 = .ok (.iconst 0, 1) := by decide +kernel
theorem dB_clear_16 : decode bB_clear 16 = .ok (.istore_n 3, 1) := by decide +kernel
theorem dB_clear_17 : decode bB_clear 17 = .ok (.iload_n 3, 1) := by decide +kernel
theorem dB_clear_18 : decode bB_clear 18 = .ok (.iload_n 2, 1) := by decide +kernel
theorem dB_clear_19 : decode bB_clear 19 = .ok (.if_icmp .ge 16, 3) := by decide +kernel
theorem dB_clear_22 : decode bB_clear 22 = .ok (.aload_n 0, 1) := by decide +kernel
theorem dB_clear_23 : decode bB_clear 23 = .ok (.getfield 16, 3) := by decide +kernel
theorem dB_clear_26 : decode bB_clear 26 = .ok (.iload_n 3, 1) := by decide +kernel
theorem dB_clear_27 : decode bB_clear 27 = .ok (.lconst 0, 1) := by decide +kernel
theorem dB_clear_28 : decode bB_clear 28 = .ok (.lastore, 1) := by decide +kernel
theorem dB_clear_29 : decode bB_clear 29 = .ok (.iinc 3 1, 3) := by decide +kernel
theorem dB_clear_32 : decode bB_clear 32 = .ok (.goto (-15), 3) := by decide +kernel
theorem dB_clear_35 : decode bB_clear 35 = .ok (.return_, 1) := by decide +kernel
theorem dT_init_0 : decode bT_init 0 = .ok (.aload_n 0, 1) := by decide +kernel
theorem dT_init_1 : decode bT_init 1 = .ok (.invokespecial 3, 3) := by decide +kernel
theorem dT_init_4 : decode bT_init 4 = .ok (.aload_n 0, 1) := by decide +kernel
theorem dT_init_5 : decode bT_init 5 = .ok (.sipush 160, 3) := by decide +kernel
theorem dT_init_8 : decode bT_init 8 = .ok (.newarray .int, 2) := by decide +kernel
theorem dT_init_10 : decode bT_init 10 = .ok (.putfield 9, 3) := by decide +kernel
theorem dT_init_13 : decode bT_init 13 = .ok (.aload_n 0, 1) := by decide +kernel
theorem dT_init_14 : decode bT_init 14 = .ok (.sipush 160, 3) := by decide +kernel
theorem dT_init_17 : decode bT_init 17 = .ok (.newarray .int, 2) := by decide +kernel
theorem dT_init_19 : decode bT_init 19 = .ok (.putfield 15, 3) := by decide +kernel
theorem dT_init_22 : decode bT_init 22 = .ok (.aload_n 0, 1) := by decide +kernel
theorem dT_init_23 : decode bT_init 23 = .ok (.sipush 160, 3) := by decide +kernel
theorem dT_init_26 : decode bT_init 26 = .ok (.newarray .int, 2) := by decide +kernel
theorem dT_init_28 : decode bT_init 28 = .ok (.putfield 18, 3) := by decide +kernel
theorem dT_init_31 : decode bT_init 31 = .ok (.aload_n 0, 1) := by decide +kernel
theorem dT_init_32 : decode bT_init 32 = .ok (.sipush 960, 3) := by decide +kernel
theorem dT_init_35 : decode bT_init 35 = .ok (.newarray .int, 2) := by decide +kernel
theorem dT_init_37 : decode bT_init 37 = .ok (.putfield 21, 3) := by decide +kernel
theorem dT_init_40 : decode bT_init 40 = .ok (.aload_n 0, 1) := by decide +kernel
theorem dT_init_41 : decode bT_init 41 = .ok (.new 24, 3) := by decide +kernel
theorem dT_init_44 : decode bT_init 44 = .ok (.dup, 1) := by decide +kernel
theorem dT_init_45 : decode bT_init 45 = .ok (.sipush 160, 3) := by decide +kernel
theorem dT_init_48 : decode bT_init 48 = .ok (.sipush 160, 3) := by decide +kernel
theorem dT_init_51 : decode bT_init 51 = .ok (.invokespecial 26, 3) := by decide +kernel
theorem dT_init_54 : decode bT_init 54 = .ok (.putfield 29, 3) := by decide +kernel
theorem dT_init_57 : decode bT_init 57 = .ok (.aload_n 0, 1) := by decide +kernel
theorem dT_init_58 : decode bT_init 58 = .ok (.new 24, 3) := by decide +kernel
theorem dT_init_61 : decode bT_init 61 = .ok (.dup, 1) := by decide +kernel
theorem dT_init_62 : decode bT_init 62 = .ok (.bipush 6, 2) := by decide +kernel
theorem dT_init_64 : decode bT_init 64 = .ok (.sipush 160, 3) := by decide +kernel
theorem dT_init_67 : decode bT_init 67 = .ok (.invokespecial 26, 3) := by decide +kernel
theorem dT_init_70 : decode bT_init 70 = .ok (.putfield 33, 3) := by decide +kernel
theorem dT_init_73 : decode bT_init 73 = .ok (.aload_n 0, 1) := by decide +kernel
theorem dT_init_74 : decode bT_init 74 = .ok (.getfield 21, 3) := by decide +kernel
theorem dT_init_77 : decode bT_init 77 = .ok (.iconst (-1), 1) := by decide +kernel
theorem dT_init_78 : decode bT_init 78 = .ok (.invokestatic 36, 3) := by decide +kernel
theorem dT_init_81 : decode bT_init 81 = .ok (.aload_n 0, 1) := by decide +kernel
theorem dT_init_82 : decode bT_init 82 = .ok (.getfield 9, 3) := by decide +kernel
theorem dT_init_85 : decode bT_init 85 = .ok (.iconst 0, 1) := by decide +kernel
theorem dT_init_86 : decode bT_init 86 = .ok (.iconst 0, 1) := by decide +kernel
theorem dT_init_87 : decode bT_init 87 = .ok (.iastore, 1) := by decide +kernel
theorem dT_init_88 : decode bT_init 88 = .ok (.aload_n 0, 1) := by decide +kernel
theorem dT_init_89 : decode bT_init 89 = .ok (.getfield 9, 3) := by decide +kernel
theorem dT_init_92 : decode bT_init 92 = .ok (.iconst 1, 1) := by decide +kernel
theorem dT_init_93 : decode bT_init 93 = .ok (.iconst 0, 1) := by decide +kernel
theorem dT_init_94 : decode bT_init 94 = .ok (.iastore, 1) := by decide +kernel
theorem dT_init_95 : decode bT_init 95 = .ok (.aload_n 0, 1) := by decide +kernel
theorem dT_init_96 : decode bT_init 96 = .ok (.iconst 2, 1) := by decide +kernel
theorem dT_init_97 : decode bT_init 97 = .ok (.putfield 42, 3) := by decide +kernel
theorem dT_init_100 : decode bT_init 100 = .ok (.aload_n 0, 1) := by decide +kernel
theorem dT_init_101 : decode bT_init 101 = .ok (.iconst 0, 1) := by decide +kernel
theorem dT_init_102 : decode bT_init 102 = .ok (.putfield 46, 3) := by decide +kernel
theorem dT_init_105 : decode bT_init 105 = .ok (.return_, 1) := by decide +kernel
theorem dT_size_0 : decode bT_size 0 = .ok (.aload_n 0, 1) := by decide +kernel
theorem dT_size_1 : decode bT_size 1 = .ok (.getfield 42, 3) := by decide +kernel
theorem dT_size_4 : decode bT_size 4 = .ok (.ireturn, 1) := by decide +kernel
theorem dT_names_0 : decode bT_names 0 = .ok (.aload_n 0, 1) := by decide +kernel
theorem dT_names_1 : decode bT_names 1 = .ok (.getfield 46, 3) := by decide +kernel
theorem dT_names_4 : decode bT_names 4 = .ok (.ireturn, 1) := by decide +kernel
theorem dT_kind_0 : decode bT_kind 0 = .ok (.aload_n 0, 1) := by decide +kernel
theorem dT_kind_1 : decode bT_kind 1 = .ok (.getfield 9, 3) := by decide +kernel
theorem dT_kind_4 : decode bT_kind 4 = .ok (.iload_n 1, 1) := by decide +kernel
theorem dT_kind_5 : decode bT_kind 5 = .ok (.iaload, 1) := by decide +kernel
theorem dT_kind_6 : decode bT_kind 6 = .ok (.ireturn, 1) := by decide +kernel
theorem dT_isName_0 : decode bT_isName 0 = .ok (.aload_n 0, 1) := by decide +kernel
theorem dT_isName_1 : decode bT_isName 1 = .ok (.getfield 9, 3) := by decide +kernel
theorem dT_isName_4 : decode bT_isName 4 = .ok (.iload_n 1, 1) := by decide +kernel
theorem dT_isName_5 : decode bT_isName 5 = .ok (.iaload, 1) := by decide +kernel
theorem dT_isName_6 : decode bT_isName 6 = .ok (.iconst 1, 1) := by decide +kernel
theorem dT_isName_7 : decode bT_isName 7 = .ok (.if_icmp .ne 7, 3) := by decide +kernel
theorem dT_isName_10 : decode bT_isName 10 = .ok (.iconst 1, 1) := by decide +kernel
theorem dT_isName_11 : decode bT_isName 11 = .ok (.goto 4, 3) := by decide +kernel
theorem dT_isName_14 : decode bT_isName 14 = .ok (.iconst 0, 1) := by decide +kernel
theorem dT_isName_15 : decode bT_isName 15 = .ok (.ireturn, 1) := by decide +kernel
theorem dT_left_0 : decode bT_left 0 = .ok (.aload_n 0, 1) := by decide +kernel
theorem dT_left_1 : decode bT_left 1 = .ok (.getfield 15, 3) := by decide +kernel
theorem dT_left_4 : decode bT_left 4 = .ok (.iload_n 1, 1) := by decide +kernel
theorem dT_left_5 : decode bT_left 5 = .ok (.iaload, 1) := by decide +kernel
theorem dT_left_6 : decode bT_left 6 = .ok (.ireturn, 1) := by decide +kernel
theorem dT_right_0 : decode bT_right 0 = .ok (.aload_n 0, 1) := by decide +kernel
theorem dT_right_1 : decode bT_right 1 = .ok (.getfield 18, 3) := by decide +kernel
theorem dT_right_4 : decode bT_right 4 = .ok (.iload_n 1, 1) := by decide +kernel
theorem dT_right_5 : decode bT_right 5 = .ok (.iaload, 1) := by decide +kernel
theorem dT_right_6 : decode bT_right 6 = .ok (.ireturn, 1) := by decide +kernel
theorem dT_findSome_0 : decode bT_findSome 0 = .ok (.aload_n 0, 1) := by decide +kernel
theorem dT_findSome_1 : decode bT_findSome 1 = .ok (.getfield 21, 3) := by decide +kernel
theorem dT_findSome_4 : decode bT_findSome 4 = .ok (.iload_n 1, 1) := by decide +kernel
theorem dT_findSome_5 : decode bT_findSome 5 = .ok (.sipush 160, 3) := by decide +kernel
theorem dT_findSome_8 : decode bT_findSome 8 = .ok (.imul, 1) := by decide +kernel
theorem dT_findSome_9 : decode bT_findSome 9 = .ok (.iload_n 2, 1) := by decide +kernel
theorem dT_findSome_10 : decode bT_findSome 10 = .ok (.iadd, 1) := by decide +kernel
theorem dT_findSome_11 : decode bT_findSome 11 = .ok (.iaload, 1) := by decide +kernel
theorem dT_findSome_12 : decode bT_findSome 12 = .ok (.ireturn, 1) := by decide +kernel
theorem dT_findBoth_0 : decode bT_findBoth 0 = .ok (.aload_n 0, 1) := by decide +kernel
theorem dT_findBoth_1 : decode bT_findBoth 1 = .ok (.getfield 29, 3) := by decide +kernel
theorem dT_findBoth_4 : decode bT_findBoth 4 = .ok (.iload_n 1, 1) := by decide +kernel
theorem dT_findBoth_5 : decode bT_findBoth 5 = .ok (.iconst 0, 1) := by decide +kernel
theorem dT_findBoth_6 : decode bT_findBoth 6 = .ok (.invokevirtual 49, 3) := by decide +kernel
theorem dT_findBoth_9 : decode bT_findBoth 9 = .ok (.istore_n 3, 1) := by decide +kernel
theorem dT_findBoth_10 : decode bT_findBoth 10 = .ok (.iload_n 3, 1) := by decide +kernel
theorem dT_findBoth_11 : decode bT_findBoth 11 = .ok (.sipush 160, 3) := by decide +kernel
theorem dT_findBoth_14 : decode bT_findBoth 14 = .ok (.if_icmp .ge 40, 3) := by decide +kernel
theorem dT_findBoth_17 : decode bT_findBoth 17 = .ok (.aload_n 0, 1) := by decide +kernel
theorem dT_findBoth_18 : decode bT_findBoth 18 = .ok (.getfield 15, 3) := by decide +kernel
theorem dT_findBoth_21 : decode bT_findBoth 21 = .ok (.iload_n 3, 1) := by decide +kernel
theorem dT_findBoth_22 : decode bT_findBoth 22 = .ok (.iaload, 1) := by decide +kernel
theorem dT_findBoth_23 : decode bT_findBoth 23 = .ok (.iload_n 1, 1) := by decide +kernel
theorem dT_findBoth_24 : decode bT_findBoth 24 = .ok (.if_icmp .ne 15, 3) := by decide +kernel
theorem dT_findBoth_27 : decode bT_findBoth 27 = .ok (.aload_n 0, 1) := by decide +kernel
theorem dT_findBoth_28 : decode bT_findBoth 28 = .ok (.getfield 18, 3) := by decide +kernel
theorem dT_findBoth_31 : decode bT_findBoth 31 = .ok (.iload_n 3, 1) := by decide +kernel
theorem dT_findBoth_32 : decode bT_findBoth 32 = .ok (.iaload, 1) := by decide +kernel
theorem dT_findBoth_33 : decode bT_findBoth 33 = .ok (.iload_n 2, 1) := by decide +kernel
theorem dT_findBoth_34 : decode bT_findBoth 34 = .ok (.if_icmp .ne 5, 3) := by decide +kernel
theorem dT_findBoth_37 : decode bT_findBoth 37 = .ok (.iload_n 3, 1) := by decide +kernel
theorem dT_findBoth_38 : decode bT_findBoth 38 = .ok (.ireturn, 1) := by decide +kernel
theorem dT_findBoth_39 : decode bT_findBoth 39 = .ok (.aload_n 0, 1) := by decide +kernel
theorem dT_findBoth_40 : decode bT_findBoth 40 = .ok (.getfield 29, 3) := by decide +kernel
theorem dT_findBoth_43 : decode bT_findBoth 43 = .ok (.iload_n 1, 1) := by decide +kernel
theorem dT_findBoth_44 : decode bT_findBoth 44 = .ok (.iload_n 3, 1) := by decide +kernel
theorem dT_findBoth_45 : decode bT_findBoth 45 = .ok (.iconst 1, 1) := by decide +kernel
theorem dT_findBoth_46 : decode bT_findBoth 46 = .ok (.iadd, 1) := by decide +kernel
theorem dT_findBoth_47 : decode bT_findBoth 47 = .ok (.invokevirtual 49, 3) := by decide +kernel
theorem dT_findBoth_50 : decode bT_findBoth 50 = .ok (.istore_n 3, 1) := by decide +kernel
theorem dT_findBoth_51 : decode bT_findBoth 51 = .ok (.goto (-41), 3) := by decide +kernel
theorem dT_findBoth_54 : decode bT_findBoth 54 = .ok (.iconst (-1), 1) := by decide +kernel
theorem dT_findBoth_55 : decode bT_findBoth 55 = .ok (.ireturn, 1) := by decide +kernel
theorem dT_otherPart_0 : decode bT_otherPart 0 = .ok (.aload_n 0, 1) := by decide +kernel
theorem dT_otherPart_1 : decode bT_otherPart 1 = .ok (.getfield 15, 3) := by decide +kernel
theorem dT_otherPart_4 : decode bT_otherPart 4 = .ok (.iload_n 1, 1) := by decide +kernel
theorem dT_otherPart_5 : decode bT_otherPart 5 = .ok (.iaload, 1) := by decide +kernel
theorem dT_otherPart_6 : decode bT_otherPart 6 = .ok (.iload_n 2, 1) := by decide +kernel
theorem dT_otherPart_7 : decode bT_otherPart 7 = .ok (.if_icmp .ne 12, 3) := by decide +kernel
theorem dT_otherPart_10 : decode bT_otherPart 10 = .ok (.aload_n 0, 1) := by decide +kernel
theorem dT_otherPart_11 : decode bT_otherPart 11 = .ok (.getfield 18, 3) := by decide +kernel
theorem dT_otherPart_14 : decode bT_otherPart 14 = .ok (.iload_n 1, 1) := by decide +kernel
theorem dT_otherPart_15 : decode bT_otherPart 15 = .ok (.iaload, 1) := by decide +kernel
theorem dT_otherPart_16 : decode bT_otherPart 16 = .ok (.goto 9, 3) := by decide +kernel
theorem dT_otherPart_19 : decode bT_otherPart 19 = .ok (.aload_n 0, 1) := by decide +kernel
theorem dT_otherPart_20 : decode bT_otherPart 20 = .ok (.getfield 15, 3) := by decide +kernel
theorem dT_otherPart_23 : decode bT_otherPart 23 = .ok (.iload_n 1, 1) := by decide +kernel
theorem dT_otherPart_24 : decode bT_otherPart 24 = .ok (.iaload, 1) := by decide +kernel
theorem dT_otherPart_25 : decode bT_otherPart 25 = .ok (.ireturn, 1) := by decide +kernel
theorem dT_make_0 : decode bT_make 0 = .ok (.aload_n 0, 1) := by decide +kernel
theorem dT_make_1 : decode bT_make 1 = .ok (.getfield 42, 3) := by decide +kernel
theorem dT_make_4 : decode bT_make 4 = .ok (.sipush 160, 3) := by decide +kernel
theorem dT_make_7 : decode bT_make 7 = .ok (.if_icmp .lt 5, 3) := by decide +kernel
theorem dT_make_10 : decode bT_make 10 = .ok (.iconst (-1), 1) := by decide +kernel
theorem dT_make_11 : decode bT_make 11 = .ok (.ireturn, 1) := by decide +kernel
theorem dT_make_12 : decode bT_make 12 = .ok (.aload_n 0, 1) := by decide +kernel
theorem dT_make_13 : decode bT_make 13 = .ok (.getfield 42, 3) := by decide +kernel
theorem dT_make_16 : decode bT_make 16 = .ok (.istore 4, 2) := by decide +kernel
theorem dT_make_18 : decode bT_make 18 = .ok (.aload_n 0, 1) := by decide +kernel
theorem dT_make_19 : decode bT_make 19 = .ok (.dup, 1) := by decide +kernel
theorem dT_make_20 : decode bT_make 20 = .ok (.getfield 42, 3) := by decide +kernel
theorem dT_make_23 : decode bT_make 23 = .ok (.iconst 1, 1) := by decide +kernel
theorem dT_make_24 : decode bT_make 24 = .ok (.iadd, 1) := by decide +kernel
theorem dT_make_25 : decode bT_make 25 = .ok (.putfield 42, 3) := by decide +kernel
theorem dT_make_28 : decode bT_make 28 = .ok (.aload_n 0, 1) := by decide +kernel
theorem dT_make_29 : decode bT_make 29 = .ok (.getfield 9, 3) := by decide +kernel
theorem dT_make_32 : decode bT_make 32 = .ok (.iload 4, 2) := by decide +kernel
theorem dT_make_34 : decode bT_make 34 = .ok (.iload_n 1, 1) := by decide +kernel
theorem dT_make_35 : decode bT_make 35 = .ok (.iastore, 1) := by decide +kernel
theorem dT_make_36 : decode bT_make 36 = .ok (.aload_n 0, 1) := by decide +kernel
theorem dT_make_37 : decode bT_make 37 = .ok (.getfield 15, 3) := by decide +kernel
theorem dT_make_40 : decode bT_make 40 = .ok (.iload 4, 2) := by decide +kernel
theorem dT_make_42 : decode bT_make 42 = .ok (.iload_n 2, 1) := by decide +kernel
theorem dT_make_43 : decode bT_make 43 = .ok (.iastore, 1) := by decide +kernel
theorem dT_make_44 : decode bT_make 44 = .ok (.aload_n 0, 1) := by decide +kernel
theorem dT_make_45 : decode bT_make 45 = .ok (.getfield 18, 3) := by decide +kernel
theorem dT_make_48 : decode bT_make 48 = .ok (.iload 4, 2) := by decide +kernel
theorem dT_make_50 : decode bT_make 50 = .ok (.iload_n 3, 1) := by decide +kernel
theorem dT_make_51 : decode bT_make 51 = .ok (.iastore, 1) := by decide +kernel
theorem dT_make_52 : decode bT_make 52 = .ok (.iload_n 1, 1) := by decide +kernel
theorem dT_make_53 : decode bT_make 53 = .ok (.iconst 1, 1) := by decide +kernel
theorem dT_make_54 : decode bT_make 54 = .ok (.if_icmp .ne 16, 3) := by decide +kernel
theorem dT_make_57 : decode bT_make 57 = .ok (.aload_n 0, 1) := by decide +kernel
theorem dT_make_58 : decode bT_make 58 = .ok (.dup, 1) := by decide +kernel
theorem dT_make_59 : decode bT_make 59 = .ok (.getfield 46, 3) := by decide +kernel
theorem dT_make_62 : decode bT_make 62 = .ok (.iconst 1, 1) := by decide +kernel
theorem dT_make_63 : decode bT_make 63 = .ok (.iadd, 1) := by decide +kernel
theorem dT_make_64 : decode bT_make 64 = .ok (.putfield 46, 3) := by decide +kernel
theorem dT_make_67 : decode bT_make 67 = .ok (.goto 62, 3) := by decide +kernel
theorem dT_make_70 : decode bT_make 70 = .ok (.iload_n 1, 1) := by decide +kernel
theorem dT_make_71 : decode bT_make 71 = .ok (.iconst 2, 1) := by decide +kernel
theorem dT_make_72 : decode bT_make 72 = .ok (.if_icmp .ne 28, 3) := by decide +kernel
theorem dT_make_75 : decode bT_make 75 = .ok (.aload_n 0, 1) := by decide +kernel
theorem dT_make_76 : decode bT_make 76 = .ok (.getfield 29, 3) := by decide +kernel
theorem dT_make_79 : decode bT_make 79 = .ok (.iload_n 2, 1) := by decide +kernel
theorem dT_make_80 : decode bT_make 80 = .ok (.iload 4, 2) := by decide +kernel
theorem dT_make_82 : decode bT_make 82 = .ok (.invokevirtual 53, 3) := by decide +kernel
theorem dT_make_85 : decode bT_make 85 = .ok (.pop, 1) := by decide +kernel
theorem dT_make_86 : decode bT_make 86 = .ok (.aload_n 0, 1) := by decide +kernel
theorem dT_make_87 : decode bT_make 87 = .ok (.getfield 29, 3) := by decide +kernel
theorem dT_make_90 : decode bT_make 90 = .ok (.iload_n 3, 1) := by decide +kernel
theorem dT_make_91 : decode bT_make 91 = .ok (.iload 4, 2) := by decide +kernel
theorem dT_make_93 : decode bT_make 93 = .ok (.invokevirtual 53, 3) := by decide +kernel
theorem dT_make_96 : decode bT_make 96 = .ok (.pop, 1) := by decide +kernel
theorem dT_make_97 : decode bT_make 97 = .ok (.goto 32, 3) := by decide +kernel
theorem dT_make_100 : decode bT_make 100 = .ok (.iload_n 1, 1) := by decide +kernel
theorem dT_make_101 : decode bT_make 101 = .ok (.iconst 3, 1) := by decide +kernel
theorem dT_make_102 : decode bT_make 102 = .ok (.if_icmp .ne 27, 3) := by decide +kernel
theorem dT_make_105 : decode bT_make 105 = .ok (.aload_n 0, 1) := by decide +kernel
theorem dT_make_106 : decode bT_make 106 = .ok (.getfield 21, 3) := by decide +kernel
theorem dT_make_109 : decode bT_make 109 = .ok (.iload_n 2, 1) := by decide +kernel
theorem dT_make_110 : decode bT_make 110 = .ok (.sipush 160, 3) := by decide +kernel
theorem dT_make_113 : decode bT_make 113 = .ok (.imul, 1) := by decide +kernel
theorem dT_make_114 : decode bT_make 114 = .ok (.iload_n 3, 1) := by decide +kernel
theorem dT_make_115 : decode bT_make 115 = .ok (.iadd, 1) := by decide +kernel
theorem dT_make_116 : decode bT_make 116 = .ok (.iload 4, 2) := by decide +kernel
theorem dT_make_118 : decode bT_make 118 = .ok (.iastore, 1) := by decide +kernel
theorem dT_make_119 : decode bT_make 119 = .ok (.aload_n 0, 1) := by decide +kernel
theorem dT_make_120 : decode bT_make 120 = .ok (.getfield 33, 3) := by decide +kernel
theorem dT_make_123 : decode bT_make 123 = .ok (.iload_n 2, 1) := by decide +kernel
theorem dT_make_124 : decode bT_make 124 = .ok (.iload_n 3, 1) := by decide +kernel
theorem dT_make_125 : decode bT_make 125 = .ok (.invokevirtual 53, 3) := by decide +kernel
theorem dT_make_128 : decode bT_make 128 = .ok (.pop, 1) := by decide +kernel
theorem dT_make_129 : decode bT_make 129 = .ok (.iload 4, 2) := by decide +kernel
theorem dT_make_131 : decode bT_make 131 = .ok (.ireturn, 1) := by decide +kernel
theorem dJl_bitCount_0 : decode bJl_bitCount 0 = .ok (.lload_n 0, 1) := by decide +kernel
theorem dJl_bitCount_1 : decode bJl_bitCount 1 = .ok (.lload_n 0, 1) := by decide +kernel
theorem dJl_bitCount_2 : decode bJl_bitCount 2 = .ok (.iconst 1, 1) := by decide +kernel
theorem dJl_bitCount_3 : decode bJl_bitCount 3 = .ok (.lushr, 1) := by decide +kernel
theorem dJl_bitCount_4 : decode bJl_bitCount 4 = .ok (.ldc2_w 314, 3) := by decide +kernel
theorem dJl_bitCount_7 : decode bJl_bitCount 7 = .ok (.land, 1) := by decide +kernel
theorem dJl_bitCount_8 : decode bJl_bitCount 8 = .ok (.lsub, 1) := by decide +kernel
theorem dJl_bitCount_9 : decode bJl_bitCount 9 = .ok (.lstore_n 0, 1) := by decide +kernel
theorem dJl_bitCount_10 : decode bJl_bitCount 10 = .ok (.lload_n 0, 1) := by decide +kernel
theorem dJl_bitCount_11 : decode bJl_bitCount 11 = .ok (.ldc2_w 316, 3) := by decide +kernel
theorem dJl_bitCount_14 : decode bJl_bitCount 14 = .ok (.land, 1) := by decide +kernel
theorem dJl_bitCount_15 : decode bJl_bitCount 15 = .ok (.lload_n 0, 1) := by decide +kernel
theorem dJl_bitCount_16 : decode bJl_bitCount 16 = .ok (.iconst 2, 1) := by decide +kernel
theorem dJl_bitCount_17 : decode bJl_bitCount 17 = .ok (.lushr, 1) := by decide +kernel
theorem dJl_bitCount_18 : decode bJl_bitCount 18 = .ok (.ldc2_w 316, 3) := by decide +kernel
theorem dJl_bitCount_21 : decode bJl_bitCount 21 = .ok (.land, 1) := by decide +kernel
theorem dJl_bitCount_22 : decode bJl_bitCount 22 = .ok (.ladd, 1) := by decide +kernel
theorem dJl_bitCount_23 : decode bJl_bitCount 23 = .ok (.lstore_n 0, 1) := by decide +kernel
theorem dJl_bitCount_24 : decode bJl_bitCount 24 = .ok (.lload_n 0, 1) := by decide +kernel
theorem dJl_bitCount_25 : decode bJl_bitCount 25 = .ok (.lload_n 0, 1) := by decide +kernel
theorem dJl_bitCount_26 : decode bJl_bitCount 26 = .ok (.iconst 4, 1) := by decide +kernel
theorem dJl_bitCount_27 : decode bJl_bitCount 27 = .ok (.lushr, 1) := by decide +kernel
theorem dJl_bitCount_28 : decode bJl_bitCount 28 = .ok (.ladd, 1) := by decide +kernel
theorem dJl_bitCount_29 : decode bJl_bitCount 29 = .ok (.ldc2_w 318, 3) := by decide +kernel
theorem dJl_bitCount_32 : decode bJl_bitCount 32 = .ok (.land, 1) := by decide +kernel
theorem dJl_bitCount_33 : decode bJl_bitCount 33 = .ok (.lstore_n 0, 1) := by decide +kernel
theorem dJl_bitCount_34 : decode bJl_bitCount 34 = .ok (.lload_n 0, 1) := by decide +kernel
theorem dJl_bitCount_35 : decode bJl_bitCount 35 = .ok (.lload_n 0, 1) := by decide +kernel
theorem dJl_bitCount_36 : decode bJl_bitCount 36 = .ok (.bipush 8, 2) := by decide +kernel
theorem dJl_bitCount_38 : decode bJl_bitCount 38 = .ok (.lushr, 1) := by decide +kernel
theorem dJl_bitCount_39 : decode bJl_bitCount 39 = .ok (.ladd, 1) := by decide +kernel
theorem dJl_bitCount_40 : decode bJl_bitCount 40 = .ok (.lstore_n 0, 1) := by decide +kernel
theorem dJl_bitCount_41 : decode bJl_bitCount 41 = .ok (.lload_n 0, 1) := by decide +kernel
theorem dJl_bitCount_42 : decode bJl_bitCount 42 = .ok (.lload_n 0, 1) := by decide +kernel
theorem dJl_bitCount_43 : decode bJl_bitCount 43 = .ok (.bipush 16, 2) := by decide +kernel
theorem dJl_bitCount_45 : decode bJl_bitCount 45 = .ok (.lushr, 1) := by decide +kernel
theorem dJl_bitCount_46 : decode bJl_bitCount 46 = .ok (.ladd, 1) := by decide +kernel
theorem dJl_bitCount_47 : decode bJl_bitCount 47 = .ok (.lstore_n 0, 1) := by decide +kernel
theorem dJl_bitCount_48 : decode bJl_bitCount 48 = .ok (.lload_n 0, 1) := by decide +kernel
theorem dJl_bitCount_49 : decode bJl_bitCount 49 = .ok (.lload_n 0, 1) := by decide +kernel
theorem dJl_bitCount_50 : decode bJl_bitCount 50 = .ok (.bipush 32, 2) := by decide +kernel
theorem dJl_bitCount_52 : decode bJl_bitCount 52 = .ok (.lushr, 1) := by decide +kernel
theorem dJl_bitCount_53 : decode bJl_bitCount 53 = .ok (.ladd, 1) := by decide +kernel
theorem dJl_bitCount_54 : decode bJl_bitCount 54 = .ok (.lstore_n 0, 1) := by decide +kernel
theorem dJl_bitCount_55 : decode bJl_bitCount 55 = .ok (.lload_n 0, 1) := by decide +kernel
theorem dJl_bitCount_56 : decode bJl_bitCount 56 = .ok (.l2i, 1) := by decide +kernel
theorem dJl_bitCount_57 : decode bJl_bitCount 57 = .ok (.bipush 127, 2) := by decide +kernel
theorem dJl_bitCount_59 : decode bJl_bitCount 59 = .ok (.iand, 1) := by decide +kernel
theorem dJl_bitCount_60 : decode bJl_bitCount 60 = .ok (.ireturn, 1) := by decide +kernel
theorem dJm_min_0 : decode bJm_min 0 = .ok (.iload_n 0, 1) := by decide +kernel
theorem dJm_min_1 : decode bJm_min 1 = .ok (.iload_n 1, 1) := by decide +kernel
theorem dJm_min_2 : decode bJm_min 2 = .ok (.if_icmp .gt 7, 3) := by decide +kernel
theorem dJm_min_5 : decode bJm_min 5 = .ok (.iload_n 0, 1) := by decide +kernel
theorem dJm_min_6 : decode bJm_min 6 = .ok (.goto 4, 3) := by decide +kernel
theorem dJm_min_9 : decode bJm_min 9 = .ok (.iload_n 1, 1) := by decide +kernel
theorem dJm_min_10 : decode bJm_min 10 = .ok (.ireturn, 1) := by decide +kernel
theorem dJa_fill_0 : decode bJa_fill 0 = .ok (.iconst 0, 1) := by decide +kernel
theorem dJa_fill_1 : decode bJa_fill 1 = .ok (.istore_n 2, 1) := by decide +kernel
theorem dJa_fill_2 : decode bJa_fill 2 = .ok (.aload_n 0, 1) := by decide +kernel
theorem dJa_fill_3 : decode bJa_fill 3 = .ok (.arraylength, 1) := by decide +kernel
theorem dJa_fill_4 : decode bJa_fill 4 = .ok (.istore_n 3, 1) := by decide +kernel
theorem dJa_fill_5 : decode bJa_fill 5 = .ok (.iload_n 2, 1) := by decide +kernel
theorem dJa_fill_6 : decode bJa_fill 6 = .ok (.iload_n 3, 1) := by decide +kernel
theorem dJa_fill_7 : decode bJa_fill 7 = .ok (.if_icmp .ge 13, 3) := by decide +kernel
theorem dJa_fill_10 : decode bJa_fill 10 = .ok (.aload_n 0, 1) := by decide +kernel
theorem dJa_fill_11 : decode bJa_fill 11 = .ok (.iload_n 2, 1) := by decide +kernel
theorem dJa_fill_12 : decode bJa_fill 12 = .ok (.iload_n 1, 1) := by decide +kernel
theorem dJa_fill_13 : decode bJa_fill 13 = .ok (.iastore, 1) := by decide +kernel
theorem dJa_fill_14 : decode bJa_fill 14 = .ok (.iinc 2 1, 3) := by decide +kernel
theorem dJa_fill_17 : decode bJa_fill 17 = .ok (.goto (-12), 3) := by decide +kernel
theorem dJa_fill_20 : decode bJa_fill 20 = .ok (.return_, 1) := by decide +kernel
end
section
/-! Bits: words out of a table of rows and bits, and what the operations on words do to the table. ts_ and wb_ rows: of kit/laws/BITS.to-paste. -/
theorem ts_nf {x : Bool} (h : ¬ x = false) : x = true := by cases x <;> first | rfl | exact absurd rfl h
theorem ts_nt {x : Bool} (h : ¬ x = true) : x = false := by cases x <;> first | rfl | exact absurd rfl h
theorem wb_inj {a b : Int64} (h : a.toBitVec = b.toBitVec) : a = b := Int64.toBitVec_inj.mp h
theorem wb_c : ∀ k, k < 64 → ((nI k).toInt64 &&& 63) = lN k := by decide +kernel
theorem wb_cu : ∀ k, k < 64 → ((nI k).toInt64.toUInt64 &&& Int64.toUInt64 63) = UInt64.ofNat k := by decide +kernel
def bI (b : Bool) : Int32 := if b then 1 else 0
theorem bI_t : bI true = 1 := rfl
theorem bI_f : bI false = 0 := rfl
theorem bI_0 {b : Bool} : bI b = 0 ↔ b = false := by cases b <;> decide
theorem bI_inj {a b : Bool} : bI a = bI b ↔ a = b := by cases a <;> cases b <;> decide
/-- a word that has the bits f -/
def tm_bv (f : Nat → Bool) : (n : Nat) → BitVec n
  | 0 => 0#0
  | n + 1 => BitVec.cons (f n) (tm_bv f n)
theorem tm_bv_get (f : Nat → Bool) : ∀ (n i : Nat), (tm_bv f n).getLsbD i = (decide (i < n) && f i)
  | 0, i => by simp [tm_bv]
  | n + 1, i => by
    rw [tm_bv, BitVec.getLsbD_cons, tm_bv_get f n i]
    by_cases h : i = n
    · subst h
      simp
    · rw [if_neg h]
      by_cases h2 : i < n
      · have h3 : i < n + 1 := by omega
        simp [h2, h3]
      · have h3 : ¬ i < n + 1 := by omega
        simp [h2, h3]
def tm_w (f : Nat → Bool) : Int64 := Int64.ofBitVec (tm_bv f 64)
theorem tm_w_get (f : Nat → Bool) {i : Nat} (h : i < 64) : (tm_w f).toBitVec.getLsbD i = f i := by
  show (tm_bv f 64).getLsbD i = f i
  rw [tm_bv_get]
  simp [h]
theorem tm_w_ext {x : Int64} {f : Nat → Bool} (h : ∀ i, i < 64 → x.toBitVec.getLsbD i = f i) : x = tm_w f :=
  wb_inj (BitVec.eq_of_getLsbD_eq (fun i hi => by rw [tm_w_get f hi]; exact h i hi))
theorem tm_w_congr {f g : Nat → Bool} (h : ∀ i, i < 64 → f i = g i) : tm_w f = tm_w g := tm_w_ext (fun i hi => by rw [tm_w_get f hi]; exact h i hi)
theorem tm_w_0 : tm_w (fun _ => false) = 0 := (tm_w_ext (fun i hi => by show (0#64).getLsbD i = false; simp)).symm
/-- the words of a table, wp words a row -/
def bw (wp : Nat) (B : Nat → Nat → Bool) (k : Nat) : Int64 := tm_w (fun i => B (k / wp) (k % wp * 64 + i))
theorem bw_dv {wp r q : Nat} (h : q < wp) : (r * wp + q) / wp = r ∧ (r * wp + q) % wp = q := by
  have h0 : 0 < wp := by omega
  constructor
  · rw [Nat.add_comm, Nat.add_mul_div_right _ _ h0, Nat.div_eq_of_lt h, Nat.zero_add]
  · rw [Nat.add_comm, Nat.add_mul_mod_self_right, Nat.mod_eq_of_lt h]
theorem bw_at {wp : Nat} (B : Nat → Nat → Bool) {r b : Nat} (h : b < wp * 64) : bw wp B (r * wp + b / 64) = tm_w (fun i => B r (b / 64 * 64 + i)) := by
  have h1 : b / 64 < wp := by omega
  unfold bw
  rw [(bw_dv h1).1, (bw_dv h1).2]
theorem bw_bit {wp : Nat} (B : Nat → Nat → Bool) {r b : Nat} (h : b < wp * 64) : (bw wp B (r * wp + b / 64)).toBitVec.getLsbD (b % 64) = B r b := by
  rw [bw_at B h, tm_w_get _ (Nat.mod_lt _ (by decide))]
  congr 1
  omega
def tm_put (B : Nat → Nat → Bool) (r b : Nat) : Nat → Nat → Bool := fun r' b' => B r' b' || (r' == r && b' == b)
def tm_drop (B : Nat → Nat → Bool) (r b : Nat) : Nat → Nat → Bool := fun r' b' => B r' b' && !(r' == r && b' == b)
def tm_clr (B : Nat → Nat → Bool) (n : Nat) : Nat → Nat → Bool := fun r' b' => !(decide (r' < n)) && B r' b'
theorem tm_put_iff {B : Nat → Nat → Bool} {r b r' b' : Nat} : tm_put B r b r' b' = true ↔ B r' b' = true ∨ (r' = r ∧ b' = b) := by
  simp [tm_put]
theorem tm_drop_iff {B : Nat → Nat → Bool} {r b r' b' : Nat} : tm_drop B r b r' b' = true ↔ B r' b' = true ∧ ¬ (r' = r ∧ b' = b) := by
  by_cases h : r' = r ∧ b' = b
  · simp [tm_drop, h.1, h.2]
  · have h2 : (r' == r && b' == b) = false := by
      cases hx : (r' == r && b' == b) with
      | false => rfl
      | true => exact absurd (by simpa using hx) h
    constructor
    · intro q
      refine ⟨?_, h⟩
      simpa [tm_drop, h2] using q
    · intro q
      simp [tm_drop, h2, q.1]
theorem tm_clr_iff {B : Nat → Nat → Bool} {n r' b' : Nat} : tm_clr B n r' b' = true ↔ ¬ r' < n ∧ B r' b' = true := by
  simp [tm_clr]
/-- a word of the table is another one: all others are as they were -/
theorem bw_upd {wp : Nat} {B C : Nat → Nat → Bool} {r q : Nat} {x : Int64} (hq : q < wp) (hx : ∀ i, i < 64 → x.toBitVec.getLsbD i = C r (q * 64 + i)) (ho : ∀ r' b', ¬ (r' = r ∧ b' / 64 = q) → C r' b' = B r' b') :
    vp_updL (bw wp B) (r * wp + q) x = bw wp C := by
  funext k
  show (if k = r * wp + q then x else bw wp B k) = bw wp C k
  by_cases hk : k = r * wp + q
  · rw [if_pos hk, hk]
    refine tm_w_ext (fun i hi => ?_)
    rw [(bw_dv hq).1, (bw_dv hq).2]
    exact hx i hi
  · rw [if_neg hk]
    refine tm_w_congr (fun i hi => ?_)
    refine (ho _ _ (fun h => hk ?_)).symm
    have e1 : k % wp = q := by
      have := h.2
      omega
    have e2 := Nat.div_add_mod k wp
    rw [h.1, e1, Nat.mul_comm] at e2
    exact e2.symm
theorem bw_put {wp : Nat} {B : Nat → Nat → Bool} {r b : Nat} {m : Int64} (h : b < wp * 64) (hm : m.toBitVec = BitVec.twoPow 64 (b % 64)) :
    vp_updL (bw wp B) (r * wp + b / 64) (bw wp B (r * wp + b / 64) ||| m) = bw wp (tm_put B r b) := by
  refine bw_upd (by omega) (fun i hi => ?_) (fun r' b' hn => ?_)
  · rw [Int64.toBitVec_or, BitVec.getLsbD_or, bw_at B h, tm_w_get _ hi, hm, BitVec.getLsbD_twoPow]
    by_cases e : b % 64 = i
    · have e2 : b / 64 * 64 + i = b := by omega
      have e3 : b % 64 < 64 := by omega
      simp [tm_put, e2, e, hi]
    · have e2 : ¬ b / 64 * 64 + i = b := by omega
      simp [tm_put, e2, e]
  · have : ¬ (r' = r ∧ b' = b) := fun z => hn ⟨z.1, by rw [z.2]⟩
    cases hB : B r' b' <;> simp [tm_put, hB, this] <;> omega
theorem bw_drop {wp : Nat} {B : Nat → Nat → Bool} {r b : Nat} {m : Int64} (h : b < wp * 64) (hm : m.toBitVec = BitVec.twoPow 64 (b % 64)) :
    vp_updL (bw wp B) (r * wp + b / 64) (bw wp B (r * wp + b / 64) &&& (m ^^^ (-1))) = bw wp (tm_drop B r b) := by
  have ha : (-1 : Int64).toBitVec = BitVec.allOnes 64 := by decide
  refine bw_upd (by omega) (fun i hi => ?_) (fun r' b' hn => ?_)
  · rw [Int64.toBitVec_and, BitVec.getLsbD_and, bw_at B h, tm_w_get _ hi, Int64.toBitVec_xor, hm, ha, BitVec.getLsbD_xor, BitVec.getLsbD_twoPow, BitVec.getLsbD_allOnes]
    by_cases e : b % 64 = i
    · have e2 : b / 64 * 64 + i = b := by omega
      simp [tm_drop, e2, e, hi]
    · have e2 : ¬ b / 64 * 64 + i = b := by omega
      simp [tm_drop, e2, e, hi]
  · have : ¬ (r' = r ∧ b' = b) := fun z => hn ⟨z.1, by rw [z.2]⟩
    cases hB : B r' b' <;> simp [tm_drop, hB, this] <;> omega
/-- the first j words are 0 -/
def bw_z (wp : Nat) (B : Nat → Nat → Bool) (j : Nat) : Nat → Int64 := fun k => if k < j then 0 else bw wp B k
theorem bw_z0 (wp : Nat) (B : Nat → Nat → Bool) : bw_z wp B 0 = bw wp B := by
  funext k
  simp [bw_z]
theorem bw_zs (wp : Nat) (B : Nat → Nat → Bool) (j : Nat) : vp_updL (bw_z wp B j) j 0 = bw_z wp B (j + 1) := by
  funext k
  show (if k = j then 0 else (if k < j then 0 else bw wp B k)) = (if k < j + 1 then 0 else bw wp B k)
  by_cases h : k = j
  · subst h
    simp
  · by_cases h2 : k < j
    · have h3 : k < j + 1 := by omega
      simp [h, h2, h3]
    · have h3 : ¬ k < j + 1 := by omega
      simp [h, h2, h3]
theorem bw_ze {wp : Nat} (h0 : 0 < wp) (B : Nat → Nat → Bool) (n : Nat) : bw_z wp B (n * wp) = bw wp (tm_clr B n) := by
  funext k
  show (if k < n * wp then 0 else bw wp B k) = bw wp (tm_clr B n) k
  by_cases h : k < n * wp
  · have h2 : k / wp < n := (Nat.div_lt_iff_lt_mul h0).mpr h
    rw [if_pos h, ← tm_w_0]
    refine tm_w_congr (fun i hi => ?_)
    simp [tm_clr, h2]
  · have h2 : ¬ k / wp < n := fun z => h ((Nat.div_lt_iff_lt_mul h0).mp z)
    rw [if_neg h]
    refine tm_w_congr (fun i hi => ?_)
    simp [tm_clr, h2]
/-- the shifts -/
theorem tm_ushr (w : Int64) {j : Nat} (hj : j < 64) : ((w.toUInt64 >>> ((nI j).toInt64.toUInt64 &&& Int64.toUInt64 63)).toInt64).toBitVec = w.toBitVec >>> j := by
  rw [wb_cu j hj]
  apply BitVec.eq_of_toNat_eq
  show (w.toUInt64 >>> UInt64.ofNat j).toNat = _
  have h1 : (UInt64.ofNat j).toNat = j := by
    show (BitVec.ofNat 64 j).toNat = j
    rw [BitVec.toNat_ofNat, Nat.mod_eq_of_lt (by omega)]
  rw [UInt64.toNat_shiftRight, h1, Nat.mod_eq_of_lt hj, BitVec.toNat_ushiftRight]
  rfl
theorem tm_shl1 : ∀ j, j < 64 → ((1 : Int64) <<< ((nI j).toInt64 &&& 63)).toBitVec = BitVec.twoPow 64 j := by decide +kernel
theorem tm_tp : ∀ j, j < 64 → BitVec.twoPow 64 j = (lN (2 ^ j)).toBitVec := by decide +kernel
theorem tm_sm : ∀ k, k < 64 → ((lN k).toBitVec.smod 64).toNat = k := by decide +kernel
/-- one bit of a word, shifted down and cut out -/
theorem tm_bit1 {x : Int64} {b : Bool} (h : x.toBitVec.getLsbD 0 = b) : (x &&& 1) = if b then 1 else 0 := by
  apply wb_inj
  rw [Int64.toBitVec_and]
  apply BitVec.eq_of_getLsbD_eq
  intro i hi
  have h1 : ((1 : Int64).toBitVec).getLsbD i = decide (i = 0) := by
    show (1#64).getLsbD i = _
    rw [BitVec.getLsbD_one]
    by_cases e : i = 0 <;> simp [e]
  rw [BitVec.getLsbD_and, h1]
  by_cases e : i = 0
  · subst e
    rw [h]
    cases b <;> simp <;> rfl
  · cases b
    · simp [e]
    · rw [if_pos rfl, h1]
      simp [e]
theorem tm_uget (w : Int64) {j : Nat} (hj : j < 64) : ((w.toUInt64 >>> ((nI j).toInt64.toUInt64 &&& Int64.toUInt64 63)).toInt64 &&& 1) = if w.toBitVec.getLsbD j then 1 else 0 :=
  tm_bit1 (by rw [tm_ushr w hj, BitVec.getLsbD_ushiftRight, Nat.add_zero])
theorem tm_sget (w : Int64) {j : Nat} (hj : j < 64) : ((w >>> ((nI j).toInt64 &&& 63)) &&& 1) = if w.toBitVec.getLsbD j then 1 else 0 :=
  tm_bit1 (by
    rw [wb_c j hj, Int64.toBitVec_shiftRight, BitVec.getLsbD_sshiftRight', tm_sm j hj]
    simp [hj])
/-- the lowest bit -/
theorem tm_low {x : Int64} (h : ¬ x = 0) : ∃ j, j < 64 ∧ x.toBitVec.getLsbD j = true ∧ ∀ i, i < j → x.toBitVec.getLsbD i = false := by
  have h1 : ∃ k, x.toBitVec.getLsbD k = true := by
    refine Classical.byContradiction (fun hn => h ?_)
    apply wb_inj
    apply BitVec.eq_of_getLsbD_eq
    intro i hi
    have : x.toBitVec.getLsbD i = false := ts_nt (fun z => hn ⟨i, z⟩)
    rw [this]
    show false = (0#64).getLsbD i
    simp
  obtain ⟨j, hj, hl⟩ := pk_least (fun k => x.toBitVec.getLsbD k = true) h1
  refine ⟨j, ?_, hj, fun i hi => ts_nt (hl i hi)⟩
  refine Nat.lt_of_not_le (fun hge => ?_)
  rw [BitVec.getLsbD_of_ge _ _ hge] at hj
  cases hj
theorem tm_lowmask {x : Int64} {j : Nat} (hj : j < 64) (h1 : x.toBitVec.getLsbD j = true) (h2 : ∀ i, i < j → x.toBitVec.getLsbD i = false) : (x &&& (-x)) - 1 = lN (2 ^ j - 1) := by
  have e : (x &&& (-x)) = lN (2 ^ j) := by
    apply wb_inj
    rw [Int64.toBitVec_and, Int64.toBitVec_neg, ← tm_tp j hj]
    apply BitVec.eq_of_getLsbD_eq
    intro i hi
    rw [BitVec.getLsbD_and, BitVec.getLsbD_neg, BitVec.getLsbD_twoPow]
    rcases Nat.lt_trichotomy i j with h | h | h
    · have e1 : ¬ j = i := by omega
      simp [h2 i h, e1]
    · subst h
      have e1 : ¬ ∃ q, q < i ∧ x.toBitVec.getLsbD q = true := fun ⟨q, a, b⟩ => by rw [h2 q a] at b; cases b
      simp [h1, hj, e1]
    · have e1 : ¬ j = i := by omega
      have e2 : ∃ q, q < i ∧ x.toBitVec.getLsbD q = true := ⟨j, h, h1⟩
      cases hx : x.toBitVec.getLsbD i <;> simp [hi, e1, e2]
  rw [e]
  have e3 : (1 : Int64) = lN 1 := rfl
  rw [e3, lN_sub (Nat.one_le_two_pow)]
/-- the first bit at or behind 'fr', within the width W -/
def tm_nx (f : Nat → Bool) (W fr r : Nat) : Prop := fr ≤ r ∧ r < W + 64 ∧ (∀ y, fr ≤ y → y < r → y < W → f y = false) ∧ (r < W → f r = true)
theorem tm_or63 : ∀ k, k < 1280 → nI k ||| 63 = nI (k / 64 * 64 + 63) := by decide +kernel
/-- the bits of a word that is shifted down to 'at' -/
theorem tm_shbit {wd : Int64} {f : Nat → Bool} {at' : Nat} (hw : ∀ i, i < 64 → wd.toBitVec.getLsbD i = f (at' / 64 * 64 + i)) (i : Nat) :
    ((wd.toUInt64 >>> ((nI (at' % 64)).toInt64.toUInt64 &&& Int64.toUInt64 63)).toInt64).toBitVec.getLsbD i = (decide (at' % 64 + i < 64) && f (at' + i)) := by
  rw [tm_ushr wd (Nat.mod_lt _ (by decide)), BitVec.getLsbD_ushiftRight]
  by_cases h : at' % 64 + i < 64
  · rw [hw _ h, show at' / 64 * 64 + (at' % 64 + i) = at' + i by omega]
    simp [h]
  · rw [BitVec.getLsbD_of_ge _ _ (by omega)]
    simp [h]
theorem tm_hit {wd : Int64} {f : Nat → Bool} {W fr at' j : Nat} (hw : ∀ i, i < 64 → wd.toBitVec.getLsbD i = f (at' / 64 * 64 + i)) (h1 : fr ≤ at') (h2 : ∀ y, fr ≤ y → y < at' → y < W → f y = false) (h3 : at' < W)
    (hj : ((wd.toUInt64 >>> ((nI (at' % 64)).toInt64.toUInt64 &&& Int64.toUInt64 63)).toInt64).toBitVec.getLsbD j = true)
    (hl : ∀ i, i < j → ((wd.toUInt64 >>> ((nI (at' % 64)).toInt64.toUInt64 &&& Int64.toUInt64 63)).toInt64).toBitVec.getLsbD i = false) : tm_nx f W fr (at' + j) := by
  rw [tm_shbit hw] at hj
  simp only [Bool.and_eq_true, decide_eq_true_eq] at hj
  refine ⟨by omega, by omega, fun y a b c => ?_, fun _ => hj.2⟩
  rcases Nat.lt_or_ge y at' with h | h
  · exact h2 y a h c
  · have e := hl (y - at') (by omega)
    rw [tm_shbit hw, show at' + (y - at') = y by omega] at e
    have e2 : at' % 64 + (y - at') < 64 := by omega
    simpa [e2] using e
theorem tm_miss {wd : Int64} {f : Nat → Bool} {W fr at' : Nat} (hw : ∀ i, i < 64 → wd.toBitVec.getLsbD i = f (at' / 64 * 64 + i)) (h2 : ∀ y, fr ≤ y → y < at' → y < W → f y = false)
    (h0 : (wd.toUInt64 >>> ((nI (at' % 64)).toInt64.toUInt64 &&& Int64.toUInt64 63)).toInt64 = 0) : ∀ y, fr ≤ y → y < at' / 64 * 64 + 63 + 1 → y < W → f y = false := by
  intro y a b c
  rcases Nat.lt_or_ge y at' with h | h
  · exact h2 y a h c
  · have e := tm_shbit hw (y - at')
    rw [h0, show at' + (y - at') = y by omega] at e
    have e2 : at' % 64 + (y - at') < 64 := by omega
    have e3 : ((0 : Int64).toBitVec).getLsbD (y - at') = false := by
      show (0#64).getLsbD _ = false
      simp
    rw [e3] at e
    simpa [e2] using e.symm
theorem bw_word {wp : Nat} (B : Nat → Nat → Bool) {r at' : Nat} (h : at' < wp * 64) : ∀ i, i < 64 → (bw wp B (r * wp + at' / 64)).toBitVec.getLsbD i = B r (at' / 64 * 64 + i) := fun i hi => by
  rw [bw_at B h, tm_w_get _ hi]
theorem bw_word2 {wp : Nat} (B C : Nat → Nat → Bool) {r q at' : Nat} (h : at' < wp * 64) : ∀ i, i < 64 → (bw wp B (r * wp + at' / 64) &&& (bw wp C (q * wp + at' / 64) ^^^ (-1))).toBitVec.getLsbD i = (B r (at' / 64 * 64 + i) && !C q (at' / 64 * 64 + i)) := fun i hi => by
  have ha : (-1 : Int64).toBitVec = BitVec.allOnes 64 := by decide
  rw [Int64.toBitVec_and, BitVec.getLsbD_and, bw_word B h i hi, Int64.toBitVec_xor, BitVec.getLsbD_xor, bw_word C h i hi, ha, BitVec.getLsbD_allOnes]
  simp [hi]
end
section
/-! Rows of one instruction over numbers in the form nI n; calls that only read; calls that change one cell; calls that change the whole world. -/
section TQ
variable {p : Program} {l : Launch} {e : Env} {R : Room} {s : State} {m : MethodId} {args : Array Value} {below : List Frame} {meth : Method} {c : Code} {H : Heap} {locs : List Loc} {cells slots : Nat} {Q : State → Prop}
variable {cc : ByteArray} {pc : Nat} {ls : Array Slot} {rest : List Value}
theorem tq_i {x y : Int32} (h : x = y) (k : W p l e R s m args below meth c H locs cells slots Q (F0 m pc ls (.int y :: rest))) : W p l e R s m args below meth c H locs cells slots Q (F0 m pc ls (.int x :: rest)) := h ▸ k
theorem tq_l {x y : Int64} (h : x = y) (k : W p l e R s m args below meth c H locs cells slots Q (F0 m pc ls (.long y :: rest))) : W p l e R s m args below meth c H locs cells slots Q (F0 m pc ls (.long x :: rest)) := h ▸ k
theorem tq_iadd (hx : p.tables.exec = Jvm.exec) (hb : c.code = cc) {a b : Nat} (hdg : decode cc pc = .ok (.iadd, 1))
    (k : W p l e R s m args below meth c H locs cells slots Q (F0 m (pc + 1) ls (.int (nI (a + b)) :: rest))) : W p l e R s m args below meth c H locs cells slots Q (F0 m pc ls (.int (nI b) :: .int (nI a) :: rest)) := lv_iadd hx hb hdg (tq_i (nI_add a b) k)
theorem tq_isub (hx : p.tables.exec = Jvm.exec) (hb : c.code = cc) {a b : Nat} (hdg : decode cc pc = .ok (.isub, 1)) (h : b ≤ a)
    (k : W p l e R s m args below meth c H locs cells slots Q (F0 m (pc + 1) ls (.int (nI (a - b)) :: rest))) : W p l e R s m args below meth c H locs cells slots Q (F0 m pc ls (.int (nI b) :: .int (nI a) :: rest)) := lv_isub hx hb hdg (tq_i (pk_sub h) k)
theorem tq_imul (hx : p.tables.exec = Jvm.exec) (hb : c.code = cc) {a b : Nat} (hdg : decode cc pc = .ok (.imul, 1))
    (k : W p l e R s m args below meth c H locs cells slots Q (F0 m (pc + 1) ls (.int (nI (a * b)) :: rest))) : W p l e R s m args below meth c H locs cells slots Q (F0 m pc ls (.int (nI b) :: .int (nI a) :: rest)) := lv_imul hx hb hdg (tq_i (pk_mul a b) k)
theorem tq_idiv (hx : p.tables.exec = Jvm.exec) (hb : c.code = cc) {a b : Nat} (hdg : decode cc pc = .ok (.idiv, 1)) (h1 : a < 2 ^ 31) (h2 : 0 < b) (h3 : b < 2 ^ 31)
    (k : W p l e R s m args below meth c H locs cells slots Q (F0 m (pc + 1) ls (.int (nI (a / b)) :: rest))) : W p l e R s m args below meth c H locs cells slots Q (F0 m pc ls (.int (nI b) :: .int (nI a) :: rest)) := lv_idiv hx hb hdg (nI_ne0 h2 h3) (tq_i (pk_div h1 h2 h3) k)
theorem tq_irem (hx : p.tables.exec = Jvm.exec) (hb : c.code = cc) {a b : Nat} (hdg : decode cc pc = .ok (.irem, 1)) (h1 : a < 2 ^ 31) (h2 : 0 < b) (h3 : b < 2 ^ 31)
    (k : W p l e R s m args below meth c H locs cells slots Q (F0 m (pc + 1) ls (.int (nI (a % b)) :: rest))) : W p l e R s m args below meth c H locs cells slots Q (F0 m pc ls (.int (nI b) :: .int (nI a) :: rest)) := lv_irem hx hb hdg (nI_ne0 h2 h3) (tq_i (pk_rem h1 h2 h3) k)
/-- shift down by 6; the low six bits -/
theorem tq_ishr6 (hx : p.tables.exec = Jvm.exec) (hb : c.code = cc) {a : Nat} (hdg : decode cc pc = .ok (.ishr, 1)) (h1 : a < 2 ^ 31)
    (k : W p l e R s m args below meth c H locs cells slots Q (F0 m (pc + 1) ls (.int (nI (a / 64)) :: rest))) : W p l e R s m args below meth c H locs cells slots Q (F0 m pc ls (.int (nI 6) :: .int (nI a) :: rest)) := lv_ishr hx hb hdg (tq_i (pk_shrN h1 (nI 6 &&& 31) 6 (by decide +kernel)) k)
theorem tq_iand63 (hx : p.tables.exec = Jvm.exec) (hb : c.code = cc) {a : Nat} (hdg : decode cc pc = .ok (.iand, 1)) (h1 : a < 2 ^ 31)
    (k : W p l e R s m args below meth c H locs cells slots Q (F0 m (pc + 1) ls (.int (nI (a % 64)) :: rest))) : W p l e R s m args below meth c H locs cells slots Q (F0 m pc ls (.int (nI 63) :: .int (nI a) :: rest)) := lv_iand hx hb hdg (tq_i (pk_andN (by omega) (m := nI 63) 6 (by decide +kernel)) k)
theorem tq_ior63 (hx : p.tables.exec = Jvm.exec) (hb : c.code = cc) {a : Nat} (hdg : decode cc pc = .ok (.ior, 1)) (h1 : a < 1280)
    (k : W p l e R s m args below meth c H locs cells slots Q (F0 m (pc + 1) ls (.int (nI (a / 64 * 64 + 63)) :: rest))) : W p l e R s m args below meth c H locs cells slots Q (F0 m pc ls (.int (nI 63) :: .int (nI a) :: rest)) := lv_ior hx hb hdg (tq_i (tm_or63 a h1) k)
theorem tq_ge (hx : p.tables.exec = Jvm.exec) (hb : c.code = cc) {a b : Nat} {off : Int} {tgt : Nat} (hdg : decode cc pc = .ok (.if_icmp .ge off, 3)) (ht : (pc : Int) + off = (tgt : Int)) (ha : a < 2 ^ 31) (hb2 : b < 2 ^ 31)
    (kt : b ≤ a → W p l e R s m args below meth c H locs cells slots Q (F0 m tgt ls rest)) (kf : a < b → W p l e R s m args below meth c H locs cells slots Q (F0 m (pc + 3) ls rest)) : W p l e R s m args below meth c H locs cells slots Q (F0 m pc ls (.int (nI b) :: .int (nI a) :: rest)) :=
  lv_icmp_ge hx hb hdg ht (fun h => kt ((nI_leI hb2 ha).mp h)) (fun h => kf (Nat.lt_of_not_le (fun z => h ((nI_leI hb2 ha).mpr z))))
theorem tq_lt (hx : p.tables.exec = Jvm.exec) (hb : c.code = cc) {a b : Nat} {off : Int} {tgt : Nat} (hdg : decode cc pc = .ok (.if_icmp .lt off, 3)) (ht : (pc : Int) + off = (tgt : Int)) (ha : a < 2 ^ 31) (hb2 : b < 2 ^ 31)
    (kt : a < b → W p l e R s m args below meth c H locs cells slots Q (F0 m tgt ls rest)) (kf : b ≤ a → W p l e R s m args below meth c H locs cells slots Q (F0 m (pc + 3) ls rest)) : W p l e R s m args below meth c H locs cells slots Q (F0 m pc ls (.int (nI b) :: .int (nI a) :: rest)) :=
  lv_icmp_lt hx hb hdg ht (fun h => kt ((nI_ltI ha hb2).mp h)) (fun h => kf (Nat.le_of_not_lt (fun z => h ((nI_ltI ha hb2).mpr z))))
theorem tq_le (hx : p.tables.exec = Jvm.exec) (hb : c.code = cc) {a b : Nat} {off : Int} {tgt : Nat} (hdg : decode cc pc = .ok (.if_icmp .le off, 3)) (ht : (pc : Int) + off = (tgt : Int)) (ha : a < 2 ^ 31) (hb2 : b < 2 ^ 31)
    (kt : a ≤ b → W p l e R s m args below meth c H locs cells slots Q (F0 m tgt ls rest)) (kf : b < a → W p l e R s m args below meth c H locs cells slots Q (F0 m (pc + 3) ls rest)) : W p l e R s m args below meth c H locs cells slots Q (F0 m pc ls (.int (nI b) :: .int (nI a) :: rest)) :=
  lv_icmp_le hx hb hdg ht (fun h => kt ((nI_leI ha hb2).mp h)) (fun h => kf (Nat.lt_of_not_le (fun z => h ((nI_leI ha hb2).mpr z))))
theorem tq_gt (hx : p.tables.exec = Jvm.exec) (hb : c.code = cc) {a b : Nat} {off : Int} {tgt : Nat} (hdg : decode cc pc = .ok (.if_icmp .gt off, 3)) (ht : (pc : Int) + off = (tgt : Int)) (ha : a < 2 ^ 31) (hb2 : b < 2 ^ 31)
    (kt : b < a → W p l e R s m args below meth c H locs cells slots Q (F0 m tgt ls rest)) (kf : a ≤ b → W p l e R s m args below meth c H locs cells slots Q (F0 m (pc + 3) ls rest)) : W p l e R s m args below meth c H locs cells slots Q (F0 m pc ls (.int (nI b) :: .int (nI a) :: rest)) :=
  lv_icmp_gt hx hb hdg ht (fun h => kt ((nI_ltI hb2 ha).mp h)) (fun h => kf (Nat.le_of_not_lt (fun z => h ((nI_ltI hb2 ha).mpr z))))
theorem tq_eq (hx : p.tables.exec = Jvm.exec) (hb : c.code = cc) {a b : Nat} {off : Int} {tgt : Nat} (hdg : decode cc pc = .ok (.if_icmp .eq off, 3)) (ht : (pc : Int) + off = (tgt : Int)) (ha : a < 2 ^ 31) (hb2 : b < 2 ^ 31)
    (kt : a = b → W p l e R s m args below meth c H locs cells slots Q (F0 m tgt ls rest)) (kf : ¬ a = b → W p l e R s m args below meth c H locs cells slots Q (F0 m (pc + 3) ls rest)) : W p l e R s m args below meth c H locs cells slots Q (F0 m pc ls (.int (nI b) :: .int (nI a) :: rest)) :=
  lv_icmp_eq hx hb hdg ht (fun h => kt ((nI_eq ha hb2).mp h)) (fun h => kf (fun z => h ((nI_eq ha hb2).mpr z)))
theorem tq_ne (hx : p.tables.exec = Jvm.exec) (hb : c.code = cc) {a b : Nat} {off : Int} {tgt : Nat} (hdg : decode cc pc = .ok (.if_icmp .ne off, 3)) (ht : (pc : Int) + off = (tgt : Int)) (ha : a < 2 ^ 31) (hb2 : b < 2 ^ 31)
    (kt : ¬ a = b → W p l e R s m args below meth c H locs cells slots Q (F0 m tgt ls rest)) (kf : a = b → W p l e R s m args below meth c H locs cells slots Q (F0 m (pc + 3) ls rest)) : W p l e R s m args below meth c H locs cells slots Q (F0 m pc ls (.int (nI b) :: .int (nI a) :: rest)) :=
  lv_icmp_ne hx hb hdg ht (fun h => kt (fun z => h ((nI_eq ha hb2).mpr z))) (fun h => kf ((nI_eq ha hb2).mp h))
/-- a truth on top: ifeq jumps where it is false -/
theorem tq_bf (hx : p.tables.exec = Jvm.exec) (hb : c.code = cc) {b : Bool} {off : Int} {tgt : Nat} (hdg : decode cc pc = .ok (.ifCond .eq off, 3)) (ht : (pc : Int) + off = (tgt : Int))
    (kt : b = false → W p l e R s m args below meth c H locs cells slots Q (F0 m tgt ls rest)) (kf : b = true → W p l e R s m args below meth c H locs cells slots Q (F0 m (pc + 3) ls rest)) : W p l e R s m args below meth c H locs cells slots Q (F0 m pc ls (.int (bI b) :: rest)) :=
  lv_if_eq hx hb hdg ht (fun h => kt (bI_0.mp h)) (fun h => kf (ts_nf (fun z => h (bI_0.mpr z))))
theorem tq_bt (hx : p.tables.exec = Jvm.exec) (hb : c.code = cc) {b : Bool} {off : Int} {tgt : Nat} (hdg : decode cc pc = .ok (.ifCond .ne off, 3)) (ht : (pc : Int) + off = (tgt : Int))
    (kt : b = true → W p l e R s m args below meth c H locs cells slots Q (F0 m tgt ls rest)) (kf : b = false → W p l e R s m args below meth c H locs cells slots Q (F0 m (pc + 3) ls rest)) : W p l e R s m args below meth c H locs cells slots Q (F0 m pc ls (.int (bI b) :: rest)) :=
  lv_if_ne hx hb hdg ht (fun h => kt (ts_nf (fun z => h (bI_0.mpr z)))) (fun h => kf (bI_0.mp h))
/-- two longs compared, equal or not -/
theorem tq_leq (hx : p.tables.exec = Jvm.exec) (hb : c.code = cc) {x y : Int64} {off : Int} {tgt : Nat} (hd0 : decode cc pc = .ok (.lcmp, 1)) (hdg : decode cc (pc + 1) = .ok (.ifCond .eq off, 3)) (ht : ((pc + 1 : Nat) : Int) + off = (tgt : Int))
    (kt : x = y → W p l e R s m args below meth c H locs cells slots Q (F0 m tgt ls rest)) (kf : ¬ x = y → W p l e R s m args below meth c H locs cells slots Q (F0 m (pc + 1 + 3) ls rest)) : W p l e R s m args below meth c H locs cells slots Q (F0 m pc ls (.long y :: .long x :: rest)) :=
  W.lcmp hx hb hd0 (lv_if_eq hx hb hdg ht (fun h => kt ((lg_cmp_eq _ _).mp h)) (fun h => kf (fun z => h ((lg_cmp_eq _ _).mpr z))))
theorem tq_lne (hx : p.tables.exec = Jvm.exec) (hb : c.code = cc) {x y : Int64} {off : Int} {tgt : Nat} (hd0 : decode cc pc = .ok (.lcmp, 1)) (hdg : decode cc (pc + 1) = .ok (.ifCond .ne off, 3)) (ht : ((pc + 1 : Nat) : Int) + off = (tgt : Int))
    (kt : ¬ x = y → W p l e R s m args below meth c H locs cells slots Q (F0 m tgt ls rest)) (kf : x = y → W p l e R s m args below meth c H locs cells slots Q (F0 m (pc + 1 + 3) ls rest)) : W p l e R s m args below meth c H locs cells slots Q (F0 m pc ls (.long y :: .long x :: rest)) :=
  W.lcmp hx hb hd0 (lv_if_ne hx hb hdg ht (fun h => kt (fun z => h ((lg_cmp_eq _ _).mpr z))) (fun h => kf ((lg_cmp_eq _ _).mp h)))
end TQ
/-! calls -/
def tq_rB (D : va_G) (cl : List vw_C) (ws : va_W) (tys : List (ClassId × FieldType)) (U : State) : Prop := va_P D cl ws U.heap ∧ va_K D cl tys U
def tq_wB (D : va_G) (cl : List vw_C) (ws : va_W) (tys : List (ClassId × FieldType)) (U : State) : Prop := va_P D cl ws U.heap ∧ va_K D cl tys U ∧ va_D (fun _ => True) ws
theorem tq_rB_blind {D : va_G} {cl : List vw_C} {ws : va_W} {tys : List (ClassId × FieldType)} {av : List Value} : FrameBlind (va_Pc av (tq_rB D cl ws tys)) :=
  fun a U g mk q => ⟨q.1, q.2.1, va_K.moved (u := U) (U := U.calling g mk a) (Vm.Alike.refl U.vm) q.2.2⟩
theorem tq_wB_blind {D : va_G} {cl : List vw_C} {ws : va_W} {tys : List (ClassId × FieldType)} {av : List Value} : FrameBlind (va_Pc av (tq_wB D cl ws tys)) :=
  fun a U g mk q => ⟨q.1, q.2.1, va_K.moved (u := U) (U := U.calling g mk a) (Vm.Alike.refl U.vm) q.2.2.1, q.2.2.2⟩
/-- what a world's addresses are -/
def tq_A (ws : va_W) (q : Nat) : Prop := q ∈ ws.map (fun x => x.1)
theorem tq_A_in {ws : va_W} {k : Nat} {q : Nat × va_E} (h : ws[k]? = some q) : tq_A ws q.1 := List.mem_map.mpr ⟨q, List.mem_of_getElem? h, rfl⟩
theorem tq_D_self {A : Nat → Prop} {ws : va_W} (h : va_D A ws) : va_D (tq_A ws) ws := ⟨h.1, fun _ _ hk => tq_A_in hk⟩
theorem tq_D_adr {A : Nat → Prop} {ws ws' : va_W} (h : va_D A ws) (e : ws'.map (fun x => x.1) = ws.map (fun x => x.1)) : va_D A ws' := by
  have key : ∀ (k : Nat) (q : Nat × va_E), ws'[k]? = some q → ∃ q0, ws[k]? = some q0 ∧ q0.1 = q.1 := by
    intro k q hk
    have h1 : (ws'.map (fun x => x.1))[k]? = some q.1 := by rw [List.getElem?_map, hk]; rfl
    rw [e, List.getElem?_map] at h1
    cases hw : ws[k]? with
    | none => rw [hw] at h1; cases h1
    | some q0 => rw [hw] at h1; exact ⟨q0, rfl, Option.some.inj h1⟩
  refine ⟨fun i j x y hi hj hxy => ?_, fun k q hk => ?_⟩
  · obtain ⟨x0, h1, h2⟩ := key i x hi
    obtain ⟨y0, h3, h4⟩ := key j y hj
    exact h.1 i j x0 y0 h1 h3 (h2.trans (hxy.trans h4.symm))
  · obtain ⟨q0, h1, h2⟩ := key k q hk
    rw [← h2]
    exact h.2 k q0 h1
/-- a part of the world is written, the rest stays -/
theorem tq_P_apart {D : va_G} {cl : List vw_C} {ws : va_W} {H H1 : Heap} {B : Nat → Prop} (hP : va_P D cl ws H) (hk : ∀ q : Nat, q < H.size → ¬ B q → H1[q]? = H[q]?) (hB : ∀ (k : Nat) (q : Nat × va_E), ws[k]? = some q → ¬ B q.1) : va_P D cl ws H1 :=
  hP.kept (fun k q hq => hk q.1 (hP k q hq).lt (hB k q hq))
theorem tq_P_set {D : va_G} {cl : List vw_C} {A : Nat → Prop} {p : Nat} {ws : va_W} {a : Nat} {e0 e : va_E} {H H1 : Heap} (h : va_P D cl ws H) (hD : va_D A ws) (hp : ws[p]? = some (a, e0)) (he : va_at D cl (a, e) H1) (oq : ∀ q : Nat, q < H.size → ¬ q = a → H1[q]? = H[q]?) : va_P D cl (ws.set p (a, e)) H1 := by
  have hl := (List.getElem?_eq_some_iff.mp hp).1
  intro k q hk
  by_cases hkp : k = p
  · subst hkp
    rw [List.getElem?_set_self hl] at hk
    cases hk
    exact he
  · rw [List.getElem?_set_ne (Ne.symm hkp)] at hk
    exact (h k q hk).kept (oq q.1 (h k q hk).lt (fun z => hkp (hD.1 k p q (a, e0) hk hp z)))
section TQC
variable {p : Program} {l : Launch} {e : Env} {R : Room} {s : State} {m : MethodId} {args : Array Value} {below : List Frame} {meth : Method} {c : Code} {H : Heap} {locs : List Loc} {cells slots : Nat} {Q : State → Prop}
variable {pc : Nat} {ls : Array Slot} {rest st0 : List Value} {a : Array Value} {A0 : Nat → Prop} {H0 : Heap} {D : va_G} {cl : List vw_C}
/-- behind a call that read: an int -/
theorem tq_rdi {post : Int32 → Prop} {ws : va_W} (hr : va_Run p l e R s m args below meth c H locs cells slots 0 0 (F0 m pc ls st0) rest (va_Qi (fun r (_ : Unit) => post r) (fun _ _ => True) (fun _ => False) a) (fun _ => False)) (hS : va_S A0 H0 H locs) (hP : va_P D cl ws H)
    (kk : ∀ (r : Int32) (H1 : Heap) (locs1 : List Loc), post r → va_P D cl ws H1 → va_S A0 H0 H1 locs1 → W p l e R s m args below meth c H1 locs1 cells slots Q (F0 m (pc + 3) ls (.int r :: rest))) : W p l e R s m args below meth c H locs cells slots Q (F0 m pc ls st0) :=
  va_calli hr hS (fun _ _ h => h.elim) (fun _ h => h.elim) (fun r _ _ H1 locs1 _ _ hp _ _ hk hS1 => kk r H1 locs1 hp (hP.kept (fun k q hq => hk q.1 (hP k q hq).lt (fun z => z))) hS1)
/-- .. an int that is known -/
theorem tq_rdv {v : Int32} {ws : va_W} (hr : va_Run p l e R s m args below meth c H locs cells slots 0 0 (F0 m pc ls st0) rest (va_Qi (fun r (_ : Unit) => r = v) (fun _ _ => True) (fun _ => False) a) (fun _ => False)) (hS : va_S A0 H0 H locs) (hP : va_P D cl ws H)
    (kk : ∀ (H1 : Heap) (locs1 : List Loc), va_P D cl ws H1 → va_S A0 H0 H1 locs1 → W p l e R s m args below meth c H1 locs1 cells slots Q (F0 m (pc + 3) ls (.int v :: rest))) : W p l e R s m args below meth c H locs cells slots Q (F0 m pc ls st0) :=
  tq_rdi hr hS hP (fun r H1 locs1 hp h1 h2 => by subst hp; exact kk H1 locs1 h1 h2)
/-- behind a call that wrote into the cells B: an int -/
theorem tq_wri {S : Type} {post : Int32 → S → Prop} {Bp : S → State → Prop} {B : Nat → Prop} (hr : va_Run p l e R s m args below meth c H locs cells slots 0 0 (F0 m pc ls st0) rest (va_Qi post Bp B a) B) (hS : va_S A0 H0 H locs) (hB : ∀ q, B q → A0 q)
    (kk : ∀ (r : Int32) (u : S) (t : State) (H1 : Heap) (locs1 : List Loc), t.heap = H1 → post r u → Bp u t → (∀ q : Nat, q < H.size → ¬ B q → H1[q]? = H[q]?) → va_S A0 H0 H1 locs1 → W p l e R s m args below meth c H1 locs1 cells slots Q (F0 m (pc + 3) ls (.int r :: rest))) : W p l e R s m args below meth c H locs cells slots Q (F0 m pc ls st0) :=
  va_calli hr hS (fun q _ h => hB q h) hB (fun r u t H1 locs1 ht _ hp hb _ hk hS1 => kk r u t H1 locs1 ht hp hb hk hS1)
theorem tq_wrv {S : Type} {post : S → Prop} {Bp : S → State → Prop} {B : Nat → Prop} (hr : va_Run p l e R s m args below meth c H locs cells slots 0 0 (F0 m pc ls st0) rest (va_Qv post Bp B a) B) (hS : va_S A0 H0 H locs) (hB : ∀ q, B q → A0 q)
    (kk : ∀ (u : S) (t : State) (H1 : Heap) (locs1 : List Loc), t.heap = H1 → post u → Bp u t → (∀ q : Nat, q < H.size → ¬ B q → H1[q]? = H[q]?) → va_S A0 H0 H1 locs1 → W p l e R s m args below meth c H1 locs1 cells slots Q (F0 m (pc + 3) ls rest)) : W p l e R s m args below meth c H locs cells slots Q (F0 m pc ls st0) :=
  va_callv hr hS (fun q _ h => hB q h) hB (fun u t H1 locs1 ht _ hp hb _ hk hS1 => kk u t H1 locs1 ht hp hb hk hS1)
end TQC
section TQA
variable {p : Program} {l : Launch} {e : Env} {R : Room} {s : State} {m : MethodId} {args : Array Value} {below : List Frame} {meth : Method} {c : Code} {H : Heap} {locs : List Loc} {cells slots : Nat} {Q : State → Prop}
variable {cc : ByteArray} {pc : Nat} {ls : Array Slot} {rest : List Value} {D : va_G} {cl : List vw_C} {A : Nat → Prop} {a : Nat} {tys : List (ClassId × FieldType)} {ws : va_W} {H0 : Heap}
theorem tq_iald (hx : p.tables.exec = Jvm.exec) (hb : c.code = cc) (hK : va_K D cl tys s) (hP : va_P D cl ws H) (q0 t0 : Nat) {cA : ClassId} {n : Nat} {f : Nat → Int32} (ha : ws[q0]? = some (a, .inl (cA, n, .inl f))) (ht : tys[t0]? = some (cA, .int)) {i : Nat} (hi : i < n) (hn : n < 2 ^ 31) (hdg : decode cc pc = .ok (.iaload, 1))
    (kk : W p l e R s m args below meth c H locs cells slots Q (F0 m (pc + 1) ls (.int (f i) :: rest))) : W p l e R s m args below meth c H locs cells slots Q (F0 m pc ls (.int (nI i) :: .ref a :: rest)) :=
  va_iald hx hb hK hP q0 t0 ha ht (vp_in_nI hi hn) hdg (by rw [nI_clamp (Nat.lt_trans hi hn)]; exact kk)
theorem tq_zald (hx : p.tables.exec = Jvm.exec) (hb : c.code = cc) (hK : va_K D cl tys s) (hP : va_P D cl ws H) (q0 t0 : Nat) {cA : ClassId} {n : Nat} {f : Nat → Int32} (ha : ws[q0]? = some (a, .inl (cA, n, .inl f))) (ht : tys[t0]? = some (cA, .boolean)) {i : Nat} (hi : i < n) (hn : n < 2 ^ 31) (hdg : decode cc pc = .ok (.baload, 1))
    (kk : W p l e R s m args below meth c H locs cells slots Q (F0 m (pc + 1) ls (.int (f i) :: rest))) : W p l e R s m args below meth c H locs cells slots Q (F0 m pc ls (.int (nI i) :: .ref a :: rest)) :=
  va_zald hx hb hK hP q0 t0 ha ht (vp_in_nI hi hn) hdg (by rw [nI_clamp (Nat.lt_trans hi hn)]; exact kk)
theorem tq_lald (hx : p.tables.exec = Jvm.exec) (hb : c.code = cc) (hK : va_K D cl tys s) (hP : va_P D cl ws H) (q0 t0 : Nat) {cA : ClassId} {n : Nat} {f : Nat → Int64} (ha : ws[q0]? = some (a, .inl (cA, n, .inr (.inl f)))) (ht : tys[t0]? = some (cA, .long)) {i : Nat} (hi : i < n) (hn : n < 2 ^ 31) (hdg : decode cc pc = .ok (.laload, 1))
    (kk : W p l e R s m args below meth c H locs cells slots Q (F0 m (pc + 1) ls (.long (f i) :: rest))) : W p l e R s m args below meth c H locs cells slots Q (F0 m pc ls (.int (nI i) :: .ref a :: rest)) :=
  va_lald hx hb hK hP q0 t0 ha ht (vp_in_nI hi hn) hdg (by rw [nI_clamp (Nat.lt_trans hi hn)]; exact kk)
theorem tq_iast (hx : p.tables.exec = Jvm.exec) (hb : c.code = cc) (hK : va_K D cl tys s) (hP : va_P D cl ws H) (hD : va_D A ws) (hS : va_S A H0 H locs) (q0 t0 : Nat) {cA : ClassId} {n : Nat} {f : Nat → Int32} (ha : ws[q0]? = some (a, .inl (cA, n, .inl f))) (ht : tys[t0]? = some (cA, .int)) {i : Nat} {x : Int32} (hi : i < n) (hn : n < 2 ^ 31) (hdg : decode cc pc = .ok (.iastore, 1))
    (kk : ∀ (H1 : Heap) (locs1 : List Loc), va_P D cl (ws.set q0 (a, .inl (cA, n, .inl (upd f i x)))) H1 → va_D A (ws.set q0 (a, .inl (cA, n, .inl (upd f i x)))) → va_S A H0 H1 locs1 → W p l e R s m args below meth c H1 locs1 cells slots Q (F0 m (pc + 1) ls rest)) : W p l e R s m args below meth c H locs cells slots Q (F0 m pc ls (.int x :: .int (nI i) :: .ref a :: rest)) :=
  va_iast hx hb hK hP hD hS q0 t0 ha ht (vp_in_nI hi hn) hdg (by rw [nI_clamp (Nat.lt_trans hi hn)]; exact kk)
theorem tq_last (hx : p.tables.exec = Jvm.exec) (hb : c.code = cc) (hK : va_K D cl tys s) (hP : va_P D cl ws H) (hD : va_D A ws) (hS : va_S A H0 H locs) (q0 t0 : Nat) {cA : ClassId} {n : Nat} {f : Nat → Int64} (ha : ws[q0]? = some (a, .inl (cA, n, .inr (.inl f)))) (ht : tys[t0]? = some (cA, .long)) {i : Nat} {x : Int64} (hi : i < n) (hn : n < 2 ^ 31) (hdg : decode cc pc = .ok (.lastore, 1))
    (kk : ∀ (H1 : Heap) (locs1 : List Loc), va_P D cl (ws.set q0 (a, .inl (cA, n, .inr (.inl (vp_updL f i x))))) H1 → va_D A (ws.set q0 (a, .inl (cA, n, .inr (.inl (vp_updL f i x))))) → va_S A H0 H1 locs1 → W p l e R s m args below meth c H1 locs1 cells slots Q (F0 m (pc + 1) ls rest)) : W p l e R s m args below meth c H locs cells slots Q (F0 m pc ls (.long x :: .int (nI i) :: .ref a :: rest)) :=
  va_last hx hb hK hP hD hS q0 t0 ha ht (vp_in_nI hi hn) hdg (by rw [nI_clamp (Nat.lt_trans hi hn)]; exact kk)
theorem tq_zast (hx : p.tables.exec = Jvm.exec) (hb : c.code = cc) (hK : va_K D cl tys s) (hP : va_P D cl ws H) (hD : va_D A ws) (hS : va_S A H0 H locs) (q0 t0 : Nat) {cA : ClassId} {n : Nat} {f : Nat → Int32} (ha : ws[q0]? = some (a, .inl (cA, n, .inl f))) (ht : tys[t0]? = some (cA, .boolean)) {i : Nat} {x : Int32} (hi : i < n) (hn : n < 2 ^ 31) (hx1 : vp_nar .boolean x = x) (hdg : decode cc pc = .ok (.bastore, 1))
    (kk : ∀ (H1 : Heap) (locs1 : List Loc), va_P D cl (ws.set q0 (a, .inl (cA, n, .inl (upd f i x)))) H1 → va_D A (ws.set q0 (a, .inl (cA, n, .inl (upd f i x)))) → va_S A H0 H1 locs1 → W p l e R s m args below meth c H1 locs1 cells slots Q (F0 m (pc + 1) ls rest)) : W p l e R s m args below meth c H locs cells slots Q (F0 m pc ls (.int x :: .int (nI i) :: .ref a :: rest)) :=
  va_zast hx hb hK hP hD hS q0 t0 ha ht (vp_in_nI hi hn) hdg (by rw [nI_clamp (Nat.lt_trans hi hn), hx1]; exact kk)
end TQA
theorem tq_nz (b : Bool) : narrow .boolean (.int (bI b)) = .int (bI b) := by cases b <;> rfl
section TQG
variable {p : Program} {l : Launch} {e : Env} {R : Room} {s : State} {m : MethodId} {args : Array Value} {below : List Frame} {meth : Method} {c : Code} {H : Heap} {locs : List Loc} {cells slots : Nat} {Q : State → Prop} {g : JFrame}
theorem tq_gen (k : ∀ (R' : Room) (Q' : State → Prop), R' = R → Q' = Q → W p l e R' s m args below meth c H locs cells slots Q' g) : W p l e R s m args below meth c H locs cells slots Q g := k R Q rfl rfl
end TQG
theorem tq_D2 {A : Nat → Prop} {h w : Nat} {e0 e1 : va_E} (hD : va_D A [(h, e0), (w, e1)]) : va_D (fun q => q = h ∨ q = w) [(h, e0), (w, e1)] := by
  refine ⟨hD.1, fun k q hk => ?_⟩
  rcases List.mem_cons.mp (List.mem_of_getElem? hk) with e | e
  · exact Or.inl (by rw [e])
  · exact Or.inr (by rw [List.mem_singleton.mp e])
/-- behind a call that wrote into an object's array: the world with the array anew -/
theorem tq_bits {D : va_G} {cl : List vw_C} {A : Nat → Prop} {ws : va_W} {H H1 : Heap} {h w i j : Nat} {e0 e1 x : va_E} (hP : va_P D cl ws H) (hD : va_D A ws) (hi : ws[i]? = some (h, e0)) (hj : ws[j]? = some (w, x)) (hB : va_P D cl [(h, e0), (w, e1)] H1) (hk : ∀ q : Nat, q < H.size → ¬ (q = h ∨ q = w) → H1[q]? = H[q]?) : va_P D cl (ws.set j (w, e1)) H1 := by
  have hl := (List.getElem?_eq_some_iff.mp hj).1
  intro k q hq
  by_cases hkj : k = j
  · subst hkj
    rw [List.getElem?_set_self hl] at hq
    cases hq
    exact hB 1 _ rfl
  · rw [List.getElem?_set_ne (Ne.symm hkj)] at hq
    by_cases hh : q.1 = h
    · have hki := hD.1 k i q (h, e0) hq hi hh
      subst hki
      have e9 : q = (h, e0) := Option.some.inj (hq.symm.trans hi)
      subst e9
      exact hB 0 _ rfl
    · exact (hP k q hq).kept (hk q.1 (hP k q hq).lt (fun z => z.elim hh (fun z => hkj (hD.1 k j q (w, x) hq hj z))))
theorem tq_hp {D : va_G} {cl : List vw_C} {ws : va_W} {H : Heap} {t : State} (ht : t.heap = H) (hP : va_P D cl ws H) : va_P D cl ws t.heap := by rw [ht]; exact hP
end
section
-- Pure part 1: what follows from what; the least closed pair; saturation with fresh facts; completeness.
-- kinds as the class has them: 1 a name, 2 BOTH, 3 SOME; relation 6 is 'above', 0 .. 5 are roles.

def tm_Cl (n : Nat) (kd fa fb : Nat → Nat) (TA TR : Nat → Nat → Prop) (TC : Nat → Nat → Nat → Prop) (A : Nat → Nat → Prop) (L : Nat → Nat → Nat → Prop) : Prop :=
  (∀ x, x < n → A x x ∧ A x 0) ∧
  (∀ x a b, TA a b → A x a → A x b) ∧
  (∀ r s x y, TR r s → L r x y → L s x y) ∧
  (∀ r s t x y z, TC r s t → L r x y → L s y z → L t x z) ∧
  (∀ k x, k < n → kd k = 2 → A x k → A x (fa k) ∧ A x (fb k)) ∧
  (∀ k x, k < n → kd k = 2 → A x (fa k) → A x (fb k) → A x k) ∧
  (∀ k x, k < n → kd k = 3 → A x k → L (fa k) x (fb k)) ∧
  (∀ k x y, k < n → kd k = 3 → L (fa k) x y → A y (fb k) → A x k) ∧
  (∀ r x y, L r x y → A y 1 → A x 1) ∧
  (∀ x k, A x 1 → k < n → A x k)

def tm_Bel (n : Nat) (kd fa fb : Nat → Nat) (TA TR : Nat → Nat → Prop) (TC : Nat → Nat → Nat → Prop) (d e : Nat) : Prop :=
  ∀ (A : Nat → Nat → Prop) (L : Nat → Nat → Nat → Prop), tm_Cl n kd fa fb TA TR TC A L → A d e

def tm_Lnk (n : Nat) (kd fa fb : Nat → Nat) (TA TR : Nat → Nat → Prop) (TC : Nat → Nat → Nat → Prop) (r d e : Nat) : Prop :=
  ∀ (A : Nat → Nat → Prop) (L : Nat → Nat → Nat → Prop), tm_Cl n kd fa fb TA TR TC A L → L r d e

/-- the least pair is closed itself -/
theorem tm_least (n : Nat) (kd fa fb : Nat → Nat) (TA TR : Nat → Nat → Prop) (TC : Nat → Nat → Nat → Prop) :
    tm_Cl n kd fa fb TA TR TC (tm_Bel n kd fa fb TA TR TC) (tm_Lnk n kd fa fb TA TR TC) := by
  refine ⟨?_, ?_, ?_, ?_, ?_, ?_, ?_, ?_, ?_, ?_⟩
  · intro x hx
    exact ⟨fun A L h => (h.1 x hx).1, fun A L h => (h.1 x hx).2⟩
  · intro x a b ht h1 A L h
    exact h.2.1 x a b ht (h1 A L h)
  · intro r s x y ht h1 A L h
    exact h.2.2.1 r s x y ht (h1 A L h)
  · intro r s t x y z ht h1 h2 A L h
    exact h.2.2.2.1 r s t x y z ht (h1 A L h) (h2 A L h)
  · intro k x hk hd h1
    exact ⟨fun A L h => (h.2.2.2.2.1 k x hk hd (h1 A L h)).1, fun A L h => (h.2.2.2.2.1 k x hk hd (h1 A L h)).2⟩
  · intro k x hk hd h1 h2 A L h
    exact h.2.2.2.2.2.1 k x hk hd (h1 A L h) (h2 A L h)
  · intro k x hk hd h1 A L h
    exact h.2.2.2.2.2.2.1 k x hk hd (h1 A L h)
  · intro k x y hk hd h1 h2 A L h
    exact h.2.2.2.2.2.2.2.1 k x y hk hd (h1 A L h) (h2 A L h)
  · intro r x y h1 h2 A L h
    exact h.2.2.2.2.2.2.2.2.1 r x y (h1 A L h) (h2 A L h)
  · intro x k h1 hk A L h
    exact h.2.2.2.2.2.2.2.2.2 x k (h1 A L h) hk

/-- fewer descriptions, fewer told: fewer follow -/
theorem tm_Cl_mono {n n' : Nat} {kd fa fb kd' fa' fb' : Nat → Nat} {TA TR TA' TR' : Nat → Nat → Prop} {TC TC' : Nat → Nat → Nat → Prop} {A : Nat → Nat → Prop} {L : Nat → Nat → Nat → Prop}
    (hn : n ≤ n') (hk : ∀ k, k < n → kd' k = kd k ∧ fa' k = fa k ∧ fb' k = fb k)
    (ha : ∀ a b, TA a b → TA' a b) (hr : ∀ r s, TR r s → TR' r s) (hc : ∀ r s t, TC r s t → TC' r s t)
    (h : tm_Cl n' kd' fa' fb' TA' TR' TC' A L) : tm_Cl n kd fa fb TA TR TC A L := by
  obtain ⟨h1, h2, h3, h4, h5, h6, h7, h8, h9, h10⟩ := h
  refine ⟨fun x hx => h1 x (Nat.lt_of_lt_of_le hx hn), fun x a b ht => h2 x a b (ha a b ht), fun r s x y ht => h3 r s x y (hr r s ht), fun r s t x y z ht => h4 r s t x y z (hc r s t ht), ?_, ?_, ?_, ?_, h9, fun x k h1 hx => h10 x k h1 (Nat.lt_of_lt_of_le hx hn)⟩
  · intro k x hx hd
    have e := hk k hx
    have := h5 k x (Nat.lt_of_lt_of_le hx hn) (by rw [e.1]; exact hd)
    rw [e.2.1, e.2.2] at this
    exact this
  · intro k x hx hd
    have e := hk k hx
    have := h6 k x (Nat.lt_of_lt_of_le hx hn) (by rw [e.1]; exact hd)
    rw [e.2.1, e.2.2] at this
    exact this
  · intro k x hx hd
    have e := hk k hx
    have := h7 k x (Nat.lt_of_lt_of_le hx hn) (by rw [e.1]; exact hd)
    rw [e.2.1, e.2.2] at this
    exact this
  · intro k x y hx hd
    have e := hk k hx
    have := h8 k x y (Nat.lt_of_lt_of_le hx hn) (by rw [e.1]; exact hd)
    rw [e.2.1, e.2.2] at this
    exact this

theorem tm_Bel_mono {n n' : Nat} {kd fa fb kd' fa' fb' : Nat → Nat} {TA TR TA' TR' : Nat → Nat → Prop} {TC TC' : Nat → Nat → Nat → Prop}
    (hn : n ≤ n') (hk : ∀ k, k < n → kd' k = kd k ∧ fa' k = fa k ∧ fb' k = fb k)
    (ha : ∀ a b, TA a b → TA' a b) (hr : ∀ r s, TR r s → TR' r s) (hc : ∀ r s t, TC r s t → TC' r s t) {d e : Nat}
    (h : tm_Bel n kd fa fb TA TR TC d e) : tm_Bel n' kd' fa' fb' TA' TR' TC' d e :=
  fun A L h' => h A L (tm_Cl_mono hn hk ha hr hc h')

theorem tm_Lnk_mono {n n' : Nat} {kd fa fb kd' fa' fb' : Nat → Nat} {TA TR TA' TR' : Nat → Nat → Prop} {TC TC' : Nat → Nat → Nat → Prop}
    (hn : n ≤ n') (hk : ∀ k, k < n → kd' k = kd k ∧ fa' k = fa k ∧ fb' k = fb k)
    (ha : ∀ a b, TA a b → TA' a b) (hr : ∀ r s, TR r s → TR' r s) (hc : ∀ r s t, TC r s t → TC' r s t) {r d e : Nat}
    (h : tm_Lnk n kd fa fb TA TR TC r d e) : tm_Lnk n' kd' fa' fb' TA' TR' TC' r d e :=
  fun A L h' => h A L (tm_Cl_mono hn hk ha hr hc h')

/-- every fact follows: F c 6 d: d is above c; F c r d with r < 6: a link -/
def tm_Snd (n : Nat) (kd fa fb : Nat → Nat) (TA TR : Nat → Nat → Prop) (TC : Nat → Nat → Nat → Prop) (F : Nat → Nat → Nat → Prop) : Prop :=
  ∀ c d, (F c 6 d → tm_Bel n kd fa fb TA TR TC c d) ∧ ∀ r, r < 6 → F c r d → tm_Lnk n kd fa fb TA TR TC r c d

/-- every rule whose premises are there and not fresh, its source not empty, has its conclusion there -/
def tm_Sat (n : Nat) (kd fa fb : Nat → Nat) (TA TR : Nat → Nat → Prop) (TC : Nat → Nat → Nat → Prop) (F Q : Nat → Nat → Nat → Prop) : Prop :=
  (∀ c a b, TA a b → F c 6 a → ¬ Q c 6 a → ¬ F c 6 1 → F c 6 b) ∧
  (∀ c k, k < n → kd k = 2 → F c 6 k → ¬ Q c 6 k → ¬ F c 6 1 → F c 6 (fa k) ∧ F c 6 (fb k)) ∧
  (∀ c k, k < n → kd k = 2 → F c 6 (fa k) → ¬ Q c 6 (fa k) → F c 6 (fb k) → ¬ Q c 6 (fb k) → ¬ F c 6 1 → F c 6 k) ∧
  (∀ c k, k < n → kd k = 3 → F c 6 k → ¬ Q c 6 k → ¬ F c 6 1 → F c (fa k) (fb k)) ∧
  (∀ c y k, k < n → kd k = 3 → F c (fa k) y → ¬ Q c (fa k) y → F y 6 (fb k) → ¬ Q y 6 (fb k) → ¬ F c 6 1 → ¬ F y 6 1 → F c 6 k) ∧
  (∀ c y r s, r < 6 → TR r s → F c r y → ¬ Q c r y → ¬ F c 6 1 → F c s y) ∧
  (∀ c y z r s t, r < 6 → s < 6 → TC r s t → F c r y → ¬ Q c r y → F y s z → ¬ Q y s z → ¬ F c 6 1 → ¬ F y 6 1 → F c t z) ∧
  (∀ c y r, r < 6 → F c r y → ¬ Q c r y → ¬ F c 6 1 → F y 6 y) ∧
  (∀ c y r, r < 6 → F c r y → ¬ Q c r y → F y 6 1 → ¬ Q y 6 1 → F c 6 1)

/-- new facts are fresh: what was saturated stays so -/
theorem tm_Sat_ext {n : Nat} {kd fa fb : Nat → Nat} {TA TR : Nat → Nat → Prop} {TC : Nat → Nat → Nat → Prop} {F Q F' Q' : Nat → Nat → Nat → Prop}
    (h : tm_Sat n kd fa fb TA TR TC F Q) (hF : ∀ c r d, F c r d → F' c r d) (hQ : ∀ c r d, F' c r d → ¬ Q' c r d → F c r d ∧ ¬ Q c r d) :
    tm_Sat n kd fa fb TA TR TC F' Q' := by
  obtain ⟨h1, h2, h3, h4, h5, h6, h7, h8, h9⟩ := h
  have ne : ∀ c, ¬ F' c 6 1 → ¬ F c 6 1 := fun c hc hf => hc (hF c 6 1 hf)
  refine ⟨?_, ?_, ?_, ?_, ?_, ?_, ?_, ?_, ?_⟩
  · intro c a b ht p q e
    exact hF _ _ _ (h1 c a b ht (hQ _ _ _ p q).1 (hQ _ _ _ p q).2 (ne c e))
  · intro c k hk hd p q e
    have := h2 c k hk hd (hQ _ _ _ p q).1 (hQ _ _ _ p q).2 (ne c e)
    exact ⟨hF _ _ _ this.1, hF _ _ _ this.2⟩
  · intro c k hk hd p q p2 q2 e
    exact hF _ _ _ (h3 c k hk hd (hQ _ _ _ p q).1 (hQ _ _ _ p q).2 (hQ _ _ _ p2 q2).1 (hQ _ _ _ p2 q2).2 (ne c e))
  · intro c k hk hd p q e
    exact hF _ _ _ (h4 c k hk hd (hQ _ _ _ p q).1 (hQ _ _ _ p q).2 (ne c e))
  · intro c y k hk hd p q p2 q2 e e2
    exact hF _ _ _ (h5 c y k hk hd (hQ _ _ _ p q).1 (hQ _ _ _ p q).2 (hQ _ _ _ p2 q2).1 (hQ _ _ _ p2 q2).2 (ne c e) (ne y e2))
  · intro c y r s hr ht p q e
    exact hF _ _ _ (h6 c y r s hr ht (hQ _ _ _ p q).1 (hQ _ _ _ p q).2 (ne c e))
  · intro c y z r s t hr hs ht p q p2 q2 e e2
    exact hF _ _ _ (h7 c y z r s t hr hs ht (hQ _ _ _ p q).1 (hQ _ _ _ p q).2 (hQ _ _ _ p2 q2).1 (hQ _ _ _ p2 q2).2 (ne c e) (ne y e2))
  · intro c y r hr p q e
    exact hF _ _ _ (h8 c y r hr (hQ _ _ _ p q).1 (hQ _ _ _ p q).2 (ne c e))
  · intro c y r hr p q p2 q2
    exact hF _ _ _ (h9 c y r hr (hQ _ _ _ p q).1 (hQ _ _ _ p q).2 (hQ _ _ _ p2 q2).1 (hQ _ _ _ p2 q2).2)

/-- nothing fresh: what is there, of what is begun and not empty, is closed -/
theorem tm_closed {n : Nat} {kd fa fb : Nat → Nat} {TA TR : Nat → Nat → Prop} {TC : Nat → Nat → Nat → Prop} {F Q : Nat → Nat → Nat → Prop}
    (h : tm_Sat n kd fa fb TA TR TC F Q) (hQ : ∀ c r d, ¬ Q c r d) (h0 : ∀ x, F x 6 x → F x 6 0)
    (hR : ∀ r s, TR r s → s < 6) (hC : ∀ r s t, TC r s t → t < 6) (hk : ∀ k, k < n → kd k = 3 → fa k < 6) :
    tm_Cl n kd fa fb TA TR TC (fun x e => F x 6 x → F x 6 1 ∨ F x 6 e) (fun r x y => F x 6 x → F x 6 1 ∨ (r < 6 ∧ F x r y)) := by
  obtain ⟨h1, h2, h3, h4, h5, h6, h7, h8, h9⟩ := h
  refine ⟨?_, ?_, ?_, ?_, ?_, ?_, ?_, ?_, ?_, ?_⟩
  · intro x _
    exact ⟨fun b => Or.inr b, fun b => Or.inr (h0 x b)⟩
  · intro x a b ht p bx
    refine Classical.byCases (fun e1 : F x 6 1 => Or.inl e1) (fun e1 => ?_)
    rcases p bx with p | p
    · exact Or.inl p
    · exact Or.inr (h1 x a b ht p (hQ _ _ _) e1)
  · intro r s x y ht p bx
    refine Classical.byCases (fun e1 : F x 6 1 => Or.inl e1) (fun e1 => ?_)
    rcases p bx with p | p
    · exact Or.inl p
    · exact Or.inr ⟨hR r s ht, h6 x y r s p.1 ht p.2 (hQ _ _ _) e1⟩
  · intro r s t x y z ht p q bx
    refine Classical.byCases (fun e1 : F x 6 1 => Or.inl e1) (fun e1 => ?_)
    rcases p bx with p | p
    · exact Or.inl p
    · have by' := h8 x y r p.1 p.2 (hQ _ _ _) e1
      refine Classical.byCases (fun e2 : F y 6 1 => Or.inl (h9 x y r p.1 p.2 (hQ _ _ _) e2 (hQ _ _ _))) (fun e2 => ?_)
      rcases q by' with q | q
      · exact absurd q e2
      · exact Or.inr ⟨hC r s t ht, h7 x y z r s t p.1 q.1 ht p.2 (hQ _ _ _) q.2 (hQ _ _ _) e1 e2⟩
  · intro k x hx hd p
    constructor
    · intro bx
      refine Classical.byCases (fun e1 : F x 6 1 => Or.inl e1) (fun e1 => ?_)
      rcases p bx with p | p
      · exact Or.inl p
      · exact Or.inr (h2 x k hx hd p (hQ _ _ _) e1).1
    · intro bx
      refine Classical.byCases (fun e1 : F x 6 1 => Or.inl e1) (fun e1 => ?_)
      rcases p bx with p | p
      · exact Or.inl p
      · exact Or.inr (h2 x k hx hd p (hQ _ _ _) e1).2
  · intro k x hx hd p q bx
    refine Classical.byCases (fun e1 : F x 6 1 => Or.inl e1) (fun e1 => ?_)
    rcases p bx with p | p
    · exact Or.inl p
    · rcases q bx with q | q
      · exact Or.inl q
      · exact Or.inr (h3 x k hx hd p (hQ _ _ _) q (hQ _ _ _) e1)
  · intro k x hx hd p bx
    refine Classical.byCases (fun e1 : F x 6 1 => Or.inl e1) (fun e1 => ?_)
    rcases p bx with p | p
    · exact Or.inl p
    · exact Or.inr ⟨hk k hx hd, h4 x k hx hd p (hQ _ _ _) e1⟩
  · intro k x y hx hd p q bx
    refine Classical.byCases (fun e1 : F x 6 1 => Or.inl e1) (fun e1 => ?_)
    rcases p bx with p | p
    · exact Or.inl p
    · have by' := h8 x y (fa k) p.1 p.2 (hQ _ _ _) e1
      refine Classical.byCases (fun e2 : F y 6 1 => Or.inl (h9 x y (fa k) p.1 p.2 (hQ _ _ _) e2 (hQ _ _ _))) (fun e2 => ?_)
      rcases q by' with q | q
      · exact absurd q e2
      · exact Or.inr (h5 x y k hx hd p.2 (hQ _ _ _) q (hQ _ _ _) e1 e2)
  · intro r x y p q bx
    refine Classical.byCases (fun e1 : F x 6 1 => Or.inl e1) (fun e1 => ?_)
    rcases p bx with p | p
    · exact Or.inl p
    · have by' := h8 x y r p.1 p.2 (hQ _ _ _) e1
      rcases q by' with q | q <;> exact Or.inl (h9 x y r p.1 p.2 (hQ _ _ _) q (hQ _ _ _))
  · intro x k p _ bx
    rcases p bx with p | p <;> exact Or.inl p
/-- nothing fresh: for what is begun all that follows is there -/
theorem tm_complete {n : Nat} {kd fa fb : Nat → Nat} {TA TR : Nat → Nat → Prop} {TC : Nat → Nat → Nat → Prop} {F Q : Nat → Nat → Nat → Prop}
    (h : tm_Sat n kd fa fb TA TR TC F Q) (hQ : ∀ c r d, ¬ Q c r d) (h0 : ∀ x, F x 6 x → F x 6 0)
    (hR : ∀ r s, TR r s → s < 6) (hC : ∀ r s t, TC r s t → t < 6) (hk : ∀ k, k < n → kd k = 3 → fa k < 6)
    {d e : Nat} (hd : F d 6 d) (hb : tm_Bel n kd fa fb TA TR TC d e) : F d 6 1 ∨ F d 6 e :=
  hb _ _ (tm_closed h hQ h0 hR hC hk) hd
end
section

/-- what a draw of the fact (c, rel, d) must have put in: F is what was there before, G what is there after -/
def tm_Drawn (n : Nat) (kd fa fb : Nat → Nat) (TA TR : Nat → Nat → Prop) (TC : Nat → Nat → Nat → Prop) (F G : Nat → Nat → Nat → Prop) (c rel d : Nat) : Prop :=
  (rel = 6 → d = 1 → ∀ x r, r < 6 → F x r c → G x 6 1) ∧
  (rel = 6 → d ≠ 1 → G c 6 1 ∨
    ((∀ b, TA d b → G c 6 b) ∧
     (d < n → kd d = 2 → G c 6 (fa d) ∧ G c 6 (fb d)) ∧
     (∀ k, k < n → kd k = 2 → fa k = d → F c 6 (fb k) → G c 6 k) ∧
     (∀ k, k < n → kd k = 2 → fb k = d → F c 6 (fa k) → G c 6 k) ∧
     (d < n → kd d = 3 → G c (fa d) (fb d)) ∧
     (∀ k x, k < n → kd k = 3 → fb k = d → F x (fa k) c → G x 6 k))) ∧
  (rel < 6 → G c 6 1 ∨
    (G d 6 d ∧ (F d 6 1 → G c 6 1) ∧
     (∀ s, TR rel s → G c s d) ∧
     (∀ k, k < n → kd k = 3 → fa k = rel → F d 6 (fb k) → G c 6 k) ∧
     (∀ s t z, s < 6 → TC rel s t → F d s z → G c t z) ∧
     (∀ s t x, s < 6 → TC s rel t → F x s c → G x t d)))

/-- a fact is taken out of fresh and drawn: saturated as before -/
theorem tm_Sat_draw {n : Nat} {kd fa fb : Nat → Nat} {TA TR : Nat → Nat → Prop} {TC : Nat → Nat → Nat → Prop} {F Q G P : Nat → Nat → Nat → Prop} {c rel d : Nat}
    (h : tm_Sat n kd fa fb TA TR TC F Q) (hf : ∀ x r y, F x r y → G x r y)
    (hq : ∀ x r y, G x r y → ¬ P x r y → F x r y ∧ (¬ Q x r y ∨ (x = c ∧ r = rel ∧ y = d)))
    (hd : tm_Drawn n kd fa fb TA TR TC F G c rel d) (hro : ∀ k, k < n → kd k = 3 → fa k < 6) : tm_Sat n kd fa fb TA TR TC G P := by
  obtain ⟨h1, h2, h3, h4, h5, h6, h7, h8, h9⟩ := h
  obtain ⟨d1, d2, d3⟩ := hd
  have ne : ∀ x, ¬ G x 6 1 → ¬ F x 6 1 := fun x hx hx' => hx (hf x 6 1 hx')
  refine ⟨?_, ?_, ?_, ?_, ?_, ?_, ?_, ?_, ?_⟩
  · intro x a b ht p q e
    obtain ⟨pF, pq⟩ := hq _ _ _ p q
    rcases pq with pq | ⟨rfl, e6, rfl⟩
    · exact hf _ _ _ (h1 x a b ht pF pq (ne x e))
    · rcases d2 e6.symm (fun e1 => e (by rw [← e1]; exact p)) with z | z
      · exact absurd z e
      · exact z.1 b ht
  · intro x k hk hkd p q e
    obtain ⟨pF, pq⟩ := hq _ _ _ p q
    rcases pq with pq | ⟨rfl, e6, rfl⟩
    · have := h2 x k hk hkd pF pq (ne x e)
      exact ⟨hf _ _ _ this.1, hf _ _ _ this.2⟩
    · rcases d2 e6.symm (fun e1 => e (by rw [← e1]; exact p)) with z | z
      · exact absurd z e
      · exact z.2.1 hk hkd
  · intro x k hk hkd p q p2 q2 e
    obtain ⟨pF, pq⟩ := hq _ _ _ p q
    obtain ⟨pF2, pq2⟩ := hq _ _ _ p2 q2
    rcases pq with pq | ⟨rfl, e6, ed⟩
    · rcases pq2 with pq2 | ⟨rfl, e6, ed⟩
      · exact hf _ _ _ (h3 x k hk hkd pF pq pF2 pq2 (ne x e))
      · rcases d2 e6.symm (fun e1 => e (by rw [← e1, ← ed]; exact p2)) with z | z
        · exact absurd z e
        · exact z.2.2.2.1 k hk hkd ed pF
    · rcases d2 e6.symm (fun e1 => e (by rw [← e1, ← ed]; exact p)) with z | z
      · exact absurd z e
      · exact z.2.2.1 k hk hkd ed pF2
  · intro x k hk hkd p q e
    obtain ⟨pF, pq⟩ := hq _ _ _ p q
    rcases pq with pq | ⟨rfl, e6, rfl⟩
    · exact hf _ _ _ (h4 x k hk hkd pF pq (ne x e))
    · rcases d2 e6.symm (fun e1 => e (by rw [← e1]; exact p)) with z | z
      · exact absurd z e
      · exact z.2.2.2.2.1 hk hkd
  · intro x y k hk hkd p q p2 q2 e e2
    obtain ⟨pF, pq⟩ := hq _ _ _ p q
    obtain ⟨pF2, pq2⟩ := hq _ _ _ p2 q2
    rcases pq2 with pq2 | ⟨rfl, e6, ed⟩
    · rcases pq with pq | ⟨rfl, er, rfl⟩
      · exact hf _ _ _ (h5 x y k hk hkd pF pq pF2 pq2 (ne x e) (ne y e2))
      · rcases d3 (by rw [← er]; exact hro k hk hkd) with z | z
        · exact absurd z e
        · exact z.2.2.2.1 k hk hkd er pF2
    · rcases d2 e6.symm (fun e1 => e2 (by rw [← e1, ← ed]; exact p2)) with z | z
      · exact absurd z e2
      · exact z.2.2.2.2.2 k x hk hkd ed pF
  · intro x y r s hr ht p q e
    obtain ⟨pF, pq⟩ := hq _ _ _ p q
    rcases pq with pq | ⟨rfl, er, rfl⟩
    · exact hf _ _ _ (h6 x y r s hr ht pF pq (ne x e))
    · subst er
      rcases d3 hr with z | z
      · exact absurd z e
      · exact z.2.2.1 s ht
  · intro x y z r s t hr hs ht p q p2 q2 e e2
    obtain ⟨pF, pq⟩ := hq _ _ _ p q
    obtain ⟨pF2, pq2⟩ := hq _ _ _ p2 q2
    rcases pq with pq | ⟨rfl, er, rfl⟩
    · rcases pq2 with pq2 | ⟨rfl, er, rfl⟩
      · exact hf _ _ _ (h7 x y z r s t hr hs ht pF pq pF2 pq2 (ne x e) (ne y e2))
      · subst er
        rcases d3 hs with w | w
        · exact absurd w e2
        · exact w.2.2.2.2.2 r t x hr ht pF
    · subst er
      rcases d3 hr with w | w
      · exact absurd w e
      · exact w.2.2.2.2.1 s t z hs ht pF2
  · intro x y r hr p q e
    obtain ⟨pF, pq⟩ := hq _ _ _ p q
    rcases pq with pq | ⟨rfl, er, rfl⟩
    · exact hf _ _ _ (h8 x y r hr pF pq (ne x e))
    · subst er
      rcases d3 hr with w | w
      · exact absurd w e
      · exact w.1
  · intro x y r hr p q p2 q2
    obtain ⟨pF, pq⟩ := hq _ _ _ p q
    obtain ⟨pF2, pq2⟩ := hq _ _ _ p2 q2
    rcases pq2 with pq2 | ⟨rfl, e6, ed⟩
    · rcases pq with pq | ⟨rfl, er, rfl⟩
      · exact hf _ _ _ (h9 x y r hr pF pq pF2 pq2)
      · subst er
        rcases d3 hr with w | w
        · exact w
        · exact w.2.1 pF2
    · exact d1 e6.symm ed.symm x r hr pF

-- sums: the measure of saturate is a sum over the rows
def tm_sum (g : Nat → Nat) : Nat → Nat
  | 0 => 0
  | n + 1 => tm_sum g n + g n
theorem tm_sum_le {g : Nat → Nat} {k : Nat} : ∀ {n : Nat}, (∀ i, i < n → g i ≤ k) → tm_sum g n ≤ n * k
  | 0, _ => Nat.zero_le _
  | n + 1, h => by
    have a := tm_sum_le (n := n) (fun i hi => h i (Nat.lt_succ_of_lt hi))
    have b := h n (Nat.lt_succ_self n)
    have c : (n + 1) * k = n * k + k := Nat.succ_mul n k
    simp only [tm_sum]
    omega
theorem tm_sum_mono {g f : Nat → Nat} : ∀ {n : Nat}, (∀ i, i < n → g i ≤ f i) → tm_sum g n ≤ tm_sum f n
  | 0, _ => Nat.le_refl _
  | n + 1, h => by
    have a := tm_sum_mono (n := n) (fun i hi => h i (Nat.lt_succ_of_lt hi))
    have b := h n (Nat.lt_succ_self n)
    simp only [tm_sum]
    omega
theorem tm_sum_lt {g f : Nat → Nat} : ∀ {n : Nat}, (∀ i, i < n → g i ≤ f i) → (∃ i, i < n ∧ g i < f i) → tm_sum g n < tm_sum f n
  | 0, _, h => by obtain ⟨i, hi, _⟩ := h; omega
  | n + 1, h, ⟨i, hi, hl⟩ => by
    have b := h n (Nat.lt_succ_self n)
    simp only [tm_sum]
    rcases Nat.lt_or_ge i n with hi' | hi'
    · have a := tm_sum_lt (n := n) (fun i hi => h i (Nat.lt_succ_of_lt hi)) ⟨i, hi', hl⟩
      omega
    · have a := tm_sum_mono (n := n) (fun i hi => h i (Nat.lt_succ_of_lt hi))
      have e : i = n := by omega
      subst e
      omega
theorem tm_sum_zero {g : Nat → Nat} : ∀ {n : Nat}, tm_sum g n = 0 → ∀ i, i < n → g i = 0
  | 0, _, i, hi => by omega
  | n + 1, h, i, hi => by
    simp only [tm_sum] at h
    rcases Nat.lt_or_ge i n with hi' | hi'
    · exact tm_sum_zero (n := n) (by omega) i hi'
    · have e : i = n := by omega
      subst e
      omega
/-- how many of the first n -/
def tm_cnt (p : Nat → Bool) (n : Nat) : Nat := tm_sum (fun i => if p i then 1 else 0) n
theorem tm_cnt_le (p : Nat → Bool) (n : Nat) : tm_cnt p n ≤ n := by
  have := tm_sum_le (g := fun i => if p i then 1 else 0) (k := 1) (n := n) (fun i _ => by split <;> omega)
  simpa [tm_cnt] using this

-- why: the kept set. used i: what is still used when i axioms, from the last one N on, have been tried
def tm_used (inf : Nat → Prop) (E : (Nat → Prop) → Prop) (N : Nat) : Nat → Nat → Prop
  | 0 => inf
  | i + 1 => fun j => tm_used inf E N i j ∧ (j = N - i → ¬ E (fun q => tm_used inf E N i q ∧ q ≠ N - i))
/-- what has been tried stays; what hasn't is in force -/
theorem tm_used_lo {inf : Nat → Prop} {E : (Nat → Prop) → Prop} {N : Nat} : ∀ {i j : Nat}, i ≤ N → j ≤ N - i → (tm_used inf E N i j ↔ inf j)
  | 0, _, _, _ => Iff.rfl
  | i + 1, j, hi, hj => by
    have ih := tm_used_lo (inf := inf) (E := E) (N := N) (i := i) (j := j) (by omega) (by omega)
    simp only [tm_used]
    constructor
    · intro h
      exact ih.mp h.1
    · intro h
      exact ⟨ih.mpr h, fun e => by omega⟩
theorem tm_used_hi {inf : Nat → Prop} {E : (Nat → Prop) → Prop} {N : Nat} {i j : Nat} (hj : N - i < j) : ∀ {m : Nat}, i + m ≤ N → (tm_used inf E N (i + m) j ↔ tm_used inf E N i j)
  | 0, _ => Iff.rfl
  | m + 1, h => by
    have ih := tm_used_hi (inf := inf) (E := E) (N := N) hj (m := m) (by omega)
    show (tm_used inf E N (i + m) j ∧ _) ↔ _
    constructor
    · intro h1
      exact ih.mp h1.1
    · intro h1
      exact ⟨ih.mpr h1, fun e => by have e2 : j = N - (i + m) := e; omega⟩
/-- the kept set: the only one with this property -/
def tm_K (inf : Nat → Prop) (E : (Nat → Prop) → Prop) (N k : Nat) : Prop := tm_used inf E N N k
theorem tm_K_iff {inf : Nat → Prop} {E : (Nat → Prop) → Prop} {N k : Nat} (hE : ∀ U V : Nat → Prop, (∀ j, U j ↔ V j) → (E U ↔ E V)) (hi : ∀ j, inf j → j ≤ N) (h1 : 1 ≤ k) (hk : k ≤ N) :
    tm_K inf E N k ↔ inf k ∧ ¬ E (fun j => (j < k ∧ inf j) ∨ (k < j ∧ tm_K inf E N j)) := by
  have e1 : tm_K inf E N k ↔ tm_used inf E N (N - k + 1) k := by
    have := tm_used_hi (inf := inf) (E := E) (N := N) (i := N - k + 1) (j := k) (by omega) (m := k - 1) (by omega)
    rw [show N - k + 1 + (k - 1) = N by omega] at this
    exact this
  rw [e1]
  simp only [tm_used]
  rw [show N - (N - k) = k by omega]
  have lo := tm_used_lo (inf := inf) (E := E) (N := N) (i := N - k) (j := k) (by omega) (by omega)
  have hs : ∀ j, (tm_used inf E N (N - k) j ∧ j ≠ k) ↔ ((j < k ∧ inf j) ∨ (k < j ∧ tm_K inf E N j)) := by
    intro j
    rcases Nat.lt_trichotomy j k with h | h | h
    · have l := tm_used_lo (inf := inf) (E := E) (N := N) (i := N - k) (j := j) (by omega) (by omega)
      constructor
      · intro a
        exact Or.inl ⟨h, l.mp a.1⟩
      · intro a
        rcases a with a | a
        · exact ⟨l.mpr a.2, by omega⟩
        · omega
    · constructor
      · intro a
        exact absurd h a.2
      · intro a
        rcases a with a | a <;> omega
    · have l := tm_used_hi (inf := inf) (E := E) (N := N) (i := N - k) (j := j) (by omega) (m := k) (by omega)
      rw [show N - k + k = N by omega] at l
      constructor
      · intro a
        exact Or.inr ⟨h, l.mpr a.1⟩
      · intro a
        rcases a with a | a
        · omega
        · exact ⟨l.mp a.2, by omega⟩
  constructor
  · intro a
    exact ⟨lo.mp a.1, fun e => a.2 rfl ((hE _ _ hs).mpr e)⟩
  · intro a
    exact ⟨lo.mpr a.1, fun _ e => a.2 ((hE _ _ hs).mp e)⟩
end
section
/-! The contracts of Bits, of Long.bitCount and Arrays.fill. Written by wip/whole/gen/genbits.py. -/
abbrev bW (h w n Wd wp : Nat) (cL : ClassId) (B : Nat → Nat → Bool) : va_W := [(h, .inr (0, [.int (nI Wd), .int (nI wp), .ref w])), (w, .inl (cL, n, .inr (.inl (bw wp B))))]
def bc_f (x : Int64) : Int32 :=
  let i1 := x - ((x.toUInt64 >>> ((nI 1).toInt64.toUInt64 &&& Int64.toUInt64 63)).toInt64 &&& 6148914691236517205)
  let i2 := (i1 &&& 3689348814741910323) + ((i1.toUInt64 >>> ((nI 2).toInt64.toUInt64 &&& Int64.toUInt64 63)).toInt64 &&& 3689348814741910323)
  let i3 := (i2 + (i2.toUInt64 >>> ((nI 4).toInt64.toUInt64 &&& Int64.toUInt64 63)).toInt64) &&& 1085102592571150095
  let i4 := i3 + (i3.toUInt64 >>> ((nI 8).toInt64.toUInt64 &&& Int64.toUInt64 63)).toInt64
  let i5 := i4 + (i4.toUInt64 >>> ((nI 16).toInt64.toUInt64 &&& Int64.toUInt64 63)).toInt64
  let i6 := i5 + (i5.toUInt64 >>> ((nI 32).toInt64.toUInt64 &&& Int64.toUInt64 63)).toInt64
  i6.toInt32 &&& nI 127
theorem bc_ok : ∀ j, j < 64 → bc_f (lN (2 ^ j - 1)) = nI j := by decide +kernel
set_option maxHeartbeats 4000000 in
set_option maxRecDepth 100000 in
/-- Long.bitCount of a word whose low bits are 1 -/
theorem c_bitCount (l : Launch) (j : Nat) (hj : j < 64) : Met l yJl_bitCount (wJl_bitCount :: wA) ({ frames := 0, cells := 0, slots := 0, locals := 0 }) (va_Pc [.long (lN (2 ^ j - 1))] (fun _ => True)) (va_Qi (fun r (_ : Unit) => r = nI j) (fun _ _ => True) (fun _ => False)) 0 0 (fun _ => False) := by
  refine va_MetF (cc := bJl_bitCount) (maxL := 2) (ret := (some .int)) (by decide +kernel) rfl ?_
  intro p e s m args below meth c s₁ B1 hml hv
  obtain ⟨rfl, -⟩ := hv
  have hx := B1.exec
  have hb := B1.bytes
  have hr := B1.returns
  have hA : ∀ w ∈ wA, w.before ([.long (lN (2 ^ j - 1))] : List Value).toArray s = true := fun w h => atoms_spec (ws := wJl_bitCount :: wA) B1.pre w (List.mem_cons_of_mem _ h)
  have hown : s.vm.findClass RcJl = some m.cls := findClass_of_methodNamed B1.named
  have hlocks := B1.notSynchronized
  have hS : va_S (fun _ => False) s.heap s.heap [] := va_S.rf
  have hl := lv_entry ([.long (lN (2 ^ j - 1))]) (n := 2) (Nat.le_of_ble_eq_true rfl)
  rw [lg_entry_eq]
  generalize (lg_sl ([.long (lN (2 ^ j - 1))]) ++ List.replicate (2 - (lg_sl ([.long (lN (2 ^ j - 1))])).length) Slot.unset).toArray = ls at hl ⊢
  have hl : lv_has ls 2 [(0, .long (lN (2 ^ j - 1)))] := hl
  refine tq_gen (fun R Q hRe hQe => ?_)
  have hRf : 0 ≤ R.frames := by rw [hRe]; exact Nat.le_of_ble_eq_true rfl
  have hRl : 0 ≤ R.locals := by rw [hRe]; exact Nat.le_of_ble_eq_true rfl
  have hRc : 0 ≤ R.cells := by rw [hRe]; exact Nat.le_of_ble_eq_true rfl
  have hRs : 0 ≤ R.slots := by rw [hRe]; exact Nat.le_of_ble_eq_true rfl
  refine lv_lload_n hx hb dJl_bitCount_0 rfl (lv_at hl 0 rfl) ?_
  refine lv_lload_n hx hb dJl_bitCount_1 rfl (lv_at hl 0 rfl) ?_
  refine lv_iconst (v := nI 1) hx hb dJl_bitCount_2 (by decide +kernel) ?_
  refine lv_lushr hx hb dJl_bitCount_3 rfl ?_
  refine lv_ldc2 hx hb hown (hA _ mct_Jl_314) dJl_bitCount_4 ?_
  refine lv_land hx hb dJl_bitCount_7 ?_
  refine lv_lsub hx hb dJl_bitCount_8 ?_
  refine lv_topl (fun i1 ei1 => ?_)
  refine lv_lstore_n (lv' := [(0, .long i1)]) hx hb dJl_bitCount_9 rfl hl (by decide) rfl (fun ls hl => ?_)
  refine lv_lload_n hx hb dJl_bitCount_10 rfl (lv_at hl 0 rfl) ?_
  refine lv_ldc2 hx hb hown (hA _ mct_Jl_316) dJl_bitCount_11 ?_
  refine lv_land hx hb dJl_bitCount_14 ?_
  refine lv_lload_n hx hb dJl_bitCount_15 rfl (lv_at hl 0 rfl) ?_
  refine lv_iconst (v := nI 2) hx hb dJl_bitCount_16 (by decide +kernel) ?_
  refine lv_lushr hx hb dJl_bitCount_17 rfl ?_
  refine lv_ldc2 hx hb hown (hA _ mct_Jl_316) dJl_bitCount_18 ?_
  refine lv_land hx hb dJl_bitCount_21 ?_
  refine lv_ladd hx hb dJl_bitCount_22 ?_
  refine lv_topl (fun i2 ei2 => ?_)
  refine lv_lstore_n (lv' := [(0, .long i2)]) hx hb dJl_bitCount_23 rfl hl (by decide) rfl (fun ls hl => ?_)
  refine lv_lload_n hx hb dJl_bitCount_24 rfl (lv_at hl 0 rfl) ?_
  refine lv_lload_n hx hb dJl_bitCount_25 rfl (lv_at hl 0 rfl) ?_
  refine lv_iconst (v := nI 4) hx hb dJl_bitCount_26 (by decide +kernel) ?_
  refine lv_lushr hx hb dJl_bitCount_27 rfl ?_
  refine lv_ladd hx hb dJl_bitCount_28 ?_
  refine lv_ldc2 hx hb hown (hA _ mct_Jl_318) dJl_bitCount_29 ?_
  refine lv_land hx hb dJl_bitCount_32 ?_
  refine lv_topl (fun i3 ei3 => ?_)
  refine lv_lstore_n (lv' := [(0, .long i3)]) hx hb dJl_bitCount_33 rfl hl (by decide) rfl (fun ls hl => ?_)
  refine lv_lload_n hx hb dJl_bitCount_34 rfl (lv_at hl 0 rfl) ?_
  refine lv_lload_n hx hb dJl_bitCount_35 rfl (lv_at hl 0 rfl) ?_
  refine lv_bipush (v := nI 8) hx hb dJl_bitCount_36 (by decide +kernel) ?_
  refine lv_lushr hx hb dJl_bitCount_38 rfl ?_
  refine lv_ladd hx hb dJl_bitCount_39 ?_
  refine lv_topl (fun i4 ei4 => ?_)
  refine lv_lstore_n (lv' := [(0, .long i4)]) hx hb dJl_bitCount_40 rfl hl (by decide) rfl (fun ls hl => ?_)
  refine lv_lload_n hx hb dJl_bitCount_41 rfl (lv_at hl 0 rfl) ?_
  refine lv_lload_n hx hb dJl_bitCount_42 rfl (lv_at hl 0 rfl) ?_
  refine lv_bipush (v := nI 16) hx hb dJl_bitCount_43 (by decide +kernel) ?_
  refine lv_lushr hx hb dJl_bitCount_45 rfl ?_
  refine lv_ladd hx hb dJl_bitCount_46 ?_
  refine lv_topl (fun i5 ei5 => ?_)
  refine lv_lstore_n (lv' := [(0, .long i5)]) hx hb dJl_bitCount_47 rfl hl (by decide) rfl (fun ls hl => ?_)
  refine lv_lload_n hx hb dJl_bitCount_48 rfl (lv_at hl 0 rfl) ?_
  refine lv_lload_n hx hb dJl_bitCount_49 rfl (lv_at hl 0 rfl) ?_
  refine lv_bipush (v := nI 32) hx hb dJl_bitCount_50 (by decide +kernel) ?_
  refine lv_lushr hx hb dJl_bitCount_52 rfl ?_
  refine lv_ladd hx hb dJl_bitCount_53 ?_
  refine lv_topl (fun i6 ei6 => ?_)
  refine lv_lstore_n (lv' := [(0, .long i6)]) hx hb dJl_bitCount_54 rfl hl (by decide) rfl (fun ls hl => ?_)
  refine lv_lload_n hx hb dJl_bitCount_55 rfl (lv_at hl 0 rfl) ?_
  refine lv_l2i hx hb dJl_bitCount_56 rfl ?_
  refine lv_bipush (v := nI 127) hx hb dJl_bitCount_57 (by decide +kernel) ?_
  refine lv_iand hx hb dJl_bitCount_59 ?_
  subst hQe
  exact W.iret (v := i6.toInt32 &&& (nI 127)) hx hb hr (fun t ht hW => ⟨⟨_, (), rfl, by rw [ei6, ei5, ei4, ei3, ei2, ei1]; exact bc_ok j hj, trivial⟩, hS.F ht⟩) hS.2.2 dJl_bitCount_60
set_option maxHeartbeats 4000000 in
set_option maxRecDepth 100000 in
/-- Bits.holds -/
theorem c_holds (l : Launch) (D : va_G) (h w n Wd wp : Nat) (cL : ClassId) (B : Nat → Nat → Bool) (row bit : Nat) (h1 : bit < wp * 64) (h2 : row * wp + bit / 64 < n) (hn : n < 2 ^ 31) (hw : wp < 100) : Met l yB_holds (wB_holds :: wA) ({ frames := 0, cells := 0, slots := 0, locals := 0 }) (va_Pc [.ref h, .int (nI row), .int (nI bit)] (tq_rB D vwA [(h, .inr (0, [.int (nI Wd), .int (nI wp), .ref w])), (w, .inl (cL, n, .inr (.inl (bw wp B))))] [(cL, .long)])) (va_Qi (fun r (_ : Unit) => r = bI (B row bit)) (fun _ _ => True) (fun _ => False)) 0 0 (fun _ => False) := by
  refine Met.ofW (cc := bB_holds) (maxL := 3) (ret := (some .boolean)) (by decide +kernel) rfl ?_
  intro p e s m args below meth c s₁ B1 hml hv
  obtain ⟨rfl, hP, hK⟩ := hv
  have hx := B1.exec
  have hb := B1.bytes
  have hr := B1.returns
  have hA : ∀ w ∈ wA, w.before ([.ref h, .int (nI row), .int (nI bit)] : List Value).toArray s = true := fun w h => atoms_spec (ws := wB_holds :: wA) B1.pre w (List.mem_cons_of_mem _ h)
  have hown : s.vm.findClass RcB = some m.cls := findClass_of_methodNamed B1.named
  have hlocks := B1.notSynchronized
  have hS : va_S (fun _ => False) s.heap s.heap [] := va_S.rf
  have hl := lv_entry ([.ref h, .int (nI row), .int (nI bit)]) (n := 3) (Nat.le_of_ble_eq_true rfl)
  rw [lg_entry_eq]
  generalize (lg_sl ([.ref h, .int (nI row), .int (nI bit)]) ++ List.replicate (3 - (lg_sl ([.ref h, .int (nI row), .int (nI bit)])).length) Slot.unset).toArray = ls at hl ⊢
  have hl : lv_has ls 3 [(0, .ref h), (1, .int (nI row)), (2, .int (nI bit))] := hl
  refine tq_gen (fun R Q hRe hQe => ?_)
  have hRf : 0 ≤ R.frames := by rw [hRe]; exact Nat.le_of_ble_eq_true rfl
  have hRl : 0 ≤ R.locals := by rw [hRe]; exact Nat.le_of_ble_eq_true rfl
  have hRc : 0 ≤ R.cells := by rw [hRe]; exact Nat.le_of_ble_eq_true rfl
  have hRs : 0 ≤ R.slots := by rw [hRe]; exact Nat.le_of_ble_eq_true rfl
  refine lv_aload_n hx hb dB_holds_0 rfl (lv_at hl 0 rfl) ?_
  refine gf_B_16 (v := .ref w) hx hb hA hown hK hP 0 rfl rfl dB_holds_1 ?_
  refine lv_iload_n hx hb dB_holds_4 rfl (lv_at hl 1 rfl) ?_
  refine lv_aload_n hx hb dB_holds_5 rfl (lv_at hl 0 rfl) ?_
  refine gf_B_13 (v := .int (nI wp)) hx hb hA hown hK hP 0 rfl rfl dB_holds_6 ?_
  refine tq_imul hx hb dB_holds_9 ?_
  refine lv_iload_n hx hb dB_holds_10 rfl (lv_at hl 2 rfl) ?_
  refine lv_bipush (v := nI 6) hx hb dB_holds_11 (by decide +kernel) ?_
  refine tq_ishr6 hx hb dB_holds_13 (by omega) ?_
  refine tq_iadd hx hb dB_holds_14 ?_
  refine tq_lald hx hb hK hP 1 0 rfl rfl (by omega) (by omega) dB_holds_15 ?_
  refine lv_iload_n hx hb dB_holds_16 rfl (lv_at hl 2 rfl) ?_
  refine lv_bipush (v := nI 63) hx hb dB_holds_17 (by decide +kernel) ?_
  refine tq_iand63 hx hb dB_holds_19 (by omega) ?_
  refine lv_lushr hx hb dB_holds_20 rfl ?_
  refine lv_lconst (v := 1) hx hb dB_holds_21 (by decide +kernel) ?_
  refine lv_land hx hb dB_holds_22 ?_
  refine lv_lconst (v := 0) hx hb dB_holds_23 (by decide +kernel) ?_
  refine tq_leq hx hb dB_holds_24 dB_holds_25 (tgt := 32) (by decide) (fun h24 => ?_) (fun h24 => ?_)
  · rw [tm_uget _ (Nat.mod_lt _ (by decide)), bw_bit B h1] at h24
    have hB : B row bit = false := by cases hq : B row bit <;> simp [hq] at h24 ⊢
    refine lv_iconst (v := nI 0) hx hb dB_holds_32 (by decide +kernel) ?_
    subst hQe
    exact W.zret (v := nI 0) (ty := .boolean) hx hb hr rfl (fun t ht hW => ⟨⟨_, (), rfl, by rw [hB]; rfl, trivial⟩, hS.F ht⟩) hS.2.2 dB_holds_33
  · rw [tm_uget _ (Nat.mod_lt _ (by decide)), bw_bit B h1] at h24
    have hB : B row bit = true := by cases hq : B row bit <;> simp [hq] at h24 ⊢
    refine lv_iconst (v := nI 1) hx hb dB_holds_28 (by decide +kernel) ?_
    refine lv_goto hx hb dB_holds_29 (tgt := 33) (by decide) ?_
    subst hQe
    exact W.zret (v := nI 1) (ty := .boolean) hx hb hr rfl (fun t ht hW => ⟨⟨_, (), rfl, by rw [hB]; rfl, trivial⟩, hS.F ht⟩) hS.2.2 dB_holds_33
theorem bw_bit2 {wp : Nat} (B : Nat → Nat → Bool) {r b : Nat} (h : b < wp * 64) : bw wp (tm_put B r b) (r * wp + b / 64) = bw wp B (r * wp + b / 64) ↔ B r b = true := by
  constructor
  · intro e
    have := bw_bit (tm_put B r b) (r := r) h
    rw [e, bw_bit B h] at this
    rw [this]
    exact tm_put_iff.mpr (Or.inr ⟨rfl, rfl⟩)
  · intro e
    have : tm_put B r b = B := by
      funext r' b'
      by_cases q : r' = r ∧ b' = b
      · rw [q.1, q.2, e]
        exact tm_put_iff.mpr (Or.inr ⟨rfl, rfl⟩)
      · cases hx : B r' b' with
        | true => exact tm_put_iff.mpr (Or.inl hx)
        | false => exact ts_nt (fun z => (tm_put_iff.mp z).elim (fun z => by rw [hx] at z; cases z) q)
    rw [this]
set_option maxHeartbeats 4000000 in
set_option maxRecDepth 100000 in
/-- Bits.put -/
theorem c_put (l : Launch) (D : va_G) (h w n Wd wp : Nat) (cL : ClassId) (B : Nat → Nat → Bool) (row bit : Nat) (h1 : bit < wp * 64) (h2 : row * wp + bit / 64 < n) (hn : n < 2 ^ 31) (hw : wp < 100) : Met l yB_put (wB_put :: wA) ({ frames := 0, cells := 0, slots := 0, locals := 0 }) (va_Pc [.ref h, .int (nI row), .int (nI bit)] (tq_wB D vwA [(h, .inr (0, [.int (nI Wd), .int (nI wp), .ref w])), (w, .inl (cL, n, .inr (.inl (bw wp B))))] [(cL, .long)])) (va_Qi (fun r (_ : Unit) => r = bI (!B row bit)) (fun _ t => va_P D vwA (bW h w n Wd wp cL (tm_put B row bit)) t.heap) (fun q => q = h ∨ q = w)) 0 0 (fun q => q = h ∨ q = w) := by
  refine Met.ofW (cc := bB_put) (maxL := 6) (ret := (some .boolean)) (by decide +kernel) rfl ?_
  intro p e s m args below meth c s₁ B1 hml hv
  obtain ⟨rfl, hP, hK, hD0⟩ := hv
  have hx := B1.exec
  have hb := B1.bytes
  have hr := B1.returns
  have hA : ∀ w ∈ wA, w.before ([.ref h, .int (nI row), .int (nI bit)] : List Value).toArray s = true := fun w h => atoms_spec (ws := wB_put :: wA) B1.pre w (List.mem_cons_of_mem _ h)
  have hown : s.vm.findClass RcB = some m.cls := findClass_of_methodNamed B1.named
  have hlocks := B1.notSynchronized
  have hS : va_S (fun q => q = h ∨ q = w) s.heap s.heap [] := va_S.rf
  have hl := lv_entry ([.ref h, .int (nI row), .int (nI bit)]) (n := 6) (Nat.le_of_ble_eq_true rfl)
  rw [lg_entry_eq]
  generalize (lg_sl ([.ref h, .int (nI row), .int (nI bit)]) ++ List.replicate (6 - (lg_sl ([.ref h, .int (nI row), .int (nI bit)])).length) Slot.unset).toArray = ls at hl ⊢
  have hl : lv_has ls 6 [(0, .ref h), (1, .int (nI row)), (2, .int (nI bit))] := hl
  refine tq_gen (fun R Q hRe hQe => ?_)
  have hRf : 0 ≤ R.frames := by rw [hRe]; exact Nat.le_of_ble_eq_true rfl
  have hRl : 0 ≤ R.locals := by rw [hRe]; exact Nat.le_of_ble_eq_true rfl
  have hRc : 0 ≤ R.cells := by rw [hRe]; exact Nat.le_of_ble_eq_true rfl
  have hRs : 0 ≤ R.slots := by rw [hRe]; exact Nat.le_of_ble_eq_true rfl
  have hD := tq_D2 hD0
  refine lv_iload_n hx hb dB_put_0 rfl (lv_at hl 1 rfl) ?_
  refine lv_aload_n hx hb dB_put_1 rfl (lv_at hl 0 rfl) ?_
  refine gf_B_13 (v := .int (nI wp)) hx hb hA hown hK hP 0 rfl rfl dB_put_2 ?_
  refine tq_imul hx hb dB_put_5 ?_
  refine lv_iload_n hx hb dB_put_6 rfl (lv_at hl 2 rfl) ?_
  refine lv_bipush (v := nI 6) hx hb dB_put_7 (by decide +kernel) ?_
  refine tq_ishr6 hx hb dB_put_9 (by omega) ?_
  refine tq_iadd hx hb dB_put_10 ?_
  refine lv_istore_n (lv' := [(3, .int (nI ((row * wp) + (bit / 64)))), (0, .ref h), (1, .int (nI row)), (2, .int (nI bit))]) hx hb dB_put_11 rfl hl (by decide) rfl (fun ls hl => ?_)
  refine lv_aload_n hx hb dB_put_12 rfl (lv_at hl 1 rfl) ?_
  refine gf_B_16 (v := .ref w) hx hb hA hown hK hP 0 rfl rfl dB_put_13 ?_
  refine lv_iload_n hx hb dB_put_16 rfl (lv_at hl 0 rfl) ?_
  refine tq_lald hx hb hK hP 1 0 rfl rfl (by omega) (by omega) dB_put_17 ?_
  refine lv_lstore (lv' := [(4, .long ((bw wp B) ((row * wp) + (bit / 64)))), (3, .int (nI ((row * wp) + (bit / 64)))), (0, .ref h), (1, .int (nI row)), (2, .int (nI bit))]) hx hb dB_put_18 hl (by decide) rfl (fun ls hl => ?_)
  refine lv_aload_n hx hb dB_put_20 rfl (lv_at hl 2 rfl) ?_
  refine gf_B_16 (v := .ref w) hx hb hA hown hK hP 0 rfl rfl dB_put_21 ?_
  refine lv_iload_n hx hb dB_put_24 rfl (lv_at hl 1 rfl) ?_
  refine lv_lload hx hb dB_put_25 (lv_at hl 0 rfl) ?_
  refine lv_lconst (v := 1) hx hb dB_put_27 (by decide +kernel) ?_
  refine lv_iload_n hx hb dB_put_28 rfl (lv_at hl 4 rfl) ?_
  refine lv_bipush (v := nI 63) hx hb dB_put_29 (by decide +kernel) ?_
  refine tq_iand63 hx hb dB_put_31 (by omega) ?_
  refine lv_lshl hx hb dB_put_32 rfl ?_
  refine lv_lor hx hb dB_put_33 ?_
  refine tq_last hx hb hK hP hD hS 1 0 rfl rfl (by omega) (by omega) dB_put_34 (fun H locs hP hD hS => ?_)
  have hP : va_P D vwA [(h, .inr (0, [.int (nI Wd), .int (nI wp), .ref w])), (w, .inl (cL, n, .inr (.inl (vp_updL (bw wp B) ((row * wp) + (bit / 64)) (((bw wp B) ((row * wp) + (bit / 64))) ||| ((1 : Int64) <<< ((nI (bit % 64)).toInt64 &&& 63)))))))] H := hP
  have hD : va_D (fun q => q = h ∨ q = w) [(h, .inr (0, [.int (nI Wd), .int (nI wp), .ref w])), (w, .inl (cL, n, .inr (.inl (vp_updL (bw wp B) ((row * wp) + (bit / 64)) (((bw wp B) ((row * wp) + (bit / 64))) ||| ((1 : Int64) <<< ((nI (bit % 64)).toInt64 &&& 63)))))))] := hD
  rw [bw_put h1 (tm_shl1 (bit % 64) (Nat.mod_lt _ (by decide)))] at hP hD
  refine lv_aload_n hx hb dB_put_35 rfl (lv_at hl 2 rfl) ?_
  refine gf_B_16 (v := .ref w) hx hb hA hown hK hP 0 rfl rfl dB_put_36 ?_
  refine lv_iload_n hx hb dB_put_39 rfl (lv_at hl 1 rfl) ?_
  refine tq_lald hx hb hK hP 1 0 rfl rfl (by omega) (by omega) dB_put_40 ?_
  refine lv_lload hx hb dB_put_41 (lv_at hl 0 rfl) ?_
  refine tq_leq hx hb dB_put_43 dB_put_44 (tgt := 51) (by decide) (fun h43 => ?_) (fun h43 => ?_)
  · rw [bw_bit2 B h1] at h43
    have hB : B row bit = true := h43
    refine lv_iconst (v := nI 0) hx hb dB_put_51 (by decide +kernel) ?_
    subst hQe
    exact W.zret (v := nI 0) (ty := .boolean) hx hb hr rfl (fun t ht hW => ⟨⟨_, (), rfl, by rw [hB]; rfl, tq_hp ht hP⟩, hS.F ht⟩) hS.2.2 dB_put_52
  · rw [bw_bit2 B h1] at h43
    have hB : B row bit = false := ts_nt h43
    refine lv_iconst (v := nI 1) hx hb dB_put_47 (by decide +kernel) ?_
    refine lv_goto hx hb dB_put_48 (tgt := 52) (by decide) ?_
    subst hQe
    exact W.zret (v := nI 1) (ty := .boolean) hx hb hr rfl (fun t ht hW => ⟨⟨_, (), rfl, by rw [hB]; rfl, tq_hp ht hP⟩, hS.F ht⟩) hS.2.2 dB_put_52
set_option maxHeartbeats 4000000 in
set_option maxRecDepth 100000 in
/-- Bits.drop -/
theorem c_drop (l : Launch) (D : va_G) (h w n Wd wp : Nat) (cL : ClassId) (B : Nat → Nat → Bool) (row bit : Nat) (h1 : bit < wp * 64) (h2 : row * wp + bit / 64 < n) (hn : n < 2 ^ 31) (hw : wp < 100) : Met l yB_drop (wB_drop :: wA) ({ frames := 0, cells := 0, slots := 0, locals := 0 }) (va_Pc [.ref h, .int (nI row), .int (nI bit)] (tq_wB D vwA [(h, .inr (0, [.int (nI Wd), .int (nI wp), .ref w])), (w, .inl (cL, n, .inr (.inl (bw wp B))))] [(cL, .long)])) (va_Qv (fun (_ : Unit) => True) (fun _ t => va_P D vwA (bW h w n Wd wp cL (tm_drop B row bit)) t.heap) (fun q => q = h ∨ q = w)) 0 0 (fun q => q = h ∨ q = w) := by
  refine Met.ofW (cc := bB_drop) (maxL := 3) (ret := none) (by decide +kernel) rfl ?_
  intro p e s m args below meth c s₁ B1 hml hv
  obtain ⟨rfl, hP, hK, hD0⟩ := hv
  have hx := B1.exec
  have hb := B1.bytes
  have hr := B1.returns
  have hA : ∀ w ∈ wA, w.before ([.ref h, .int (nI row), .int (nI bit)] : List Value).toArray s = true := fun w h => atoms_spec (ws := wB_drop :: wA) B1.pre w (List.mem_cons_of_mem _ h)
  have hown : s.vm.findClass RcB = some m.cls := findClass_of_methodNamed B1.named
  have hlocks := B1.notSynchronized
  have hS : va_S (fun q => q = h ∨ q = w) s.heap s.heap [] := va_S.rf
  have hl := lv_entry ([.ref h, .int (nI row), .int (nI bit)]) (n := 3) (Nat.le_of_ble_eq_true rfl)
  rw [lg_entry_eq]
  generalize (lg_sl ([.ref h, .int (nI row), .int (nI bit)]) ++ List.replicate (3 - (lg_sl ([.ref h, .int (nI row), .int (nI bit)])).length) Slot.unset).toArray = ls at hl ⊢
  have hl : lv_has ls 3 [(0, .ref h), (1, .int (nI row)), (2, .int (nI bit))] := hl
  refine tq_gen (fun R Q hRe hQe => ?_)
  have hRf : 0 ≤ R.frames := by rw [hRe]; exact Nat.le_of_ble_eq_true rfl
  have hRl : 0 ≤ R.locals := by rw [hRe]; exact Nat.le_of_ble_eq_true rfl
  have hRc : 0 ≤ R.cells := by rw [hRe]; exact Nat.le_of_ble_eq_true rfl
  have hRs : 0 ≤ R.slots := by rw [hRe]; exact Nat.le_of_ble_eq_true rfl
  have hD := tq_D2 hD0
  refine lv_aload_n hx hb dB_drop_0 rfl (lv_at hl 0 rfl) ?_
  refine gf_B_16 (v := .ref w) hx hb hA hown hK hP 0 rfl rfl dB_drop_1 ?_
  refine lv_iload_n hx hb dB_drop_4 rfl (lv_at hl 1 rfl) ?_
  refine lv_aload_n hx hb dB_drop_5 rfl (lv_at hl 0 rfl) ?_
  refine gf_B_13 (v := .int (nI wp)) hx hb hA hown hK hP 0 rfl rfl dB_drop_6 ?_
  refine tq_imul hx hb dB_drop_9 ?_
  refine lv_iload_n hx hb dB_drop_10 rfl (lv_at hl 2 rfl) ?_
  refine lv_bipush (v := nI 6) hx hb dB_drop_11 (by decide +kernel) ?_
  refine tq_ishr6 hx hb dB_drop_13 (by omega) ?_
  refine tq_iadd hx hb dB_drop_14 ?_
  refine lv_dup2_11 hx hb dB_drop_15 rfl rfl ?_
  refine tq_lald hx hb hK hP 1 0 rfl rfl (by omega) (by omega) dB_drop_16 ?_
  refine lv_lconst (v := 1) hx hb dB_drop_17 (by decide +kernel) ?_
  refine lv_iload_n hx hb dB_drop_18 rfl (lv_at hl 2 rfl) ?_
  refine lv_bipush (v := nI 63) hx hb dB_drop_19 (by decide +kernel) ?_
  refine tq_iand63 hx hb dB_drop_21 (by omega) ?_
  refine lv_lshl hx hb dB_drop_22 rfl ?_
  refine lv_ldc2 hx hb hown (hA _ mct_B_20) dB_drop_23 ?_
  refine lv_lxor hx hb dB_drop_26 ?_
  refine lv_land hx hb dB_drop_27 ?_
  refine tq_last hx hb hK hP hD hS 1 0 rfl rfl (by omega) (by omega) dB_drop_28 (fun H locs hP hD hS => ?_)
  have hP : va_P D vwA [(h, .inr (0, [.int (nI Wd), .int (nI wp), .ref w])), (w, .inl (cL, n, .inr (.inl (vp_updL (bw wp B) ((row * wp) + (bit / 64)) (((bw wp B) ((row * wp) + (bit / 64))) &&& (((1 : Int64) <<< ((nI (bit % 64)).toInt64 &&& 63)) ^^^ (-1)))))))] H := hP
  have hD : va_D (fun q => q = h ∨ q = w) [(h, .inr (0, [.int (nI Wd), .int (nI wp), .ref w])), (w, .inl (cL, n, .inr (.inl (vp_updL (bw wp B) ((row * wp) + (bit / 64)) (((bw wp B) ((row * wp) + (bit / 64))) &&& (((1 : Int64) <<< ((nI (bit % 64)).toInt64 &&& 63)) ^^^ (-1)))))))] := hD
  rw [bw_drop h1 (tm_shl1 (bit % 64) (Nat.mod_lt _ (by decide)))] at hP hD
  subst hQe
  exact W.vret hx hb hr (fun t ht hW => ⟨⟨(), rfl, trivial, tq_hp ht hP⟩, hS.F ht⟩) hS.2.2 dB_drop_29
set_option maxHeartbeats 4000000 in
set_option maxRecDepth 100000 in
/-- c_next -/
theorem c_next (l : Launch) (D : va_G) (h w n Wd wp : Nat) (cL : ClassId) (B : Nat → Nat → Bool) (row fr : Nat) (h1 : Wd ≤ wp * 64) (h2 : row * wp + wp ≤ n) (hn : n < 2 ^ 31) (hw : Wd < 1200) (hf : fr ≤ Wd) (hr0 : row < 100000) : Met l yB_next (wB_next :: wA) ({ frames := 1, cells := 0, slots := 0, locals := 21 }) (va_Pc [.ref h, .int (nI row), .int (nI fr)] (tq_rB D vwA [(h, .inr (0, [.int (nI Wd), .int (nI wp), .ref w])), (w, .inl (cL, n, .inr (.inl (bw wp B))))] [(cL, .long)])) (va_Qi (fun r (_ : Unit) => ∃ r0 : Nat, r = nI r0 ∧ tm_nx (B row) Wd fr r0) (fun _ _ => True) (fun _ => False)) 0 0 (fun _ => False) := by
  refine Met.ofW (cc := bB_next) (maxL := 6) (ret := (some .int)) (by decide +kernel) rfl ?_
  intro p e s m args below meth c s₁ B1 hml hv
  obtain ⟨rfl, hP, hK⟩ := hv
  have hx := B1.exec
  have hb := B1.bytes
  have hr := B1.returns
  have hA : ∀ w ∈ wA, w.before ([.ref h, .int (nI row), .int (nI fr)] : List Value).toArray s = true := fun w h => atoms_spec (ws := wB_next :: wA) B1.pre w (List.mem_cons_of_mem _ h)
  have hown : s.vm.findClass RcB = some m.cls := findClass_of_methodNamed B1.named
  have hlocks := B1.notSynchronized
  have hS : va_S (fun _ => False) s.heap s.heap [] := va_S.rf
  have hl := lv_entry ([.ref h, .int (nI row), .int (nI fr)]) (n := 6) (Nat.le_of_ble_eq_true rfl)
  rw [lg_entry_eq]
  generalize (lg_sl ([.ref h, .int (nI row), .int (nI fr)]) ++ List.replicate (6 - (lg_sl ([.ref h, .int (nI row), .int (nI fr)])).length) Slot.unset).toArray = ls at hl ⊢
  have hl : lv_has ls 6 [(0, .ref h), (1, .int (nI row)), (2, .int (nI fr))] := hl
  refine tq_gen (fun R Q hRe hQe => ?_)
  have hRf : 1 ≤ R.frames := by rw [hRe]; exact Nat.le_of_ble_eq_true rfl
  have hRl : 21 ≤ R.locals := by rw [hRe]; exact Nat.le_of_ble_eq_true rfl
  have hRc : 0 ≤ R.cells := by rw [hRe]; exact Nat.le_of_ble_eq_true rfl
  have hRs : 0 ≤ R.slots := by rw [hRe]; exact Nat.le_of_ble_eq_true rfl
  refine lv_iload_n hx hb dB_next_0 rfl (lv_at hl 2 rfl) ?_
  refine lv_istore_n (lv' := [(3, .int (nI fr)), (0, .ref h), (1, .int (nI row)), (2, .int (nI fr))]) hx hb dB_next_1 rfl hl (by decide) rfl (fun ls hl => ?_)
  have lp : ∀ (fu : Nat) (at1 : Nat) (ls : Array Slot) (H : Heap) (locs : List Loc), fr ≤ at1 → at1 < Wd + 64 → (∀ y, fr ≤ y → y < at1 → y < Wd → (B row) y = false) → va_P D vwA [(h, .inr (0, [.int (nI Wd), .int (nI wp), .ref w])), (w, .inl (cL, n, .inr (.inl (bw wp B))))] H → va_S (fun _ => False) s.heap H locs → Wd + 64 - at1 < fu → lv_has ls 6 [(3, .int (nI at1)), (0, .ref h), (1, .int (nI row)), (2, .int (nI fr))] → W p l e R s m ([.ref h, .int (nI row), .int (nI fr)] : List Value).toArray below meth c H locs 0 0 Q (F0 m 2 ls []) := by
    intro fu
    induction fu with
    | zero => intros; omega
    | succ fu ih2 =>
      intro at1 ls H locs ha1 ha2 hinv hP hS hnn hl
      refine lv_iload_n hx hb dB_next_2 rfl (lv_at hl 0 rfl) ?_
      refine lv_aload_n hx hb dB_next_3 rfl (lv_at hl 1 rfl) ?_
      refine gf_B_7 (v := .int (nI Wd)) hx hb hA hown hK hP 0 rfl rfl dB_next_4 ?_
      refine tq_ge hx hb dB_next_7 (tgt := 64) (by decide) (by omega) (by omega) (fun h7 => ?_) (fun h7 => ?_)
      · refine lv_aload_n hx hb dB_next_64 rfl (lv_at hl 1 rfl) ?_
        refine gf_B_7 (v := .int (nI Wd)) hx hb hA hown hK hP 0 rfl rfl dB_next_65 ?_
        subst hQe
        exact W.iret (v := nI Wd) hx hb hr (fun t ht hW => ⟨⟨_, (), rfl, ⟨_, rfl, ⟨by omega, by omega, fun y a b c => hinv y a (by omega) c, fun z => by omega⟩⟩, trivial⟩, hS.F ht⟩) hS.2.2 dB_next_68
      · refine lv_aload_n hx hb dB_next_10 rfl (lv_at hl 1 rfl) ?_
        refine gf_B_16 (v := .ref w) hx hb hA hown hK hP 0 rfl rfl dB_next_11 ?_
        refine lv_iload_n hx hb dB_next_14 rfl (lv_at hl 2 rfl) ?_
        refine lv_aload_n hx hb dB_next_15 rfl (lv_at hl 1 rfl) ?_
        refine gf_B_13 (v := .int (nI wp)) hx hb hA hown hK hP 0 rfl rfl dB_next_16 ?_
        refine tq_imul hx hb dB_next_19 ?_
        refine lv_iload_n hx hb dB_next_20 rfl (lv_at hl 0 rfl) ?_
        refine lv_bipush (v := nI 6) hx hb dB_next_21 (by decide +kernel) ?_
        refine tq_ishr6 hx hb dB_next_23 (by omega) ?_
        refine tq_iadd hx hb dB_next_24 ?_
        refine tq_lald hx hb hK hP 1 0 rfl rfl (by omega) (by omega) dB_next_25 ?_
        refine lv_iload_n hx hb dB_next_26 rfl (lv_at hl 0 rfl) ?_
        refine lv_bipush (v := nI 63) hx hb dB_next_27 (by decide +kernel) ?_
        refine tq_iand63 hx hb dB_next_29 (by omega) ?_
        refine lv_lushr hx hb dB_next_30 rfl ?_
        refine lv_topl (fun rst erst => ?_)
        refine lv_lstore (lv' := [(4, .long rst), (3, .int (nI at1)), (0, .ref h), (1, .int (nI row)), (2, .int (nI fr))]) hx hb dB_next_31 hl (by decide) rfl (fun ls hl => ?_)
        refine lv_lload hx hb dB_next_33 (lv_at hl 0 rfl) ?_
        refine lv_lconst (v := 0) hx hb dB_next_35 (by decide +kernel) ?_
        refine tq_leq hx hb dB_next_36 dB_next_37 (tgt := 54) (by decide) (fun h36 => ?_) (fun h36 => ?_)
        · have h0 : (_ : Int64) = 0 := erst.symm.trans h36
          refine lv_iload_n hx hb dB_next_54 rfl (lv_at hl 1 rfl) ?_
          refine lv_bipush (v := nI 63) hx hb dB_next_55 (by decide +kernel) ?_
          refine tq_ior63 hx hb dB_next_57 (by omega) ?_
          refine lv_iconst (v := nI 1) hx hb dB_next_58 (by decide +kernel) ?_
          refine tq_iadd hx hb dB_next_59 ?_
          refine lv_istore_n (lv' := [(3, .int (nI ((at1 / 64 * 64 + 63) + 1))), (4, .long rst), (0, .ref h), (1, .int (nI row)), (2, .int (nI fr))]) hx hb dB_next_60 rfl hl (by decide) rfl (fun ls hl => ?_)
          refine lv_goto hx hb dB_next_61 (tgt := 2) (by decide) ?_
          exact ih2 ((at1 / 64 * 64 + 63) + 1) ls H locs (by omega) (by omega) (tm_miss (bw_word B (r := row) (at' := at1) (by omega)) hinv (Classical.byContradiction (fun z => z h0))) hP hS (by omega) (lv_sub hl [0, 2, 3, 4] rfl)
        · have hne := h36
          subst erst
          refine lv_iload_n hx hb dB_next_40 rfl (lv_at hl 1 rfl) ?_
          refine lv_lload hx hb dB_next_41 (lv_at hl 0 rfl) ?_
          refine lv_lload hx hb dB_next_43 (lv_at hl 0 rfl) ?_
          refine lv_lneg hx hb dB_next_45 ?_
          refine lv_land hx hb dB_next_46 ?_
          refine lv_lconst (v := 1) hx hb dB_next_47 (by decide +kernel) ?_
          refine lv_lsub hx hb dB_next_48 ?_
          obtain ⟨j, hj1, hj2, hj3⟩ := tm_low hne
          refine tq_l (tm_lowmask hj1 hj2 hj3) ?_
          refine tq_rdv (D := D) (cl := vwA) (va_runS (As := [.long (lN (2 ^ j - 1))]) (rest := [.int (nI at1)]) ⟨hx, hb, hml, hown, hA⟩ (c_bitCount l j hj1) (kw_B_22 hA rfl rfl ⟨by omega, by omega⟩) ⟨fun _ _ _ _ q => q, fun U hU hW => ⟨rfl, trivial⟩⟩ rfl rfl hl.1 rfl (lv_room (Nat.le_of_ble_eq_true rfl)) dB_next_49 ⟨by omega, by omega⟩) hS hP (fun H locs hP hS => ?_)
          refine tq_iadd hx hb dB_next_52 ?_
          subst hQe
          exact W.iret (v := nI (at1 + j)) hx hb hr (fun t ht hW => ⟨⟨_, (), rfl, ⟨_, rfl, tm_hit (bw_word B (r := row) (at' := at1) (by omega)) ha1 hinv h7 hj2 hj3⟩, trivial⟩, hS.F ht⟩) hS.2.2 dB_next_53
  exact lp (Wd + 65 - fr) fr ls s.heap [] (by omega) (by omega) (fun y a b => by omega) hP hS (by omega) (lv_sub hl [0, 1, 2, 3] rfl)
set_option maxHeartbeats 4000000 in
set_option maxRecDepth 100000 in
/-- c_nextBeyond -/
theorem c_nextBeyond (l : Launch) (D : va_G) (h w n Wd wp : Nat) (cL : ClassId) (B : Nat → Nat → Bool) (h2 w2 n2 Wd2 wp2 : Nat) (C : Nat → Nat → Bool) (row fr orow : Nat) (h1 : Wd ≤ wp * 64) (hr1 : row * wp + wp ≤ n) (hr2 : orow * wp + wp ≤ n2) (hn : n < 2 ^ 31) (hn2 : n2 < 2 ^ 31) (hw : Wd < 1200) (hf : fr ≤ Wd) : Met l yB_nextBeyond (wB_nextBeyond :: wA) ({ frames := 1, cells := 0, slots := 0, locals := 21 }) (va_Pc [.ref h, .int (nI row), .int (nI fr), .ref h2, .int (nI orow)] (tq_rB D vwA [(h, .inr (0, [.int (nI Wd), .int (nI wp), .ref w])), (w, .inl (cL, n, .inr (.inl (bw wp B)))), (h2, .inr (0, [.int (nI Wd2), .int (nI wp2), .ref w2])), (w2, .inl (cL, n2, .inr (.inl (bw wp C))))] [(cL, .long)])) (va_Qi (fun r (_ : Unit) => ∃ r0 : Nat, r = nI r0 ∧ tm_nx (fun y => B row y && !C orow y) Wd fr r0) (fun _ _ => True) (fun _ => False)) 0 0 (fun _ => False) := by
  refine Met.ofW (cc := bB_nextBeyond) (maxL := 9) (ret := (some .int)) (by decide +kernel) rfl ?_
  intro p e s m args below meth c s₁ B1 hml hv
  obtain ⟨rfl, hP, hK⟩ := hv
  have hx := B1.exec
  have hb := B1.bytes
  have hr := B1.returns
  have hA : ∀ w ∈ wA, w.before ([.ref h, .int (nI row), .int (nI fr), .ref h2, .int (nI orow)] : List Value).toArray s = true := fun w h => atoms_spec (ws := wB_nextBeyond :: wA) B1.pre w (List.mem_cons_of_mem _ h)
  have hown : s.vm.findClass RcB = some m.cls := findClass_of_methodNamed B1.named
  have hlocks := B1.notSynchronized
  have hS : va_S (fun _ => False) s.heap s.heap [] := va_S.rf
  have hl := lv_entry ([.ref h, .int (nI row), .int (nI fr), .ref h2, .int (nI orow)]) (n := 9) (Nat.le_of_ble_eq_true rfl)
  rw [lg_entry_eq]
  generalize (lg_sl ([.ref h, .int (nI row), .int (nI fr), .ref h2, .int (nI orow)]) ++ List.replicate (9 - (lg_sl ([.ref h, .int (nI row), .int (nI fr), .ref h2, .int (nI orow)])).length) Slot.unset).toArray = ls at hl ⊢
  have hl : lv_has ls 9 [(0, .ref h), (1, .int (nI row)), (2, .int (nI fr)), (3, .ref h2), (4, .int (nI orow))] := hl
  refine tq_gen (fun R Q hRe hQe => ?_)
  have hRf : 1 ≤ R.frames := by rw [hRe]; exact Nat.le_of_ble_eq_true rfl
  have hRl : 21 ≤ R.locals := by rw [hRe]; exact Nat.le_of_ble_eq_true rfl
  have hRc : 0 ≤ R.cells := by rw [hRe]; exact Nat.le_of_ble_eq_true rfl
  have hRs : 0 ≤ R.slots := by rw [hRe]; exact Nat.le_of_ble_eq_true rfl
  refine lv_iload_n hx hb dB_nextBeyond_0 rfl (lv_at hl 2 rfl) ?_
  refine lv_istore (lv' := [(5, .int (nI fr)), (0, .ref h), (1, .int (nI row)), (2, .int (nI fr)), (3, .ref h2), (4, .int (nI orow))]) hx hb dB_nextBeyond_1 hl (by decide) rfl (fun ls hl => ?_)
  have lp : ∀ (fu : Nat) (at1 : Nat) (ls : Array Slot) (H : Heap) (locs : List Loc), fr ≤ at1 → at1 < Wd + 64 → (∀ y, fr ≤ y → y < at1 → y < Wd → (fun y => B row y && !C orow y) y = false) → va_P D vwA [(h, .inr (0, [.int (nI Wd), .int (nI wp), .ref w])), (w, .inl (cL, n, .inr (.inl (bw wp B)))), (h2, .inr (0, [.int (nI Wd2), .int (nI wp2), .ref w2])), (w2, .inl (cL, n2, .inr (.inl (bw wp C))))] H → va_S (fun _ => False) s.heap H locs → Wd + 64 - at1 < fu → lv_has ls 9 [(5, .int (nI at1)), (0, .ref h), (1, .int (nI row)), (2, .int (nI fr)), (3, .ref h2), (4, .int (nI orow))] → W p l e R s m ([.ref h, .int (nI row), .int (nI fr), .ref h2, .int (nI orow)] : List Value).toArray below meth c H locs 0 0 Q (F0 m 3 ls []) := by
    intro fu
    induction fu with
    | zero => intros; omega
    | succ fu ih3 =>
      intro at1 ls H locs ha1 ha2 hinv hP hS hnn hl
      refine lv_iload hx hb dB_nextBeyond_3 (lv_at hl 0 rfl) ?_
      refine lv_aload_n hx hb dB_nextBeyond_5 rfl (lv_at hl 1 rfl) ?_
      refine gf_B_7 (v := .int (nI Wd)) hx hb hA hown hK hP 0 rfl rfl dB_nextBeyond_6 ?_
      refine tq_ge hx hb dB_nextBeyond_9 (tgt := 99) (by decide) (by omega) (by omega) (fun h9 => ?_) (fun h9 => ?_)
      · refine lv_aload_n hx hb dB_nextBeyond_99 rfl (lv_at hl 1 rfl) ?_
        refine gf_B_7 (v := .int (nI Wd)) hx hb hA hown hK hP 0 rfl rfl dB_nextBeyond_100 ?_
        subst hQe
        exact W.iret (v := nI Wd) hx hb hr (fun t ht hW => ⟨⟨_, (), rfl, ⟨_, rfl, ⟨by omega, by omega, fun y a b c => hinv y a (by omega) c, fun z => by omega⟩⟩, trivial⟩, hS.F ht⟩) hS.2.2 dB_nextBeyond_103
      · refine lv_iload hx hb dB_nextBeyond_12 (lv_at hl 0 rfl) ?_
        refine lv_bipush (v := nI 6) hx hb dB_nextBeyond_14 (by decide +kernel) ?_
        refine tq_ishr6 hx hb dB_nextBeyond_16 (by omega) ?_
        refine lv_istore (lv' := [(6, .int (nI (at1 / 64))), (5, .int (nI at1)), (0, .ref h), (1, .int (nI row)), (2, .int (nI fr)), (3, .ref h2), (4, .int (nI orow))]) hx hb dB_nextBeyond_17 hl (by decide) rfl (fun ls hl => ?_)
        refine lv_aload_n hx hb dB_nextBeyond_19 rfl (lv_at hl 2 rfl) ?_
        refine gf_B_16 (v := .ref w) hx hb hA hown hK hP 0 rfl rfl dB_nextBeyond_20 ?_
        refine lv_iload_n hx hb dB_nextBeyond_23 rfl (lv_at hl 3 rfl) ?_
        refine lv_aload_n hx hb dB_nextBeyond_24 rfl (lv_at hl 2 rfl) ?_
        refine gf_B_13 (v := .int (nI wp)) hx hb hA hown hK hP 0 rfl rfl dB_nextBeyond_25 ?_
        refine tq_imul hx hb dB_nextBeyond_28 ?_
        refine lv_iload hx hb dB_nextBeyond_29 (lv_at hl 0 rfl) ?_
        refine tq_iadd hx hb dB_nextBeyond_31 ?_
        refine tq_lald hx hb hK hP 1 0 rfl rfl (by omega) (by omega) dB_nextBeyond_32 ?_
        refine lv_aload_n hx hb dB_nextBeyond_33 rfl (lv_at hl 5 rfl) ?_
        refine gf_B_16 (v := .ref w2) hx hb hA hown hK hP 2 rfl rfl dB_nextBeyond_34 ?_
        refine lv_iload hx hb dB_nextBeyond_37 (lv_at hl 6 rfl) ?_
        refine lv_aload_n hx hb dB_nextBeyond_39 rfl (lv_at hl 2 rfl) ?_
        refine gf_B_13 (v := .int (nI wp)) hx hb hA hown hK hP 0 rfl rfl dB_nextBeyond_40 ?_
        refine tq_imul hx hb dB_nextBeyond_43 ?_
        refine lv_iload hx hb dB_nextBeyond_44 (lv_at hl 0 rfl) ?_
        refine tq_iadd hx hb dB_nextBeyond_46 ?_
        refine tq_lald hx hb hK hP 3 0 rfl rfl (by omega) (by omega) dB_nextBeyond_47 ?_
        refine lv_ldc2 hx hb hown (hA _ mct_B_20) dB_nextBeyond_48 ?_
        refine lv_lxor hx hb dB_nextBeyond_51 ?_
        refine lv_land hx hb dB_nextBeyond_52 ?_
        refine lv_lstore (lv' := [(7, .long (((bw wp B) ((row * wp) + (at1 / 64))) &&& (((bw wp C) ((orow * wp) + (at1 / 64))) ^^^ (-1)))), (6, .int (nI (at1 / 64))), (5, .int (nI at1)), (0, .ref h), (1, .int (nI row)), (2, .int (nI fr)), (3, .ref h2), (4, .int (nI orow))]) hx hb dB_nextBeyond_53 hl (by decide) rfl (fun ls hl => ?_)
        refine lv_lload hx hb dB_nextBeyond_55 (lv_at hl 0 rfl) ?_
        refine lv_iload hx hb dB_nextBeyond_57 (lv_at hl 2 rfl) ?_
        refine lv_bipush (v := nI 63) hx hb dB_nextBeyond_59 (by decide +kernel) ?_
        refine tq_iand63 hx hb dB_nextBeyond_61 (by omega) ?_
        refine lv_lushr hx hb dB_nextBeyond_62 rfl ?_
        refine lv_topl (fun rst erst => ?_)
        refine lv_lstore (lv' := [(7, .long rst), (6, .int (nI (at1 / 64))), (5, .int (nI at1)), (0, .ref h), (1, .int (nI row)), (2, .int (nI fr)), (3, .ref h2), (4, .int (nI orow))]) hx hb dB_nextBeyond_63 hl (by decide) rfl (fun ls hl => ?_)
        refine lv_lload hx hb dB_nextBeyond_65 (lv_at hl 0 rfl) ?_
        refine lv_lconst (v := 0) hx hb dB_nextBeyond_67 (by decide +kernel) ?_
        refine tq_leq hx hb dB_nextBeyond_68 dB_nextBeyond_69 (tgt := 87) (by decide) (fun h68 => ?_) (fun h68 => ?_)
        · have h0 : (_ : Int64) = 0 := erst.symm.trans h68
          refine lv_iload hx hb dB_nextBeyond_87 (lv_at hl 2 rfl) ?_
          refine lv_bipush (v := nI 63) hx hb dB_nextBeyond_89 (by decide +kernel) ?_
          refine tq_ior63 hx hb dB_nextBeyond_91 (by omega) ?_
          refine lv_iconst (v := nI 1) hx hb dB_nextBeyond_92 (by decide +kernel) ?_
          refine tq_iadd hx hb dB_nextBeyond_93 ?_
          refine lv_istore (lv' := [(5, .int (nI ((at1 / 64 * 64 + 63) + 1))), (7, .long rst), (6, .int (nI (at1 / 64))), (0, .ref h), (1, .int (nI row)), (2, .int (nI fr)), (3, .ref h2), (4, .int (nI orow))]) hx hb dB_nextBeyond_94 hl (by decide) rfl (fun ls hl => ?_)
          refine lv_goto hx hb dB_nextBeyond_96 (tgt := 3) (by decide) ?_
          exact ih3 ((at1 / 64 * 64 + 63) + 1) ls H locs (by omega) (by omega) (tm_miss (bw_word2 B C (r := row) (q := orow) (at' := at1) (by omega)) hinv (Classical.byContradiction (fun z => z h0))) hP hS (by omega) (lv_sub hl [0, 3, 4, 5, 6, 7] rfl)
        · have hne := h68
          subst erst
          refine lv_iload hx hb dB_nextBeyond_72 (lv_at hl 2 rfl) ?_
          refine lv_lload hx hb dB_nextBeyond_74 (lv_at hl 0 rfl) ?_
          refine lv_lload hx hb dB_nextBeyond_76 (lv_at hl 0 rfl) ?_
          refine lv_lneg hx hb dB_nextBeyond_78 ?_
          refine lv_land hx hb dB_nextBeyond_79 ?_
          refine lv_lconst (v := 1) hx hb dB_nextBeyond_80 (by decide +kernel) ?_
          refine lv_lsub hx hb dB_nextBeyond_81 ?_
          obtain ⟨j, hj1, hj2, hj3⟩ := tm_low hne
          refine tq_l (tm_lowmask hj1 hj2 hj3) ?_
          refine tq_rdv (D := D) (cl := vwA) (va_runS (As := [.long (lN (2 ^ j - 1))]) (rest := [.int (nI at1)]) ⟨hx, hb, hml, hown, hA⟩ (c_bitCount l j hj1) (kw_B_22 hA rfl rfl ⟨by omega, by omega⟩) ⟨fun _ _ _ _ q => q, fun U hU hW => ⟨rfl, trivial⟩⟩ rfl rfl hl.1 rfl (lv_room (Nat.le_of_ble_eq_true rfl)) dB_nextBeyond_82 ⟨by omega, by omega⟩) hS hP (fun H locs hP hS => ?_)
          refine tq_iadd hx hb dB_nextBeyond_85 ?_
          subst hQe
          exact W.iret (v := nI (at1 + j)) hx hb hr (fun t ht hW => ⟨⟨_, (), rfl, ⟨_, rfl, tm_hit (bw_word2 B C (r := row) (q := orow) (at' := at1) (by omega)) ha1 hinv h9 hj2 hj3⟩, trivial⟩, hS.F ht⟩) hS.2.2 dB_nextBeyond_86
  exact lp (Wd + 65 - fr) fr ls s.heap [] (by omega) (by omega) (fun y a b => by omega) hP hS (by omega) (lv_sub hl [0, 1, 2, 3, 4, 5] rfl)
set_option maxHeartbeats 4000000 in
set_option maxRecDepth 100000 in
/-- Math.min -/
theorem c_min (l : Launch) (a b : Nat) (ha : a < 2 ^ 31) (hb2 : b < 2 ^ 31) : Met l yJm_min (wJm_min :: wA) ({ frames := 0, cells := 0, slots := 0, locals := 0 }) (va_Pc [.int (nI a), .int (nI b)] (fun _ => True)) (va_Qi (fun r (_ : Unit) => r = nI (min a b)) (fun _ _ => True) (fun _ => False)) 0 0 (fun _ => False) := by
  refine va_MetF (cc := bJm_min) (maxL := 2) (ret := (some .int)) (by decide +kernel) rfl ?_
  intro p e s m args below meth c s₁ B1 hml hv
  obtain ⟨rfl, -⟩ := hv
  have hx := B1.exec
  have hb := B1.bytes
  have hr := B1.returns
  have hA : ∀ w ∈ wA, w.before ([.int (nI a), .int (nI b)] : List Value).toArray s = true := fun w h => atoms_spec (ws := wJm_min :: wA) B1.pre w (List.mem_cons_of_mem _ h)
  have hown : s.vm.findClass RcJm = some m.cls := findClass_of_methodNamed B1.named
  have hlocks := B1.notSynchronized
  have hS : va_S (fun _ => False) s.heap s.heap [] := va_S.rf
  have hl := lv_entry ([.int (nI a), .int (nI b)]) (n := 2) (Nat.le_of_ble_eq_true rfl)
  rw [lg_entry_eq]
  generalize (lg_sl ([.int (nI a), .int (nI b)]) ++ List.replicate (2 - (lg_sl ([.int (nI a), .int (nI b)])).length) Slot.unset).toArray = ls at hl ⊢
  have hl : lv_has ls 2 [(0, .int (nI a)), (1, .int (nI b))] := hl
  refine tq_gen (fun R Q hRe hQe => ?_)
  have hRf : 0 ≤ R.frames := by rw [hRe]; exact Nat.le_of_ble_eq_true rfl
  have hRl : 0 ≤ R.locals := by rw [hRe]; exact Nat.le_of_ble_eq_true rfl
  have hRc : 0 ≤ R.cells := by rw [hRe]; exact Nat.le_of_ble_eq_true rfl
  have hRs : 0 ≤ R.slots := by rw [hRe]; exact Nat.le_of_ble_eq_true rfl
  refine lv_iload_n hx hb dJm_min_0 rfl (lv_at hl 0 rfl) ?_
  refine lv_iload_n hx hb dJm_min_1 rfl (lv_at hl 1 rfl) ?_
  refine tq_gt hx hb dJm_min_2 (tgt := 9) (by decide) (by omega) (by omega) (fun h2 => ?_) (fun h2 => ?_)
  · refine lv_iload_n hx hb dJm_min_9 rfl (lv_at hl 1 rfl) ?_
    subst hQe
    exact W.iret (v := nI b) hx hb hr (fun t ht hW => ⟨⟨_, (), rfl, by congr 1; omega, trivial⟩, hS.F ht⟩) hS.2.2 dJm_min_10
  · refine lv_iload_n hx hb dJm_min_5 rfl (lv_at hl 0 rfl) ?_
    refine lv_goto hx hb dJm_min_6 (tgt := 10) (by decide) ?_
    subst hQe
    exact W.iret (v := nI a) hx hb hr (fun t ht hW => ⟨⟨_, (), rfl, by congr 1; omega, trivial⟩, hS.F ht⟩) hS.2.2 dJm_min_10
set_option maxHeartbeats 4000000 in
set_option maxRecDepth 100000 in
/-- Bits.clear -/
theorem c_clear (l : Launch) (D : va_G) (h w n Wd wp : Nat) (cL : ClassId) (B : Nat → Nat → Bool) (rows : Nat) (h1 : rows * wp ≤ n) (hn : n < 2 ^ 31) (hw : 0 < wp) : Met l yB_clear (wB_clear :: wA) ({ frames := 1, cells := 0, slots := 0, locals := 21 }) (va_Pc [.ref h, .int (nI rows)] (tq_wB D vwA [(h, .inr (0, [.int (nI Wd), .int (nI wp), .ref w])), (w, .inl (cL, n, .inr (.inl (bw wp B))))] [(cL, .long)])) (va_Qv (fun (_ : Unit) => True) (fun _ t => va_P D vwA (bW h w n Wd wp cL (tm_clr B rows)) t.heap) (fun q => q = h ∨ q = w)) 0 0 (fun q => q = h ∨ q = w) := by
  refine Met.ofW (cc := bB_clear) (maxL := 4) (ret := none) (by decide +kernel) rfl ?_
  intro p e s m args below meth c s₁ B1 hml hv
  obtain ⟨rfl, hP, hK, hD0⟩ := hv
  have hx := B1.exec
  have hb := B1.bytes
  have hr := B1.returns
  have hA : ∀ w ∈ wA, w.before ([.ref h, .int (nI rows)] : List Value).toArray s = true := fun w h => atoms_spec (ws := wB_clear :: wA) B1.pre w (List.mem_cons_of_mem _ h)
  have hown : s.vm.findClass RcB = some m.cls := findClass_of_methodNamed B1.named
  have hlocks := B1.notSynchronized
  have hS : va_S (fun q => q = h ∨ q = w) s.heap s.heap [] := va_S.rf
  have hl := lv_entry ([.ref h, .int (nI rows)]) (n := 4) (Nat.le_of_ble_eq_true rfl)
  rw [lg_entry_eq]
  generalize (lg_sl ([.ref h, .int (nI rows)]) ++ List.replicate (4 - (lg_sl ([.ref h, .int (nI rows)])).length) Slot.unset).toArray = ls at hl ⊢
  have hl : lv_has ls 4 [(0, .ref h), (1, .int (nI rows))] := hl
  refine tq_gen (fun R Q hRe hQe => ?_)
  have hRf : 1 ≤ R.frames := by rw [hRe]; exact Nat.le_of_ble_eq_true rfl
  have hRl : 21 ≤ R.locals := by rw [hRe]; exact Nat.le_of_ble_eq_true rfl
  have hRc : 0 ≤ R.cells := by rw [hRe]; exact Nat.le_of_ble_eq_true rfl
  have hRs : 0 ≤ R.slots := by rw [hRe]; exact Nat.le_of_ble_eq_true rfl
  have hD := tq_D2 hD0
  refine lv_iload_n hx hb dB_clear_0 rfl (lv_at hl 1 rfl) ?_
  refine lv_aload_n hx hb dB_clear_1 rfl (lv_at hl 0 rfl) ?_
  refine gf_B_13 (v := .int (nI wp)) hx hb hA hown hK hP 0 rfl rfl dB_clear_2 ?_
  refine tq_imul hx hb dB_clear_5 ?_
  refine lv_aload_n hx hb dB_clear_6 rfl (lv_at hl 0 rfl) ?_
  refine gf_B_16 (v := .ref w) hx hb hA hown hK hP 0 rfl rfl dB_clear_7 ?_
  refine va_alen (v := nI n) hx hb hK hP 1 0 rfl rfl rfl dB_clear_10 ?_
  refine tq_rdv (D := D) (cl := vwA) (va_runS (As := [.int (nI (rows * wp)), .int (nI n)]) (rest := []) ⟨hx, hb, hml, hown, hA⟩ (c_min l (rows * wp) n (by omega) (by omega)) (kw_B_28 hA rfl rfl ⟨by omega, by omega⟩) ⟨fun _ _ _ _ q => q, fun U hU hW => ⟨rfl, trivial⟩⟩ rfl rfl hl.1 rfl (lv_room (Nat.le_of_ble_eq_true rfl)) dB_clear_11 ⟨by omega, by omega⟩) hS hP (fun H locs hP hS => ?_)
  refine tq_i (show nI (min (rows * wp) (n)) = nI (rows * wp) by congr 1; omega) ?_
  refine lv_istore_n (lv' := [(2, .int (nI (rows * wp))), (0, .ref h), (1, .int (nI rows))]) hx hb dB_clear_14 rfl hl (by decide) rfl (fun ls hl => ?_)
  refine lv_iconst (v := nI 0) hx hb dB_clear_15 (by decide +kernel) ?_
  refine lv_istore_n (lv' := [(3, .int (nI 0)), (2, .int (nI (rows * wp))), (0, .ref h), (1, .int (nI rows))]) hx hb dB_clear_16 rfl hl (by decide) rfl (fun ls hl => ?_)
  have lp : ∀ (fu : Nat) (at1 : Nat) (ls : Array Slot) (H : Heap) (locs : List Loc), at1 ≤ rows * wp → va_P D vwA [(h, .inr (0, [.int (nI Wd), .int (nI wp), .ref w])), (w, .inl (cL, n, .inr (.inl (bw_z wp B at1))))] H → va_D (fun q => q = h ∨ q = w) [(h, .inr (0, [.int (nI Wd), .int (nI wp), .ref w])), (w, .inl (cL, n, .inr (.inl (bw_z wp B at1))))] → va_S (fun q => q = h ∨ q = w) s.heap H locs → rows * wp - at1 < fu → lv_has ls 4 [(3, .int (nI at1)), (2, .int (nI (rows * wp))), (0, .ref h), (1, .int (nI rows))] → W p l e R s m ([.ref h, .int (nI rows)] : List Value).toArray below meth c H locs 0 0 Q (F0 m 17 ls []) := by
    intro fu
    induction fu with
    | zero => intros; omega
    | succ fu ih17 =>
      intro at1 ls H locs ha1 hP hD hS hnn hl
      refine lv_iload_n hx hb dB_clear_17 rfl (lv_at hl 0 rfl) ?_
      refine lv_iload_n hx hb dB_clear_18 rfl (lv_at hl 1 rfl) ?_
      refine tq_ge hx hb dB_clear_19 (tgt := 35) (by decide) (by omega) (by omega) (fun h19 => ?_) (fun h19 => ?_)
      · have e9 : at1 = rows * wp := by omega
        rw [e9, bw_ze hw] at hP
        subst hQe
        exact W.vret hx hb hr (fun t ht hW => ⟨⟨(), rfl, trivial, tq_hp ht hP⟩, hS.F ht⟩) hS.2.2 dB_clear_35
      · refine lv_aload_n hx hb dB_clear_22 rfl (lv_at hl 2 rfl) ?_
        refine gf_B_16 (v := .ref w) hx hb hA hown hK hP 0 rfl rfl dB_clear_23 ?_
        refine lv_iload_n hx hb dB_clear_26 rfl (lv_at hl 0 rfl) ?_
        refine lv_lconst (v := 0) hx hb dB_clear_27 (by decide +kernel) ?_
        refine tq_last hx hb hK hP hD hS 1 0 rfl rfl (by omega) (by omega) dB_clear_28 (fun H locs hP hD hS => ?_)
        have hP : va_P D vwA [(h, .inr (0, [.int (nI Wd), .int (nI wp), .ref w])), (w, .inl (cL, n, .inr (.inl (vp_updL (bw_z wp B at1) at1 0))))] H := hP
        have hD : va_D (fun q => q = h ∨ q = w) [(h, .inr (0, [.int (nI Wd), .int (nI wp), .ref w])), (w, .inl (cL, n, .inr (.inl (vp_updL (bw_z wp B at1) at1 0))))] := hD
        rw [bw_zs] at hP hD
        refine lv_iinc (k := 0) (lv' := [(3, .int (nI (at1 + 1))), (2, .int (nI (rows * wp))), (0, .ref h), (1, .int (nI rows))]) hx hb dB_clear_29 hl rfl (nI_1 _) (by decide) rfl (fun ls hl => ?_)
        refine lv_goto hx hb dB_clear_32 (tgt := 17) (by decide) ?_
        exact ih17 (at1 + 1) ls H locs (by omega) hP hD hS (by omega) (lv_sub hl [0, 1, 2, 3] rfl)
  exact lp (rows * wp + 1) 0 ls H locs (by omega) (by rw [bw_z0]; exact hP) (by rw [bw_z0]; exact hD) hS (by omega) (lv_sub hl [0, 1, 2, 3] rfl)
end
section
/-! Calls of Bits' methods out of any world that holds the object and its array; calls of methods of the system's own world. -/
theorem tq_P2 {D : va_G} {cl : List vw_C} {ws : va_W} {H : Heap} {i j : Nat} {x y : Nat × va_E} (hP : va_P D cl ws H) (hi : ws[i]? = some x) (hj : ws[j]? = some y) : va_P D cl [x, y] H := by
  intro k q hk
  rcases List.mem_cons.mp (List.mem_of_getElem? hk) with e | e
  · rw [e]; exact hP i x hi
  · rw [List.mem_singleton.mp e]; exact hP j y hj
theorem tq_P4 {D : va_G} {cl : List vw_C} {ws : va_W} {H : Heap} {i j i2 j2 : Nat} {x y x2 y2 : Nat × va_E} (hP : va_P D cl ws H) (hi : ws[i]? = some x) (hj : ws[j]? = some y) (hi2 : ws[i2]? = some x2) (hj2 : ws[j2]? = some y2) : va_P D cl [x, y, x2, y2] H := by
  intro k q hk
  have := List.mem_of_getElem? hk
  simp only [List.mem_cons, List.not_mem_nil, or_false] at this
  rcases this with e | e | e | e
  · rw [e]; exact hP i x hi
  · rw [e]; exact hP j y hj
  · rw [e]; exact hP i2 x2 hi2
  · rw [e]; exact hP j2 y2 hj2
theorem tq_K1 {D : va_G} {cl : List vw_C} {tys : List (ClassId × FieldType)} {U : State} {t0 : Nat} {z : ClassId × FieldType} (hK : va_K D cl tys U) (ht : tys[t0]? = some z) : va_K D cl [z] U :=
  hK.sub [t0] (by simp [ht])
theorem tq_DD2 {A : Nat → Prop} {ws : va_W} {i j : Nat} {x y : Nat × va_E} (hD : va_D A ws) (hi : ws[i]? = some x) (hj : ws[j]? = some y) (hij : i ≠ j) : va_D (fun _ => True) [x, y] := by
  have hne : x.1 ≠ y.1 := fun z => hij (hD.1 i j x y hi hj z)
  refine ⟨fun a b p q ha hb hpq => ?_, fun _ _ _ => trivial⟩
  match a, b, ha, hb with
  | 0, 0, _, _ => rfl
  | 1, 1, _, _ => rfl
  | 0, 1, ha, hb =>
    cases ha; cases hb
    exact absurd hpq hne
  | 1, 0, ha, hb =>
    cases ha; cases hb
    exact absurd hpq.symm hne
  | a + 2, _, ha, _ => simp at ha
  | 0, b + 2, _, hb => simp at hb
  | 1, b + 2, _, hb => simp at hb
section KC
variable {p : Program} {l : Launch} {e : Env} {R : Room} {s : State} {m : MethodId} {args : Array Value} {below : List Frame} {meth : Method} {c : Code} {H : Heap} {locs : List Loc} {cells slots : Nat} {Q : State → Prop}
variable {cc : ByteArray} {pc nL index : Nat} {ls : Array Slot} {rest : List Value} {D : va_G} {A : Nat → Prop} {tys : List (ClassId × FieldType)} {ws : va_W} {H0 : Heap} {own : String}
variable {h w n Wd wp : Nat} {cL : ClassId} {B : Nat → Nat → Bool}
theorem k_holds {row bit : Nat} (S : CallFix p m c cc nL s args wA own) (cw : CallW R s args own RcB index yB_holds bB_holds 3 (some .boolean) (wB_holds :: wA) { frames := 0, cells := 0, slots := 0, locals := 0 } 0 0 2) (hK : va_K D vwA tys s) (hP : va_P D vwA ws H) (hS : va_S A H0 H locs)
    (i j t0 : Nat) (hi : ws[i]? = some (h, .inr (0, [.int (nI Wd), .int (nI wp), .ref w]))) (hj : ws[j]? = some (w, .inl (cL, n, .inr (.inl (bw wp B))))) (ht : tys[t0]? = some (cL, .long)) (h1 : bit < wp * 64) (h2 : row * wp + bit / 64 < n) (hn : n < 2 ^ 31) (hw : wp < 100)
    (hls : ls.size = nL) (hroom : (rest.map fun v => v.category).sum ≤ 8) (hcs : cells + 0 ≤ R.cells ∧ slots + 0 ≤ R.slots) (hdg : decode cc pc = .ok (.invokevirtual index, 3))
    (kk : ∀ (H1 : Heap) (locs1 : List Loc), va_P D vwA ws H1 → va_S A H0 H1 locs1 → W p l e R s m args below meth c H1 locs1 cells slots Q (F0 m (pc + 3) ls (.int (bI (B row bit)) :: rest))) : W p l e R s m args below meth c H locs cells slots Q (F0 m pc ls (.int (nI bit) :: .int (nI row) :: .ref h :: rest)) :=
  tq_rdv (va_runV (As := [.int (nI row), .int (nI bit)]) (rest := rest) S (c_holds l D h w n Wd wp cL B row bit h1 h2 hn hw) cw ⟨tq_rB_blind, va_recv hK hP (q := (RcB, FcB, 3)) rfl hi, fun U hU hW => ⟨rfl, by rw [hU]; exact tq_P2 hP hi hj, va_K.moved hW.alike (tq_K1 hK ht)⟩⟩ rfl rfl hls rfl (lv_room hroom) hdg hcs) hS hP kk
theorem k_next {row fr : Nat} (S : CallFix p m c cc nL s args wA own) (cw : CallW R s args own RcB index yB_next bB_next 6 (some .int) (wB_next :: wA) { frames := 1, cells := 0, slots := 0, locals := 21 } 0 0 2) (hK : va_K D vwA tys s) (hP : va_P D vwA ws H) (hS : va_S A H0 H locs)
    (i j t0 : Nat) (hi : ws[i]? = some (h, .inr (0, [.int (nI Wd), .int (nI wp), .ref w]))) (hj : ws[j]? = some (w, .inl (cL, n, .inr (.inl (bw wp B))))) (ht : tys[t0]? = some (cL, .long)) (h1 : Wd ≤ wp * 64) (h2 : row * wp + wp ≤ n) (hn : n < 2 ^ 31) (hw : Wd < 1200) (hf : fr ≤ Wd) (hr0 : row < 100000)
    (hls : ls.size = nL) (hroom : (rest.map fun v => v.category).sum ≤ 8) (hcs : cells + 0 ≤ R.cells ∧ slots + 0 ≤ R.slots) (hdg : decode cc pc = .ok (.invokevirtual index, 3))
    (kk : ∀ (r : Nat) (H1 : Heap) (locs1 : List Loc), tm_nx (B row) Wd fr r → va_P D vwA ws H1 → va_S A H0 H1 locs1 → W p l e R s m args below meth c H1 locs1 cells slots Q (F0 m (pc + 3) ls (.int (nI r) :: rest))) : W p l e R s m args below meth c H locs cells slots Q (F0 m pc ls (.int (nI fr) :: .int (nI row) :: .ref h :: rest)) :=
  tq_rdi (va_runV (As := [.int (nI row), .int (nI fr)]) (rest := rest) S (c_next l D h w n Wd wp cL B row fr h1 h2 hn hw hf hr0) cw ⟨tq_rB_blind, va_recv hK hP (q := (RcB, FcB, 3)) rfl hi, fun U hU hW => ⟨rfl, by rw [hU]; exact tq_P2 hP hi hj, va_K.moved hW.alike (tq_K1 hK ht)⟩⟩ rfl rfl hls rfl (lv_room hroom) hdg hcs) hS hP
    (fun r H1 locs1 hp hP1 hS1 => by
      obtain ⟨r0, rfl, hx⟩ := hp
      exact kk r0 H1 locs1 hx hP1 hS1)
theorem k_nextBeyond {row fr orow h2 w2 n2 Wd2 wp2 : Nat} {C : Nat → Nat → Bool} (S : CallFix p m c cc nL s args wA own) (cw : CallW R s args own RcB index yB_nextBeyond bB_nextBeyond 9 (some .int) (wB_nextBeyond :: wA) { frames := 1, cells := 0, slots := 0, locals := 21 } 0 0 4) (hK : va_K D vwA tys s) (hP : va_P D vwA ws H) (hS : va_S A H0 H locs)
    (i j i2 j2 t0 : Nat) (hi : ws[i]? = some (h, .inr (0, [.int (nI Wd), .int (nI wp), .ref w]))) (hj : ws[j]? = some (w, .inl (cL, n, .inr (.inl (bw wp B))))) (hi2 : ws[i2]? = some (h2, .inr (0, [.int (nI Wd2), .int (nI wp2), .ref w2]))) (hj2 : ws[j2]? = some (w2, .inl (cL, n2, .inr (.inl (bw wp C))))) (ht : tys[t0]? = some (cL, .long)) (h1 : Wd ≤ wp * 64) (hr1 : row * wp + wp ≤ n) (hr2 : orow * wp + wp ≤ n2) (hn : n < 2 ^ 31) (hn2 : n2 < 2 ^ 31) (hw : Wd < 1200) (hf : fr ≤ Wd)
    (hls : ls.size = nL) (hroom : (rest.map fun v => v.category).sum ≤ 8) (hcs : cells + 0 ≤ R.cells ∧ slots + 0 ≤ R.slots) (hdg : decode cc pc = .ok (.invokevirtual index, 3))
    (kk : ∀ (r : Nat) (H1 : Heap) (locs1 : List Loc), tm_nx (fun y => B row y && !C orow y) Wd fr r → va_P D vwA ws H1 → va_S A H0 H1 locs1 → W p l e R s m args below meth c H1 locs1 cells slots Q (F0 m (pc + 3) ls (.int (nI r) :: rest))) : W p l e R s m args below meth c H locs cells slots Q (F0 m pc ls (.int (nI orow) :: .ref h2 :: .int (nI fr) :: .int (nI row) :: .ref h :: rest)) :=
  tq_rdi (va_runV (As := [.int (nI row), .int (nI fr), .ref h2, .int (nI orow)]) (rest := rest) S (c_nextBeyond l D h w n Wd wp cL B h2 w2 n2 Wd2 wp2 C row fr orow h1 hr1 hr2 hn hn2 hw hf) cw ⟨tq_rB_blind, va_recv hK hP (q := (RcB, FcB, 3)) rfl hi, fun U hU hW => ⟨rfl, by rw [hU]; exact tq_P4 hP hi hj hi2 hj2, va_K.moved hW.alike (tq_K1 hK ht)⟩⟩ rfl rfl hls rfl (lv_room hroom) hdg hcs) hS hP
    (fun r H1 locs1 hp hP1 hS1 => by
      obtain ⟨r0, rfl, hx⟩ := hp
      exact kk r0 H1 locs1 hx hP1 hS1)
theorem k_put {row bit : Nat} (S : CallFix p m c cc nL s args wA own) (cw : CallW R s args own RcB index yB_put bB_put 6 (some .boolean) (wB_put :: wA) { frames := 0, cells := 0, slots := 0, locals := 0 } 0 0 2) (hK : va_K D vwA tys s) (hP : va_P D vwA ws H) (hD : va_D A ws) (hS : va_S A H0 H locs)
    (i j t0 : Nat) (hi : ws[i]? = some (h, .inr (0, [.int (nI Wd), .int (nI wp), .ref w]))) (hj : ws[j]? = some (w, .inl (cL, n, .inr (.inl (bw wp B))))) (hij : i ≠ j) (ht : tys[t0]? = some (cL, .long)) (h1 : bit < wp * 64) (h2 : row * wp + bit / 64 < n) (hn : n < 2 ^ 31) (hw : wp < 100)
    (hls : ls.size = nL) (hroom : (rest.map fun v => v.category).sum ≤ 8) (hcs : cells + 0 ≤ R.cells ∧ slots + 0 ≤ R.slots) (hdg : decode cc pc = .ok (.invokevirtual index, 3))
    (kk : ∀ (H1 : Heap) (locs1 : List Loc), va_P D vwA (ws.set j (w, .inl (cL, n, .inr (.inl (bw wp (tm_put B row bit)))))) H1 → va_D A (ws.set j (w, .inl (cL, n, .inr (.inl (bw wp (tm_put B row bit)))))) → va_S A H0 H1 locs1 → W p l e R s m args below meth c H1 locs1 cells slots Q (F0 m (pc + 3) ls (.int (bI (!B row bit)) :: rest))) : W p l e R s m args below meth c H locs cells slots Q (F0 m pc ls (.int (nI bit) :: .int (nI row) :: .ref h :: rest)) :=
  tq_wri (va_runV (As := [.int (nI row), .int (nI bit)]) (rest := rest) S (c_put l D h w n Wd wp cL B row bit h1 h2 hn hw) cw ⟨tq_wB_blind, va_recv hK hP (q := (RcB, FcB, 3)) rfl hi, fun U hU hW => ⟨rfl, by rw [hU]; exact tq_P2 hP hi hj, va_K.moved hW.alike (tq_K1 hK ht), tq_DD2 hD hi hj hij⟩⟩ rfl rfl hls rfl (lv_room hroom) hdg hcs) hS (fun q z => z.elim (fun z => by rw [z]; exact hD.2 i _ hi) (fun z => by rw [z]; exact hD.2 j _ hj))
    (fun r u t H1 locs1 ht1 hp hb hk hS1 => by
      subst hp
      rw [ht1] at hb
      exact kk H1 locs1 (tq_bits hP hD hi hj hb hk) (hD.set hj) hS1)
theorem k_drop {row bit : Nat} (S : CallFix p m c cc nL s args wA own) (cw : CallW R s args own RcB index yB_drop bB_drop 3 none (wB_drop :: wA) { frames := 0, cells := 0, slots := 0, locals := 0 } 0 0 2) (hK : va_K D vwA tys s) (hP : va_P D vwA ws H) (hD : va_D A ws) (hS : va_S A H0 H locs)
    (i j t0 : Nat) (hi : ws[i]? = some (h, .inr (0, [.int (nI Wd), .int (nI wp), .ref w]))) (hj : ws[j]? = some (w, .inl (cL, n, .inr (.inl (bw wp B))))) (hij : i ≠ j) (ht : tys[t0]? = some (cL, .long)) (h1 : bit < wp * 64) (h2 : row * wp + bit / 64 < n) (hn : n < 2 ^ 31) (hw : wp < 100)
    (hls : ls.size = nL) (hroom : (rest.map fun v => v.category).sum ≤ 8) (hcs : cells + 0 ≤ R.cells ∧ slots + 0 ≤ R.slots) (hdg : decode cc pc = .ok (.invokevirtual index, 3))
    (kk : ∀ (H1 : Heap) (locs1 : List Loc), va_P D vwA (ws.set j (w, .inl (cL, n, .inr (.inl (bw wp (tm_drop B row bit)))))) H1 → va_D A (ws.set j (w, .inl (cL, n, .inr (.inl (bw wp (tm_drop B row bit)))))) → va_S A H0 H1 locs1 → W p l e R s m args below meth c H1 locs1 cells slots Q (F0 m (pc + 3) ls rest)) : W p l e R s m args below meth c H locs cells slots Q (F0 m pc ls (.int (nI bit) :: .int (nI row) :: .ref h :: rest)) :=
  tq_wrv (va_runV (As := [.int (nI row), .int (nI bit)]) (rest := rest) S (c_drop l D h w n Wd wp cL B row bit h1 h2 hn hw) cw ⟨tq_wB_blind, va_recv hK hP (q := (RcB, FcB, 3)) rfl hi, fun U hU hW => ⟨rfl, by rw [hU]; exact tq_P2 hP hi hj, va_K.moved hW.alike (tq_K1 hK ht), tq_DD2 hD hi hj hij⟩⟩ rfl rfl hls rfl (lv_room hroom) hdg hcs) hS (fun q z => z.elim (fun z => by rw [z]; exact hD.2 i _ hi) (fun z => by rw [z]; exact hD.2 j _ hj))
    (fun u t H1 locs1 ht1 _ hb hk hS1 => by
      rw [ht1] at hb
      exact kk H1 locs1 (tq_bits hP hD hi hj hb hk) (hD.set hj) hS1)
theorem k_clear {rows : Nat} (S : CallFix p m c cc nL s args wA own) (cw : CallW R s args own RcB index yB_clear bB_clear 4 none (wB_clear :: wA) { frames := 1, cells := 0, slots := 0, locals := 21 } 0 0 1) (hK : va_K D vwA tys s) (hP : va_P D vwA ws H) (hD : va_D A ws) (hS : va_S A H0 H locs)
    (i j t0 : Nat) (hi : ws[i]? = some (h, .inr (0, [.int (nI Wd), .int (nI wp), .ref w]))) (hj : ws[j]? = some (w, .inl (cL, n, .inr (.inl (bw wp B))))) (hij : i ≠ j) (ht : tys[t0]? = some (cL, .long)) (h1 : rows * wp ≤ n) (hn : n < 2 ^ 31) (hw : 0 < wp)
    (hls : ls.size = nL) (hroom : (rest.map fun v => v.category).sum ≤ 8) (hcs : cells + 0 ≤ R.cells ∧ slots + 0 ≤ R.slots) (hdg : decode cc pc = .ok (.invokevirtual index, 3))
    (kk : ∀ (H1 : Heap) (locs1 : List Loc), va_P D vwA (ws.set j (w, .inl (cL, n, .inr (.inl (bw wp (tm_clr B rows)))))) H1 → va_D A (ws.set j (w, .inl (cL, n, .inr (.inl (bw wp (tm_clr B rows)))))) → va_S A H0 H1 locs1 → W p l e R s m args below meth c H1 locs1 cells slots Q (F0 m (pc + 3) ls rest)) : W p l e R s m args below meth c H locs cells slots Q (F0 m pc ls (.int (nI rows) :: .ref h :: rest)) :=
  tq_wrv (va_runV (As := [.int (nI rows)]) (rest := rest) S (c_clear l D h w n Wd wp cL B rows h1 hn hw) cw ⟨tq_wB_blind, va_recv hK hP (q := (RcB, FcB, 3)) rfl hi, fun U hU hW => ⟨rfl, by rw [hU]; exact tq_P2 hP hi hj, va_K.moved hW.alike (tq_K1 hK ht), tq_DD2 hD hi hj hij⟩⟩ rfl rfl hls rfl (lv_room hroom) hdg hcs) hS (fun q z => z.elim (fun z => by rw [z]; exact hD.2 i _ hi) (fun z => by rw [z]; exact hD.2 j _ hj))
    (fun u t H1 locs1 ht1 _ hb hk hS1 => by
      rw [ht1] at hb
      exact kk H1 locs1 (tq_bits hP hD hi hj hb hk) (hD.set hj) hS1)
end KC
section KS
variable {p : Program} {l : Launch} {e : Env} {R : Room} {s : State} {m : MethodId} {args : Array Value} {below : List Frame} {meth : Method} {c : Code} {H : Heap} {locs : List Loc} {cells slots : Nat} {Q : State → Prop}
variable {cc bytes : ByteArray} {pc nL index maxL n : Nat} {ret : Option FieldType} {wy : List Cond} {rm : Room} {y : MethodName} {ls : Array Slot} {rest st0 As : List Value} {D : va_G} {A : Nat → Prop} {tys : List (ClassId × FieldType)} {ws : va_W} {H0 : Heap} {own C : String} {b : Nat}
/-- a method of the world's objects that reads -/
theorem ks_r {post : Int32 → Prop} (S : CallFix p m c cc nL s args wA own) (hM : Met l y wy rm (va_Pc (.ref b :: As) (tq_rB D vwA ws tys)) (va_Qi (fun r (_ : Unit) => post r) (fun _ _ => True) (fun _ => False)) 0 0 (fun _ => False)) (cw : CallW R s args own C index y bytes maxL ret wy rm 0 0 n) (hK : va_K D vwA tys s) (hP : va_P D vwA ws H) (hS : va_S A H0 H locs)
    (i ci : Nat) {fs : List Value} {T : u_T} {N : Nat} (hi : ws[i]? = some (b, .inr (ci, fs))) (hc : vwA[ci]? = some (C, T, N)) (hn : As.length = n) (hls : ls.size = nL) (hroom : (rest.map fun v => v.category).sum ≤ 8) (hcs : cells + 0 ≤ R.cells ∧ slots + 0 ≤ R.slots) (hdg : decode cc pc = .ok (.invokevirtual index, 3)) (hst : st0 = As.reverse ++ .ref b :: rest)
    (kk : ∀ (r : Int32) (H1 : Heap) (locs1 : List Loc), post r → va_P D vwA ws H1 → va_S A H0 H1 locs1 → W p l e R s m args below meth c H1 locs1 cells slots Q (F0 m (pc + 3) ls (.int r :: rest))) : W p l e R s m args below meth c H locs cells slots Q (F0 m pc ls st0) :=
  tq_rdi (va_runV (As := As) (rest := rest) S hM cw ⟨tq_rB_blind, va_recv hK hP (q := (C, T, N)) hc hi, fun U hU hW => ⟨rfl, by rw [hU]; exact hP, va_K.moved hW.alike hK⟩⟩ rfl hn hls hst (lv_room hroom) hdg hcs) hS hP kk
theorem ks_rv {v : Int32} (S : CallFix p m c cc nL s args wA own) (hM : Met l y wy rm (va_Pc (.ref b :: As) (tq_rB D vwA ws tys)) (va_Qi (fun r (_ : Unit) => r = v) (fun _ _ => True) (fun _ => False)) 0 0 (fun _ => False)) (cw : CallW R s args own C index y bytes maxL ret wy rm 0 0 n) (hK : va_K D vwA tys s) (hP : va_P D vwA ws H) (hS : va_S A H0 H locs)
    (i ci : Nat) {fs : List Value} {T : u_T} {N : Nat} (hi : ws[i]? = some (b, .inr (ci, fs))) (hc : vwA[ci]? = some (C, T, N)) (hn : As.length = n) (hls : ls.size = nL) (hroom : (rest.map fun v => v.category).sum ≤ 8) (hcs : cells + 0 ≤ R.cells ∧ slots + 0 ≤ R.slots) (hdg : decode cc pc = .ok (.invokevirtual index, 3)) (hst : st0 = As.reverse ++ .ref b :: rest)
    (kk : ∀ (H1 : Heap) (locs1 : List Loc), va_P D vwA ws H1 → va_S A H0 H1 locs1 → W p l e R s m args below meth c H1 locs1 cells slots Q (F0 m (pc + 3) ls (.int v :: rest))) : W p l e R s m args below meth c H locs cells slots Q (F0 m pc ls st0) :=
  ks_r S hM cw hK hP hS i ci hi hc hn hls hroom hcs hdg hst (fun r H1 locs1 hp h1 h2 => by subst hp; exact kk H1 locs1 h1 h2)
/-- a static method of numbers alone -/
theorem ks_s {v : Int32} (S : CallFix p m c cc nL s args wA own) (hM : Met l y wy rm (va_Pc As (fun _ => True)) (va_Qi (fun r (_ : Unit) => r = v) (fun _ _ => True) (fun _ => False)) 0 0 (fun _ => False)) (cw : CallB R s args own index y bytes maxL ret wy rm 0 0 n ∧ (Cond.static y).before args s = true) (hP : va_P D vwA ws H) (hS : va_S A H0 H locs)
    (hn : As.length = n) (hls : ls.size = nL) (hroom : (rest.map fun v => v.category).sum ≤ 8) (hcs : cells + 0 ≤ R.cells ∧ slots + 0 ≤ R.slots) (hdg : decode cc pc = .ok (.invokestatic index, 3)) (hst : st0 = As.reverse ++ rest)
    (kk : ∀ (H1 : Heap) (locs1 : List Loc), va_P D vwA ws H1 → va_S A H0 H1 locs1 → W p l e R s m args below meth c H1 locs1 cells slots Q (F0 m (pc + 3) ls (.int v :: rest))) : W p l e R s m args below meth c H locs cells slots Q (F0 m pc ls st0) :=
  tq_rdv (va_runS (As := As) (rest := rest) S hM cw ⟨fun _ _ _ _ q => q, fun U hU hW => ⟨rfl, trivial⟩⟩ rfl hn hls hst (lv_room hroom) hdg hcs) hS hP kk
/-- a method that changes the world from wf u to wf u', at the same addresses -/
theorem ks_v {U : Type} {wf : U → va_W} {u : U} {post : U → Prop} {AS : Nat → Prop} (S : CallFix p m c cc nL s args wA own) (hM : Met l y wy rm (va_Pc (.ref b :: As) (tq_wB D vwA (wf u) tys)) (va_Qv post (fun u' t => va_P D vwA (wf u') t.heap) AS) 0 0 AS) (cw : CallW R s args own C index y bytes maxL ret wy rm 0 0 n) (hK : va_K D vwA tys s) (hP : va_P D vwA (wf u) H) (hD : va_D A (wf u)) (hS : va_S A H0 H locs) (hAS : ∀ q, AS q → A q) (hadr : ∀ u', (wf u').map (fun x => x.1) = (wf u).map (fun x => x.1))
    (i ci : Nat) {fs : List Value} {T : u_T} {N : Nat} (hi : (wf u)[i]? = some (b, .inr (ci, fs))) (hc : vwA[ci]? = some (C, T, N)) (hn : As.length = n) (hls : ls.size = nL) (hroom : (rest.map fun v => v.category).sum ≤ 8) (hcs : cells + 0 ≤ R.cells ∧ slots + 0 ≤ R.slots) (hdg : decode cc pc = .ok (.invokevirtual index, 3)) (hst : st0 = As.reverse ++ .ref b :: rest)
    (kk : ∀ (u' : U) (H1 : Heap) (locs1 : List Loc), post u' → va_P D vwA (wf u') H1 → va_D A (wf u') → va_S A H0 H1 locs1 → W p l e R s m args below meth c H1 locs1 cells slots Q (F0 m (pc + 3) ls rest)) : W p l e R s m args below meth c H locs cells slots Q (F0 m pc ls st0) :=
  tq_wrv (va_runV (As := As) (rest := rest) S hM cw ⟨tq_wB_blind, va_recv hK hP (q := (C, T, N)) hc hi, fun U hU hW => ⟨rfl, by rw [hU]; exact hP, va_K.moved hW.alike hK, hD.weaken (fun _ _ _ _ => trivial)⟩⟩ rfl hn hls hst (lv_room hroom) hdg hcs) hS hAS
    (fun u' t H1 locs1 ht1 hp hb hk hS1 => by
      rw [ht1] at hb
      exact kk u' H1 locs1 hp hb (tq_D_adr hD (hadr u')) hS1)
theorem ks_i {U : Type} {wf : U → va_W} {u : U} {post : Int32 → U → Prop} {AS : Nat → Prop} (S : CallFix p m c cc nL s args wA own) (hM : Met l y wy rm (va_Pc (.ref b :: As) (tq_wB D vwA (wf u) tys)) (va_Qi post (fun u' t => va_P D vwA (wf u') t.heap) AS) 0 0 AS) (cw : CallW R s args own C index y bytes maxL ret wy rm 0 0 n) (hK : va_K D vwA tys s) (hP : va_P D vwA (wf u) H) (hD : va_D A (wf u)) (hS : va_S A H0 H locs) (hAS : ∀ q, AS q → A q) (hadr : ∀ u', (wf u').map (fun x => x.1) = (wf u).map (fun x => x.1))
    (i ci : Nat) {fs : List Value} {T : u_T} {N : Nat} (hi : (wf u)[i]? = some (b, .inr (ci, fs))) (hc : vwA[ci]? = some (C, T, N)) (hn : As.length = n) (hls : ls.size = nL) (hroom : (rest.map fun v => v.category).sum ≤ 8) (hcs : cells + 0 ≤ R.cells ∧ slots + 0 ≤ R.slots) (hdg : decode cc pc = .ok (.invokevirtual index, 3)) (hst : st0 = As.reverse ++ .ref b :: rest)
    (kk : ∀ (r : Int32) (u' : U) (H1 : Heap) (locs1 : List Loc), post r u' → va_P D vwA (wf u') H1 → va_D A (wf u') → va_S A H0 H1 locs1 → W p l e R s m args below meth c H1 locs1 cells slots Q (F0 m (pc + 3) ls (.int r :: rest))) : W p l e R s m args below meth c H locs cells slots Q (F0 m pc ls st0) :=
  tq_wri (va_runV (As := As) (rest := rest) S hM cw ⟨tq_wB_blind, va_recv hK hP (q := (C, T, N)) hc hi, fun U hU hW => ⟨rfl, by rw [hU]; exact hP, va_K.moved hW.alike hK, hD.weaken (fun _ _ _ _ => trivial)⟩⟩ rfl hn hls hst (lv_room hroom) hdg hcs) hS hAS
    (fun r u' t H1 locs1 ht1 hp hb hk hS1 => by
      rw [ht1] at hb
      exact kk r u' H1 locs1 hp hb (tq_D_adr hD (hadr u')) hS1)
end KS
end
section
/-! The system's world: TermServer with its Terms, Axioms, Closure and their arrays; contracts of Terms and Axioms. Written by wip/whole/gen/gensys.py. -/
/-- what the system holds: the tables of bits (facts, sources, fresh, freshRows, toldAbove, toldRoles, toldChains, boths, fillers), the arrays of ints (kinds, lefts, rights, somes; the axioms' kinds, firsts, seconds, thirds, takenBack; reasons), the counts (size, names, told, inForce, admitted, heard, spoiled, reasonCount) -/
abbrev sU : Type := (Nat → Nat → Nat → Bool) × (Nat → Nat → Int32) × (Nat → Nat)
def sW (a : Nat → Nat) (kI kL kZ : ClassId) (u : sU) : va_W := [(a 0, .inr (4, [.ref (a 1), .ref (a 2), .ref (a 3), .ref (a 4), .int (nI (u.2.2 7))])), (a 1, .inr (1, [.ref (a 5), .ref (a 6), .ref (a 7), .ref (a 8), .ref (a 28), .ref (a 30), .int (nI (u.2.2 0)), .int (nI (u.2.2 1))])), (a 2, .inr (2, [.ref (a 9), .ref (a 10), .ref (a 11), .ref (a 12), .ref (a 13), .int (nI (u.2.2 2)), .int (nI (u.2.2 3))])), (a 3, .inr (3, [.ref (a 1), .ref (a 2), .ref (a 14), .ref (a 16), .ref (a 18), .ref (a 20), .ref (a 22), .ref (a 24), .ref (a 26), .int (nI (u.2.2 4)), .int (nI (u.2.2 5)), .int (nI (u.2.2 6))])), (a 4, .inl (kI, 100, .inl (u.2.1 9))), (a 5, .inl (kI, 160, .inl (u.2.1 0))), (a 6, .inl (kI, 160, .inl (u.2.1 1))), (a 7, .inl (kI, 160, .inl (u.2.1 2))), (a 8, .inl (kI, 960, .inl (u.2.1 3))), (a 9, .inl (kI, 100, .inl (u.2.1 4))), (a 10, .inl (kI, 100, .inl (u.2.1 5))), (a 11, .inl (kI, 100, .inl (u.2.1 6))), (a 12, .inl (kI, 100, .inl (u.2.1 7))), (a 13, .inl (kZ, 100, .inl (u.2.1 8))), (a 14, .inr (0, [.int (nI 160), .int (nI 3), .ref (a 15)])), (a 15, .inl (kL, 3360, .inr (.inl (bw 3 (u.1 0))))), (a 16, .inr (0, [.int (nI 160), .int (nI 3), .ref (a 17)])), (a 17, .inl (kL, 3360, .inr (.inl (bw 3 (u.1 1))))), (a 18, .inr (0, [.int (nI 160), .int (nI 3), .ref (a 19)])), (a 19, .inl (kL, 3360, .inr (.inl (bw 3 (u.1 2))))), (a 20, .inr (0, [.int (nI 1120), .int (nI 18), .ref (a 21)])), (a 21, .inl (kL, 18, .inr (.inl (bw 18 (u.1 3))))), (a 22, .inr (0, [.int (nI 160), .int (nI 3), .ref (a 23)])), (a 23, .inl (kL, 480, .inr (.inl (bw 3 (u.1 4))))), (a 24, .inr (0, [.int (nI 6), .int (nI 1), .ref (a 25)])), (a 25, .inl (kL, 6, .inr (.inl (bw 1 (u.1 5))))), (a 26, .inr (0, [.int (nI 6), .int (nI 1), .ref (a 27)])), (a 27, .inl (kL, 36, .inr (.inl (bw 1 (u.1 6))))), (a 28, .inr (0, [.int (nI 160), .int (nI 3), .ref (a 29)])), (a 29, .inl (kL, 480, .inr (.inl (bw 3 (u.1 7))))), (a 30, .inr (0, [.int (nI 160), .int (nI 3), .ref (a 31)])), (a 31, .inl (kL, 18, .inr (.inl (bw 3 (u.1 8)))))]
abbrev sT (kI kL kZ : ClassId) : List (ClassId × FieldType) := [(kI, .int), (kL, .long), (kZ, .boolean)]
def sA (a : Nat → Nat) (q : Nat) : Prop := q ∈ [a 0, a 1, a 2, a 3, a 4, a 5, a 6, a 7, a 8, a 9, a 10, a 11, a 12, a 13, a 14, a 15, a 16, a 17, a 18, a 19, a 20, a 21, a 22, a 23, a 24, a 25, a 26, a 27, a 28, a 29, a 30, a 31]
theorem sA_D {a : Nat → Nat} {kI kL kZ : ClassId} {u : sU} {A : Nat → Prop} (h : va_D A (sW a kI kL kZ u)) : va_D (sA a) (sW a kI kL kZ u) := tq_D_self h
theorem sW_adr0 {a : Nat → Nat} {kI kL kZ : ClassId} (u : sU) : (sW a kI kL kZ u).map (fun x => x.1) = [a 0, a 1, a 2, a 3, a 4, a 5, a 6, a 7, a 8, a 9, a 10, a 11, a 12, a 13, a 14, a 15, a 16, a 17, a 18, a 19, a 20, a 21, a 22, a 23, a 24, a 25, a 26, a 27, a 28, a 29, a 30, a 31] := rfl
theorem sW_adr {a : Nat → Nat} {kI kL kZ : ClassId} {u : sU} (u' : sU) : (sW a kI kL kZ u').map (fun x => x.1) = (sW a kI kL kZ u).map (fun x => x.1) := (sW_adr0 u').trans (sW_adr0 u).symm
theorem tq_le1 {x : Int32} {T : Nat} (hT : T < 2 ^ 31) (h1 : ¬ x < nI 1) (h2 : ¬ nI T < x) : ∃ k, 1 ≤ k ∧ k ≤ T ∧ x = nI k := by
  rw [Int32.lt_iff_toInt_lt, nI_toInt (by decide)] at h1
  rw [Int32.lt_iff_toInt_lt, nI_toInt hT] at h2
  refine ⟨x.toInt.toNat, by omega, by omega, Int32.toInt_inj.mp ?_⟩
  rw [nI_toInt (by omega)]
  omega
/-- is the axiom x in force? -/
def s_inf (u : sU) (x : Int32) : Bool := decide (1 ≤ x.toInt ∧ x.toInt ≤ u.2.2 2) && decide (u.2.1 8 (x.toInt.toNat - 1) = 0)
theorem s_inf_k {u : sU} {k : Nat} (h1 : 1 ≤ k) (h2 : k ≤ u.2.2 2) (h3 : u.2.2 2 ≤ 100) : s_inf u (nI k) = decide (u.2.1 8 (k - 1) = 0) := by
  unfold s_inf
  rw [nI_toInt (by omega)]
  have e : (1 ≤ (k : Int) ∧ (k : Int) ≤ u.2.2 2) := by omega
  simp [e]
theorem s_inf_lo {u : sU} {x : Int32} (h : x < nI 1) : s_inf u x = false := by
  rw [Int32.lt_iff_toInt_lt, nI_toInt (by decide)] at h
  unfold s_inf
  have e : ¬ (1 ≤ x.toInt ∧ x.toInt ≤ u.2.2 2) := by omega
  simp [e]
theorem s_inf_hi {u : sU} {x : Int32} (h : nI (u.2.2 2) < x) (h3 : u.2.2 2 ≤ 100) : s_inf u x = false := by
  rw [Int32.lt_iff_toInt_lt, nI_toInt (by omega)] at h
  unfold s_inf
  have e : ¬ (1 ≤ x.toInt ∧ x.toInt ≤ u.2.2 2) := by omega
  simp [e]
def s_tell (u : sU) (k x y z : Int32) : sU := (u.1, va_up (va_up (va_up (va_up u.2.1 4 (upd (u.2.1 4) (u.2.2 2) k)) 5 (upd (u.2.1 5) (u.2.2 2) x)) 6 (upd (u.2.1 6) (u.2.2 2) y)) 7 (upd (u.2.1 7) (u.2.2 2) z), va_up (va_up u.2.2 2 (u.2.2 2 + 1)) 3 (u.2.2 3 + 1))
def s_back (u : sU) (k : Nat) : sU := (u.1, va_up u.2.1 8 (upd (u.2.1 8) (k - 1) (nI 1)), va_up u.2.2 3 (u.2.2 3 - 1))
/-- a description is made: its kind and parts, before what else the kind asks -/
def s_new (u : sU) (k x y : Int32) : sU := (u.1, va_up (va_up (va_up u.2.1 0 (upd (u.2.1 0) (u.2.2 0) k)) 1 (upd (u.2.1 1) (u.2.2 0) x)) 2 (upd (u.2.1 2) (u.2.2 0) y), va_up u.2.2 0 (u.2.2 0 + 1))
def s_name (u : sU) : sU := ((s_new u (nI 1) (-1) (-1)).1, (s_new u (nI 1) (-1) (-1)).2.1, va_up (s_new u (nI 1) (-1) (-1)).2.2 1 (u.2.2 1 + 1))
def s_both (u : sU) (d e : Nat) : sU := (va_up u.1 7 (tm_put (tm_put (u.1 7) d (u.2.2 0)) e (u.2.2 0)), (s_new u (nI 2) (nI d) (nI e)).2)
def s_some (u : sU) (r d : Nat) : sU := (va_up u.1 8 (tm_put (u.1 8) r d), va_up (s_new u (nI 3) (nI r) (nI d)).2.1 3 (upd (u.2.1 3) (r * 160 + d) (nI (u.2.2 0))), (s_new u (nI 3) (nI r) (nI d)).2.2)
set_option maxHeartbeats 4000000 in
set_option maxRecDepth 100000 in
/-- c_size -/
theorem c_size (l : Launch) (D : va_G) (a : Nat → Nat) (kI kL kZ : ClassId) (u : sU)  : Met l yT_size (wT_size :: wA) ({ frames := 0, cells := 0, slots := 0, locals := 0 }) (va_Pc [.ref (a 1)] (tq_rB D vwA (sW a kI kL kZ u) (sT kI kL kZ))) (va_Qi (fun r (_ : Unit) => r = nI (u.2.2 0)) (fun _ _ => True) (fun _ => False)) 0 0 (fun _ => False) := by
  refine Met.ofW (cc := bT_size) (maxL := 1) (ret := (some .int)) (by decide +kernel) rfl ?_
  intro p e s m args below meth c s₁ B1 hml hv
  obtain ⟨rfl, hP, hK⟩ := hv
  have hx := B1.exec
  have hb := B1.bytes
  have hr := B1.returns
  have hA : ∀ w ∈ wA, w.before ([.ref (a 1)] : List Value).toArray s = true := fun w h => atoms_spec (ws := wT_size :: wA) B1.pre w (List.mem_cons_of_mem _ h)
  have hown : s.vm.findClass RcT = some m.cls := findClass_of_methodNamed B1.named
  have hlocks := B1.notSynchronized
  have hS : va_S (fun _ => False) s.heap s.heap [] := va_S.rf
  have hl := lv_entry ([.ref (a 1)]) (n := 1) (Nat.le_of_ble_eq_true rfl)
  rw [lg_entry_eq]
  generalize (lg_sl ([.ref (a 1)]) ++ List.replicate (1 - (lg_sl ([.ref (a 1)])).length) Slot.unset).toArray = ls at hl ⊢
  have hl : lv_has ls 1 [(0, .ref (a 1))] := hl
  refine tq_gen (fun R Q hRe hQe => ?_)
  have hRf : 0 ≤ R.frames := by rw [hRe]; exact Nat.le_of_ble_eq_true rfl
  have hRl : 0 ≤ R.locals := by rw [hRe]; exact Nat.le_of_ble_eq_true rfl
  have hRc : 0 ≤ R.cells := by rw [hRe]; exact Nat.le_of_ble_eq_true rfl
  have hRs : 0 ≤ R.slots := by rw [hRe]; exact Nat.le_of_ble_eq_true rfl
  refine lv_aload_n hx hb dT_size_0 rfl (lv_at hl 0 rfl) ?_
  refine gf_T_42 (v := .int (nI (u.2.2 0))) hx hb hA hown hK hP 1 rfl rfl dT_size_1 ?_
  subst hQe
  exact W.iret (v := nI (u.2.2 0)) hx hb hr (fun t ht hW => ⟨⟨_, (), rfl, rfl, trivial⟩, hS.F ht⟩) hS.2.2 dT_size_4
set_option maxHeartbeats 4000000 in
set_option maxRecDepth 100000 in
/-- c_names -/
theorem c_names (l : Launch) (D : va_G) (a : Nat → Nat) (kI kL kZ : ClassId) (u : sU)  : Met l yT_names (wT_names :: wA) ({ frames := 0, cells := 0, slots := 0, locals := 0 }) (va_Pc [.ref (a 1)] (tq_rB D vwA (sW a kI kL kZ u) (sT kI kL kZ))) (va_Qi (fun r (_ : Unit) => r = nI (u.2.2 1)) (fun _ _ => True) (fun _ => False)) 0 0 (fun _ => False) := by
  refine Met.ofW (cc := bT_names) (maxL := 1) (ret := (some .int)) (by decide +kernel) rfl ?_
  intro p e s m args below meth c s₁ B1 hml hv
  obtain ⟨rfl, hP, hK⟩ := hv
  have hx := B1.exec
  have hb := B1.bytes
  have hr := B1.returns
  have hA : ∀ w ∈ wA, w.before ([.ref (a 1)] : List Value).toArray s = true := fun w h => atoms_spec (ws := wT_names :: wA) B1.pre w (List.mem_cons_of_mem _ h)
  have hown : s.vm.findClass RcT = some m.cls := findClass_of_methodNamed B1.named
  have hlocks := B1.notSynchronized
  have hS : va_S (fun _ => False) s.heap s.heap [] := va_S.rf
  have hl := lv_entry ([.ref (a 1)]) (n := 1) (Nat.le_of_ble_eq_true rfl)
  rw [lg_entry_eq]
  generalize (lg_sl ([.ref (a 1)]) ++ List.replicate (1 - (lg_sl ([.ref (a 1)])).length) Slot.unset).toArray = ls at hl ⊢
  have hl : lv_has ls 1 [(0, .ref (a 1))] := hl
  refine tq_gen (fun R Q hRe hQe => ?_)
  have hRf : 0 ≤ R.frames := by rw [hRe]; exact Nat.le_of_ble_eq_true rfl
  have hRl : 0 ≤ R.locals := by rw [hRe]; exact Nat.le_of_ble_eq_true rfl
  have hRc : 0 ≤ R.cells := by rw [hRe]; exact Nat.le_of_ble_eq_true rfl
  have hRs : 0 ≤ R.slots := by rw [hRe]; exact Nat.le_of_ble_eq_true rfl
  refine lv_aload_n hx hb dT_names_0 rfl (lv_at hl 0 rfl) ?_
  refine gf_T_46 (v := .int (nI (u.2.2 1))) hx hb hA hown hK hP 1 rfl rfl dT_names_1 ?_
  subst hQe
  exact W.iret (v := nI (u.2.2 1)) hx hb hr (fun t ht hW => ⟨⟨_, (), rfl, rfl, trivial⟩, hS.F ht⟩) hS.2.2 dT_names_4
set_option maxHeartbeats 4000000 in
set_option maxRecDepth 100000 in
/-- c_kind -/
theorem c_kind (l : Launch) (D : va_G) (a : Nat → Nat) (kI kL kZ : ClassId) (u : sU) (d : Nat) (hd : d < 160) : Met l yT_kind (wT_kind :: wA) ({ frames := 0, cells := 0, slots := 0, locals := 0 }) (va_Pc [.ref (a 1), .int (nI d)] (tq_rB D vwA (sW a kI kL kZ u) (sT kI kL kZ))) (va_Qi (fun r (_ : Unit) => r = u.2.1 0 d) (fun _ _ => True) (fun _ => False)) 0 0 (fun _ => False) := by
  refine Met.ofW (cc := bT_kind) (maxL := 2) (ret := (some .int)) (by decide +kernel) rfl ?_
  intro p e s m args below meth c s₁ B1 hml hv
  obtain ⟨rfl, hP, hK⟩ := hv
  have hx := B1.exec
  have hb := B1.bytes
  have hr := B1.returns
  have hA : ∀ w ∈ wA, w.before ([.ref (a 1), .int (nI d)] : List Value).toArray s = true := fun w h => atoms_spec (ws := wT_kind :: wA) B1.pre w (List.mem_cons_of_mem _ h)
  have hown : s.vm.findClass RcT = some m.cls := findClass_of_methodNamed B1.named
  have hlocks := B1.notSynchronized
  have hS : va_S (fun _ => False) s.heap s.heap [] := va_S.rf
  have hl := lv_entry ([.ref (a 1), .int (nI d)]) (n := 2) (Nat.le_of_ble_eq_true rfl)
  rw [lg_entry_eq]
  generalize (lg_sl ([.ref (a 1), .int (nI d)]) ++ List.replicate (2 - (lg_sl ([.ref (a 1), .int (nI d)])).length) Slot.unset).toArray = ls at hl ⊢
  have hl : lv_has ls 2 [(0, .ref (a 1)), (1, .int (nI d))] := hl
  refine tq_gen (fun R Q hRe hQe => ?_)
  have hRf : 0 ≤ R.frames := by rw [hRe]; exact Nat.le_of_ble_eq_true rfl
  have hRl : 0 ≤ R.locals := by rw [hRe]; exact Nat.le_of_ble_eq_true rfl
  have hRc : 0 ≤ R.cells := by rw [hRe]; exact Nat.le_of_ble_eq_true rfl
  have hRs : 0 ≤ R.slots := by rw [hRe]; exact Nat.le_of_ble_eq_true rfl
  refine lv_aload_n hx hb dT_kind_0 rfl (lv_at hl 0 rfl) ?_
  refine gf_T_9 (v := .ref (a 5)) hx hb hA hown hK hP 1 rfl rfl dT_kind_1 ?_
  refine lv_iload_n hx hb dT_kind_4 rfl (lv_at hl 1 rfl) ?_
  refine tq_iald hx hb hK hP 5 0 rfl rfl (by omega) (by omega) dT_kind_5 ?_
  subst hQe
  exact W.iret (v := (u.2.1 0) d) hx hb hr (fun t ht hW => ⟨⟨_, (), rfl, rfl, trivial⟩, hS.F ht⟩) hS.2.2 dT_kind_6
set_option maxHeartbeats 4000000 in
set_option maxRecDepth 100000 in
/-- c_left -/
theorem c_left (l : Launch) (D : va_G) (a : Nat → Nat) (kI kL kZ : ClassId) (u : sU) (d : Nat) (hd : d < 160) : Met l yT_left (wT_left :: wA) ({ frames := 0, cells := 0, slots := 0, locals := 0 }) (va_Pc [.ref (a 1), .int (nI d)] (tq_rB D vwA (sW a kI kL kZ u) (sT kI kL kZ))) (va_Qi (fun r (_ : Unit) => r = u.2.1 1 d) (fun _ _ => True) (fun _ => False)) 0 0 (fun _ => False) := by
  refine Met.ofW (cc := bT_left) (maxL := 2) (ret := (some .int)) (by decide +kernel) rfl ?_
  intro p e s m args below meth c s₁ B1 hml hv
  obtain ⟨rfl, hP, hK⟩ := hv
  have hx := B1.exec
  have hb := B1.bytes
  have hr := B1.returns
  have hA : ∀ w ∈ wA, w.before ([.ref (a 1), .int (nI d)] : List Value).toArray s = true := fun w h => atoms_spec (ws := wT_left :: wA) B1.pre w (List.mem_cons_of_mem _ h)
  have hown : s.vm.findClass RcT = some m.cls := findClass_of_methodNamed B1.named
  have hlocks := B1.notSynchronized
  have hS : va_S (fun _ => False) s.heap s.heap [] := va_S.rf
  have hl := lv_entry ([.ref (a 1), .int (nI d)]) (n := 2) (Nat.le_of_ble_eq_true rfl)
  rw [lg_entry_eq]
  generalize (lg_sl ([.ref (a 1), .int (nI d)]) ++ List.replicate (2 - (lg_sl ([.ref (a 1), .int (nI d)])).length) Slot.unset).toArray = ls at hl ⊢
  have hl : lv_has ls 2 [(0, .ref (a 1)), (1, .int (nI d))] := hl
  refine tq_gen (fun R Q hRe hQe => ?_)
  have hRf : 0 ≤ R.frames := by rw [hRe]; exact Nat.le_of_ble_eq_true rfl
  have hRl : 0 ≤ R.locals := by rw [hRe]; exact Nat.le_of_ble_eq_true rfl
  have hRc : 0 ≤ R.cells := by rw [hRe]; exact Nat.le_of_ble_eq_true rfl
  have hRs : 0 ≤ R.slots := by rw [hRe]; exact Nat.le_of_ble_eq_true rfl
  refine lv_aload_n hx hb dT_left_0 rfl (lv_at hl 0 rfl) ?_
  refine gf_T_15 (v := .ref (a 6)) hx hb hA hown hK hP 1 rfl rfl dT_left_1 ?_
  refine lv_iload_n hx hb dT_left_4 rfl (lv_at hl 1 rfl) ?_
  refine tq_iald hx hb hK hP 6 0 rfl rfl (by omega) (by omega) dT_left_5 ?_
  subst hQe
  exact W.iret (v := (u.2.1 1) d) hx hb hr (fun t ht hW => ⟨⟨_, (), rfl, rfl, trivial⟩, hS.F ht⟩) hS.2.2 dT_left_6
set_option maxHeartbeats 4000000 in
set_option maxRecDepth 100000 in
/-- c_right -/
theorem c_right (l : Launch) (D : va_G) (a : Nat → Nat) (kI kL kZ : ClassId) (u : sU) (d : Nat) (hd : d < 160) : Met l yT_right (wT_right :: wA) ({ frames := 0, cells := 0, slots := 0, locals := 0 }) (va_Pc [.ref (a 1), .int (nI d)] (tq_rB D vwA (sW a kI kL kZ u) (sT kI kL kZ))) (va_Qi (fun r (_ : Unit) => r = u.2.1 2 d) (fun _ _ => True) (fun _ => False)) 0 0 (fun _ => False) := by
  refine Met.ofW (cc := bT_right) (maxL := 2) (ret := (some .int)) (by decide +kernel) rfl ?_
  intro p e s m args below meth c s₁ B1 hml hv
  obtain ⟨rfl, hP, hK⟩ := hv
  have hx := B1.exec
  have hb := B1.bytes
  have hr := B1.returns
  have hA : ∀ w ∈ wA, w.before ([.ref (a 1), .int (nI d)] : List Value).toArray s = true := fun w h => atoms_spec (ws := wT_right :: wA) B1.pre w (List.mem_cons_of_mem _ h)
  have hown : s.vm.findClass RcT = some m.cls := findClass_of_methodNamed B1.named
  have hlocks := B1.notSynchronized
  have hS : va_S (fun _ => False) s.heap s.heap [] := va_S.rf
  have hl := lv_entry ([.ref (a 1), .int (nI d)]) (n := 2) (Nat.le_of_ble_eq_true rfl)
  rw [lg_entry_eq]
  generalize (lg_sl ([.ref (a 1), .int (nI d)]) ++ List.replicate (2 - (lg_sl ([.ref (a 1), .int (nI d)])).length) Slot.unset).toArray = ls at hl ⊢
  have hl : lv_has ls 2 [(0, .ref (a 1)), (1, .int (nI d))] := hl
  refine tq_gen (fun R Q hRe hQe => ?_)
  have hRf : 0 ≤ R.frames := by rw [hRe]; exact Nat.le_of_ble_eq_true rfl
  have hRl : 0 ≤ R.locals := by rw [hRe]; exact Nat.le_of_ble_eq_true rfl
  have hRc : 0 ≤ R.cells := by rw [hRe]; exact Nat.le_of_ble_eq_true rfl
  have hRs : 0 ≤ R.slots := by rw [hRe]; exact Nat.le_of_ble_eq_true rfl
  refine lv_aload_n hx hb dT_right_0 rfl (lv_at hl 0 rfl) ?_
  refine gf_T_18 (v := .ref (a 7)) hx hb hA hown hK hP 1 rfl rfl dT_right_1 ?_
  refine lv_iload_n hx hb dT_right_4 rfl (lv_at hl 1 rfl) ?_
  refine tq_iald hx hb hK hP 7 0 rfl rfl (by omega) (by omega) dT_right_5 ?_
  subst hQe
  exact W.iret (v := (u.2.1 2) d) hx hb hr (fun t ht hW => ⟨⟨_, (), rfl, rfl, trivial⟩, hS.F ht⟩) hS.2.2 dT_right_6
set_option maxHeartbeats 4000000 in
set_option maxRecDepth 100000 in
/-- c_isName -/
theorem c_isName (l : Launch) (D : va_G) (a : Nat → Nat) (kI kL kZ : ClassId) (u : sU) (d : Nat) (hd : d < 160) : Met l yT_isName (wT_isName :: wA) ({ frames := 0, cells := 0, slots := 0, locals := 0 }) (va_Pc [.ref (a 1), .int (nI d)] (tq_rB D vwA (sW a kI kL kZ u) (sT kI kL kZ))) (va_Qi (fun r (_ : Unit) => r = bI (decide (u.2.1 0 d = nI 1))) (fun _ _ => True) (fun _ => False)) 0 0 (fun _ => False) := by
  refine Met.ofW (cc := bT_isName) (maxL := 2) (ret := (some .boolean)) (by decide +kernel) rfl ?_
  intro p e s m args below meth c s₁ B1 hml hv
  obtain ⟨rfl, hP, hK⟩ := hv
  have hx := B1.exec
  have hb := B1.bytes
  have hr := B1.returns
  have hA : ∀ w ∈ wA, w.before ([.ref (a 1), .int (nI d)] : List Value).toArray s = true := fun w h => atoms_spec (ws := wT_isName :: wA) B1.pre w (List.mem_cons_of_mem _ h)
  have hown : s.vm.findClass RcT = some m.cls := findClass_of_methodNamed B1.named
  have hlocks := B1.notSynchronized
  have hS : va_S (fun _ => False) s.heap s.heap [] := va_S.rf
  have hl := lv_entry ([.ref (a 1), .int (nI d)]) (n := 2) (Nat.le_of_ble_eq_true rfl)
  rw [lg_entry_eq]
  generalize (lg_sl ([.ref (a 1), .int (nI d)]) ++ List.replicate (2 - (lg_sl ([.ref (a 1), .int (nI d)])).length) Slot.unset).toArray = ls at hl ⊢
  have hl : lv_has ls 2 [(0, .ref (a 1)), (1, .int (nI d))] := hl
  refine tq_gen (fun R Q hRe hQe => ?_)
  have hRf : 0 ≤ R.frames := by rw [hRe]; exact Nat.le_of_ble_eq_true rfl
  have hRl : 0 ≤ R.locals := by rw [hRe]; exact Nat.le_of_ble_eq_true rfl
  have hRc : 0 ≤ R.cells := by rw [hRe]; exact Nat.le_of_ble_eq_true rfl
  have hRs : 0 ≤ R.slots := by rw [hRe]; exact Nat.le_of_ble_eq_true rfl
  refine lv_aload_n hx hb dT_isName_0 rfl (lv_at hl 0 rfl) ?_
  refine gf_T_9 (v := .ref (a 5)) hx hb hA hown hK hP 1 rfl rfl dT_isName_1 ?_
  refine lv_iload_n hx hb dT_isName_4 rfl (lv_at hl 1 rfl) ?_
  refine tq_iald hx hb hK hP 5 0 rfl rfl (by omega) (by omega) dT_isName_5 ?_
  refine lv_iconst (v := nI 1) hx hb dT_isName_6 (by decide +kernel) ?_
  refine lv_icmp_ne hx hb dT_isName_7 (tgt := 14) (by decide) (fun h7 => ?_) (fun h7 => ?_)
  · refine lv_iconst (v := nI 0) hx hb dT_isName_14 (by decide +kernel) ?_
    subst hQe
    exact W.zret (v := nI 0) (ty := .boolean) hx hb hr rfl (fun t ht hW => ⟨⟨_, (), rfl, by simp [h7]; rfl, trivial⟩, hS.F ht⟩) hS.2.2 dT_isName_15
  · refine lv_iconst (v := nI 1) hx hb dT_isName_10 (by decide +kernel) ?_
    refine lv_goto hx hb dT_isName_11 (tgt := 15) (by decide) ?_
    subst hQe
    exact W.zret (v := nI 1) (ty := .boolean) hx hb hr rfl (fun t ht hW => ⟨⟨_, (), rfl, by simp [h7]; rfl, trivial⟩, hS.F ht⟩) hS.2.2 dT_isName_15
set_option maxHeartbeats 4000000 in
set_option maxRecDepth 100000 in
/-- c_findSome -/
theorem c_findSome (l : Launch) (D : va_G) (a : Nat → Nat) (kI kL kZ : ClassId) (u : sU) (i d : Nat) (hi : i < 6) (hd : d < 160) : Met l yT_findSome (wT_findSome :: wA) ({ frames := 0, cells := 0, slots := 0, locals := 0 }) (va_Pc [.ref (a 1), .int (nI i), .int (nI d)] (tq_rB D vwA (sW a kI kL kZ u) (sT kI kL kZ))) (va_Qi (fun r (_ : Unit) => r = u.2.1 3 (i * 160 + d)) (fun _ _ => True) (fun _ => False)) 0 0 (fun _ => False) := by
  refine Met.ofW (cc := bT_findSome) (maxL := 3) (ret := (some .int)) (by decide +kernel) rfl ?_
  intro p e s m args below meth c s₁ B1 hml hv
  obtain ⟨rfl, hP, hK⟩ := hv
  have hx := B1.exec
  have hb := B1.bytes
  have hr := B1.returns
  have hA : ∀ w ∈ wA, w.before ([.ref (a 1), .int (nI i), .int (nI d)] : List Value).toArray s = true := fun w h => atoms_spec (ws := wT_findSome :: wA) B1.pre w (List.mem_cons_of_mem _ h)
  have hown : s.vm.findClass RcT = some m.cls := findClass_of_methodNamed B1.named
  have hlocks := B1.notSynchronized
  have hS : va_S (fun _ => False) s.heap s.heap [] := va_S.rf
  have hl := lv_entry ([.ref (a 1), .int (nI i), .int (nI d)]) (n := 3) (Nat.le_of_ble_eq_true rfl)
  rw [lg_entry_eq]
  generalize (lg_sl ([.ref (a 1), .int (nI i), .int (nI d)]) ++ List.replicate (3 - (lg_sl ([.ref (a 1), .int (nI i), .int (nI d)])).length) Slot.unset).toArray = ls at hl ⊢
  have hl : lv_has ls 3 [(0, .ref (a 1)), (1, .int (nI i)), (2, .int (nI d))] := hl
  refine tq_gen (fun R Q hRe hQe => ?_)
  have hRf : 0 ≤ R.frames := by rw [hRe]; exact Nat.le_of_ble_eq_true rfl
  have hRl : 0 ≤ R.locals := by rw [hRe]; exact Nat.le_of_ble_eq_true rfl
  have hRc : 0 ≤ R.cells := by rw [hRe]; exact Nat.le_of_ble_eq_true rfl
  have hRs : 0 ≤ R.slots := by rw [hRe]; exact Nat.le_of_ble_eq_true rfl
  refine lv_aload_n hx hb dT_findSome_0 rfl (lv_at hl 0 rfl) ?_
  refine gf_T_21 (v := .ref (a 8)) hx hb hA hown hK hP 1 rfl rfl dT_findSome_1 ?_
  refine lv_iload_n hx hb dT_findSome_4 rfl (lv_at hl 1 rfl) ?_
  refine lv_sipush (v := nI 160) hx hb dT_findSome_5 (by decide +kernel) ?_
  refine tq_imul hx hb dT_findSome_8 ?_
  refine lv_iload_n hx hb dT_findSome_9 rfl (lv_at hl 2 rfl) ?_
  refine tq_iadd hx hb dT_findSome_10 ?_
  refine tq_iald hx hb hK hP 8 0 rfl rfl (by omega) (by omega) dT_findSome_11 ?_
  subst hQe
  exact W.iret (v := (u.2.1 3) ((i * 160) + d)) hx hb hr (fun t ht hW => ⟨⟨_, (), rfl, rfl, trivial⟩, hS.F ht⟩) hS.2.2 dT_findSome_12
set_option maxHeartbeats 4000000 in
set_option maxRecDepth 100000 in
/-- c_otherPart -/
theorem c_otherPart (l : Launch) (D : va_G) (a : Nat → Nat) (kI kL kZ : ClassId) (u : sU) (b d : Nat) (hb9 : b < 160) : Met l yT_otherPart (wT_otherPart :: wA) ({ frames := 0, cells := 0, slots := 0, locals := 0 }) (va_Pc [.ref (a 1), .int (nI b), .int (nI d)] (tq_rB D vwA (sW a kI kL kZ u) (sT kI kL kZ))) (va_Qi (fun r (_ : Unit) => r = if u.2.1 1 b = nI d then u.2.1 2 b else u.2.1 1 b) (fun _ _ => True) (fun _ => False)) 0 0 (fun _ => False) := by
  refine Met.ofW (cc := bT_otherPart) (maxL := 3) (ret := (some .int)) (by decide +kernel) rfl ?_
  intro p e s m args below meth c s₁ B1 hml hv
  obtain ⟨rfl, hP, hK⟩ := hv
  have hx := B1.exec
  have hb := B1.bytes
  have hr := B1.returns
  have hA : ∀ w ∈ wA, w.before ([.ref (a 1), .int (nI b), .int (nI d)] : List Value).toArray s = true := fun w h => atoms_spec (ws := wT_otherPart :: wA) B1.pre w (List.mem_cons_of_mem _ h)
  have hown : s.vm.findClass RcT = some m.cls := findClass_of_methodNamed B1.named
  have hlocks := B1.notSynchronized
  have hS : va_S (fun _ => False) s.heap s.heap [] := va_S.rf
  have hl := lv_entry ([.ref (a 1), .int (nI b), .int (nI d)]) (n := 3) (Nat.le_of_ble_eq_true rfl)
  rw [lg_entry_eq]
  generalize (lg_sl ([.ref (a 1), .int (nI b), .int (nI d)]) ++ List.replicate (3 - (lg_sl ([.ref (a 1), .int (nI b), .int (nI d)])).length) Slot.unset).toArray = ls at hl ⊢
  have hl : lv_has ls 3 [(0, .ref (a 1)), (1, .int (nI b)), (2, .int (nI d))] := hl
  refine tq_gen (fun R Q hRe hQe => ?_)
  have hRf : 0 ≤ R.frames := by rw [hRe]; exact Nat.le_of_ble_eq_true rfl
  have hRl : 0 ≤ R.locals := by rw [hRe]; exact Nat.le_of_ble_eq_true rfl
  have hRc : 0 ≤ R.cells := by rw [hRe]; exact Nat.le_of_ble_eq_true rfl
  have hRs : 0 ≤ R.slots := by rw [hRe]; exact Nat.le_of_ble_eq_true rfl
  refine lv_aload_n hx hb dT_otherPart_0 rfl (lv_at hl 0 rfl) ?_
  refine gf_T_15 (v := .ref (a 6)) hx hb hA hown hK hP 1 rfl rfl dT_otherPart_1 ?_
  refine lv_iload_n hx hb dT_otherPart_4 rfl (lv_at hl 1 rfl) ?_
  refine tq_iald hx hb hK hP 6 0 rfl rfl (by omega) (by omega) dT_otherPart_5 ?_
  refine lv_iload_n hx hb dT_otherPart_6 rfl (lv_at hl 2 rfl) ?_
  refine lv_icmp_ne hx hb dT_otherPart_7 (tgt := 19) (by decide) (fun h7 => ?_) (fun h7 => ?_)
  · refine lv_aload_n hx hb dT_otherPart_19 rfl (lv_at hl 0 rfl) ?_
    refine gf_T_15 (v := .ref (a 6)) hx hb hA hown hK hP 1 rfl rfl dT_otherPart_20 ?_
    refine lv_iload_n hx hb dT_otherPart_23 rfl (lv_at hl 1 rfl) ?_
    refine tq_iald hx hb hK hP 6 0 rfl rfl (by omega) (by omega) dT_otherPart_24 ?_
    subst hQe
    exact W.iret (v := (u.2.1 1) b) hx hb hr (fun t ht hW => ⟨⟨_, (), rfl, by simp [h7], trivial⟩, hS.F ht⟩) hS.2.2 dT_otherPart_25
  · refine lv_aload_n hx hb dT_otherPart_10 rfl (lv_at hl 0 rfl) ?_
    refine gf_T_18 (v := .ref (a 7)) hx hb hA hown hK hP 1 rfl rfl dT_otherPart_11 ?_
    refine lv_iload_n hx hb dT_otherPart_14 rfl (lv_at hl 1 rfl) ?_
    refine tq_iald hx hb hK hP 7 0 rfl rfl (by omega) (by omega) dT_otherPart_15 ?_
    refine lv_goto hx hb dT_otherPart_16 (tgt := 25) (by decide) ?_
    subst hQe
    exact W.iret (v := (u.2.1 2) b) hx hb hr (fun t ht hW => ⟨⟨_, (), rfl, by simp [h7], trivial⟩, hS.F ht⟩) hS.2.2 dT_otherPart_25
set_option maxHeartbeats 4000000 in
set_option maxRecDepth 100000 in
/-- c_told -/
theorem c_told (l : Launch) (D : va_G) (a : Nat → Nat) (kI kL kZ : ClassId) (u : sU)  : Met l yA_told (wA_told :: wA) ({ frames := 0, cells := 0, slots := 0, locals := 0 }) (va_Pc [.ref (a 2)] (tq_rB D vwA (sW a kI kL kZ u) (sT kI kL kZ))) (va_Qi (fun r (_ : Unit) => r = nI (u.2.2 2)) (fun _ _ => True) (fun _ => False)) 0 0 (fun _ => False) := by
  refine Met.ofW (cc := bA_told) (maxL := 1) (ret := (some .int)) (by decide +kernel) rfl ?_
  intro p e s m args below meth c s₁ B1 hml hv
  obtain ⟨rfl, hP, hK⟩ := hv
  have hx := B1.exec
  have hb := B1.bytes
  have hr := B1.returns
  have hA : ∀ w ∈ wA, w.before ([.ref (a 2)] : List Value).toArray s = true := fun w h => atoms_spec (ws := wA_told :: wA) B1.pre w (List.mem_cons_of_mem _ h)
  have hown : s.vm.findClass RcA = some m.cls := findClass_of_methodNamed B1.named
  have hlocks := B1.notSynchronized
  have hS : va_S (fun _ => False) s.heap s.heap [] := va_S.rf
  have hl := lv_entry ([.ref (a 2)]) (n := 1) (Nat.le_of_ble_eq_true rfl)
  rw [lg_entry_eq]
  generalize (lg_sl ([.ref (a 2)]) ++ List.replicate (1 - (lg_sl ([.ref (a 2)])).length) Slot.unset).toArray = ls at hl ⊢
  have hl : lv_has ls 1 [(0, .ref (a 2))] := hl
  refine tq_gen (fun R Q hRe hQe => ?_)
  have hRf : 0 ≤ R.frames := by rw [hRe]; exact Nat.le_of_ble_eq_true rfl
  have hRl : 0 ≤ R.locals := by rw [hRe]; exact Nat.le_of_ble_eq_true rfl
  have hRc : 0 ≤ R.cells := by rw [hRe]; exact Nat.le_of_ble_eq_true rfl
  have hRs : 0 ≤ R.slots := by rw [hRe]; exact Nat.le_of_ble_eq_true rfl
  refine lv_aload_n hx hb dA_told_0 rfl (lv_at hl 0 rfl) ?_
  refine gf_A_28 (v := .int (nI (u.2.2 2))) hx hb hA hown hK hP 2 rfl rfl dA_told_1 ?_
  subst hQe
  exact W.iret (v := nI (u.2.2 2)) hx hb hr (fun t ht hW => ⟨⟨_, (), rfl, rfl, trivial⟩, hS.F ht⟩) hS.2.2 dA_told_4
set_option maxHeartbeats 4000000 in
set_option maxRecDepth 100000 in
/-- c_inForce -/
theorem c_inForce (l : Launch) (D : va_G) (a : Nat → Nat) (kI kL kZ : ClassId) (u : sU)  : Met l yA_inForce (wA_inForce :: wA) ({ frames := 0, cells := 0, slots := 0, locals := 0 }) (va_Pc [.ref (a 2)] (tq_rB D vwA (sW a kI kL kZ u) (sT kI kL kZ))) (va_Qi (fun r (_ : Unit) => r = nI (u.2.2 3)) (fun _ _ => True) (fun _ => False)) 0 0 (fun _ => False) := by
  refine Met.ofW (cc := bA_inForce) (maxL := 1) (ret := (some .int)) (by decide +kernel) rfl ?_
  intro p e s m args below meth c s₁ B1 hml hv
  obtain ⟨rfl, hP, hK⟩ := hv
  have hx := B1.exec
  have hb := B1.bytes
  have hr := B1.returns
  have hA : ∀ w ∈ wA, w.before ([.ref (a 2)] : List Value).toArray s = true := fun w h => atoms_spec (ws := wA_inForce :: wA) B1.pre w (List.mem_cons_of_mem _ h)
  have hown : s.vm.findClass RcA = some m.cls := findClass_of_methodNamed B1.named
  have hlocks := B1.notSynchronized
  have hS : va_S (fun _ => False) s.heap s.heap [] := va_S.rf
  have hl := lv_entry ([.ref (a 2)]) (n := 1) (Nat.le_of_ble_eq_true rfl)
  rw [lg_entry_eq]
  generalize (lg_sl ([.ref (a 2)]) ++ List.replicate (1 - (lg_sl ([.ref (a 2)])).length) Slot.unset).toArray = ls at hl ⊢
  have hl : lv_has ls 1 [(0, .ref (a 2))] := hl
  refine tq_gen (fun R Q hRe hQe => ?_)
  have hRf : 0 ≤ R.frames := by rw [hRe]; exact Nat.le_of_ble_eq_true rfl
  have hRl : 0 ≤ R.locals := by rw [hRe]; exact Nat.le_of_ble_eq_true rfl
  have hRc : 0 ≤ R.cells := by rw [hRe]; exact Nat.le_of_ble_eq_true rfl
  have hRs : 0 ≤ R.slots := by rw [hRe]; exact Nat.le_of_ble_eq_true rfl
  refine lv_aload_n hx hb dA_inForce_0 rfl (lv_at hl 0 rfl) ?_
  refine gf_A_32 (v := .int (nI (u.2.2 3))) hx hb hA hown hK hP 2 rfl rfl dA_inForce_1 ?_
  subst hQe
  exact W.iret (v := nI (u.2.2 3)) hx hb hr (fun t ht hW => ⟨⟨_, (), rfl, rfl, trivial⟩, hS.F ht⟩) hS.2.2 dA_inForce_4
set_option maxHeartbeats 4000000 in
set_option maxRecDepth 100000 in
/-- c_axkind -/
theorem c_axkind (l : Launch) (D : va_G) (a : Nat → Nat) (kI kL kZ : ClassId) (u : sU) (k : Nat) (h1 : 1 ≤ k) (h2 : k ≤ 100) : Met l yA_kind (wA_kind :: wA) ({ frames := 0, cells := 0, slots := 0, locals := 0 }) (va_Pc [.ref (a 2), .int (nI k)] (tq_rB D vwA (sW a kI kL kZ u) (sT kI kL kZ))) (va_Qi (fun r (_ : Unit) => r = u.2.1 4 (k - 1)) (fun _ _ => True) (fun _ => False)) 0 0 (fun _ => False) := by
  refine Met.ofW (cc := bA_kind) (maxL := 2) (ret := (some .int)) (by decide +kernel) rfl ?_
  intro p e s m args below meth c s₁ B1 hml hv
  obtain ⟨rfl, hP, hK⟩ := hv
  have hx := B1.exec
  have hb := B1.bytes
  have hr := B1.returns
  have hA : ∀ w ∈ wA, w.before ([.ref (a 2), .int (nI k)] : List Value).toArray s = true := fun w h => atoms_spec (ws := wA_kind :: wA) B1.pre w (List.mem_cons_of_mem _ h)
  have hown : s.vm.findClass RcA = some m.cls := findClass_of_methodNamed B1.named
  have hlocks := B1.notSynchronized
  have hS : va_S (fun _ => False) s.heap s.heap [] := va_S.rf
  have hl := lv_entry ([.ref (a 2), .int (nI k)]) (n := 2) (Nat.le_of_ble_eq_true rfl)
  rw [lg_entry_eq]
  generalize (lg_sl ([.ref (a 2), .int (nI k)]) ++ List.replicate (2 - (lg_sl ([.ref (a 2), .int (nI k)])).length) Slot.unset).toArray = ls at hl ⊢
  have hl : lv_has ls 2 [(0, .ref (a 2)), (1, .int (nI k))] := hl
  refine tq_gen (fun R Q hRe hQe => ?_)
  have hRf : 0 ≤ R.frames := by rw [hRe]; exact Nat.le_of_ble_eq_true rfl
  have hRl : 0 ≤ R.locals := by rw [hRe]; exact Nat.le_of_ble_eq_true rfl
  have hRc : 0 ≤ R.cells := by rw [hRe]; exact Nat.le_of_ble_eq_true rfl
  have hRs : 0 ≤ R.slots := by rw [hRe]; exact Nat.le_of_ble_eq_true rfl
  refine lv_aload_n hx hb dA_kind_0 rfl (lv_at hl 0 rfl) ?_
  refine gf_A_9 (v := .ref (a 9)) hx hb hA hown hK hP 2 rfl rfl dA_kind_1 ?_
  refine lv_iload_n hx hb dA_kind_4 rfl (lv_at hl 1 rfl) ?_
  refine lv_iconst (v := nI 1) hx hb dA_kind_5 (by decide +kernel) ?_
  refine tq_isub hx hb dA_kind_6 (by omega) ?_
  refine tq_iald hx hb hK hP 9 0 rfl rfl (by omega) (by omega) dA_kind_7 ?_
  subst hQe
  exact W.iret (v := (u.2.1 4) (k - 1)) hx hb hr (fun t ht hW => ⟨⟨_, (), rfl, rfl, trivial⟩, hS.F ht⟩) hS.2.2 dA_kind_8
set_option maxHeartbeats 4000000 in
set_option maxRecDepth 100000 in
/-- c_axfirst -/
theorem c_axfirst (l : Launch) (D : va_G) (a : Nat → Nat) (kI kL kZ : ClassId) (u : sU) (k : Nat) (h1 : 1 ≤ k) (h2 : k ≤ 100) : Met l yA_first (wA_first :: wA) ({ frames := 0, cells := 0, slots := 0, locals := 0 }) (va_Pc [.ref (a 2), .int (nI k)] (tq_rB D vwA (sW a kI kL kZ u) (sT kI kL kZ))) (va_Qi (fun r (_ : Unit) => r = u.2.1 5 (k - 1)) (fun _ _ => True) (fun _ => False)) 0 0 (fun _ => False) := by
  refine Met.ofW (cc := bA_first) (maxL := 2) (ret := (some .int)) (by decide +kernel) rfl ?_
  intro p e s m args below meth c s₁ B1 hml hv
  obtain ⟨rfl, hP, hK⟩ := hv
  have hx := B1.exec
  have hb := B1.bytes
  have hr := B1.returns
  have hA : ∀ w ∈ wA, w.before ([.ref (a 2), .int (nI k)] : List Value).toArray s = true := fun w h => atoms_spec (ws := wA_first :: wA) B1.pre w (List.mem_cons_of_mem _ h)
  have hown : s.vm.findClass RcA = some m.cls := findClass_of_methodNamed B1.named
  have hlocks := B1.notSynchronized
  have hS : va_S (fun _ => False) s.heap s.heap [] := va_S.rf
  have hl := lv_entry ([.ref (a 2), .int (nI k)]) (n := 2) (Nat.le_of_ble_eq_true rfl)
  rw [lg_entry_eq]
  generalize (lg_sl ([.ref (a 2), .int (nI k)]) ++ List.replicate (2 - (lg_sl ([.ref (a 2), .int (nI k)])).length) Slot.unset).toArray = ls at hl ⊢
  have hl : lv_has ls 2 [(0, .ref (a 2)), (1, .int (nI k))] := hl
  refine tq_gen (fun R Q hRe hQe => ?_)
  have hRf : 0 ≤ R.frames := by rw [hRe]; exact Nat.le_of_ble_eq_true rfl
  have hRl : 0 ≤ R.locals := by rw [hRe]; exact Nat.le_of_ble_eq_true rfl
  have hRc : 0 ≤ R.cells := by rw [hRe]; exact Nat.le_of_ble_eq_true rfl
  have hRs : 0 ≤ R.slots := by rw [hRe]; exact Nat.le_of_ble_eq_true rfl
  refine lv_aload_n hx hb dA_first_0 rfl (lv_at hl 0 rfl) ?_
  refine gf_A_15 (v := .ref (a 10)) hx hb hA hown hK hP 2 rfl rfl dA_first_1 ?_
  refine lv_iload_n hx hb dA_first_4 rfl (lv_at hl 1 rfl) ?_
  refine lv_iconst (v := nI 1) hx hb dA_first_5 (by decide +kernel) ?_
  refine tq_isub hx hb dA_first_6 (by omega) ?_
  refine tq_iald hx hb hK hP 10 0 rfl rfl (by omega) (by omega) dA_first_7 ?_
  subst hQe
  exact W.iret (v := (u.2.1 5) (k - 1)) hx hb hr (fun t ht hW => ⟨⟨_, (), rfl, rfl, trivial⟩, hS.F ht⟩) hS.2.2 dA_first_8
set_option maxHeartbeats 4000000 in
set_option maxRecDepth 100000 in
/-- c_axsecond -/
theorem c_axsecond (l : Launch) (D : va_G) (a : Nat → Nat) (kI kL kZ : ClassId) (u : sU) (k : Nat) (h1 : 1 ≤ k) (h2 : k ≤ 100) : Met l yA_second (wA_second :: wA) ({ frames := 0, cells := 0, slots := 0, locals := 0 }) (va_Pc [.ref (a 2), .int (nI k)] (tq_rB D vwA (sW a kI kL kZ u) (sT kI kL kZ))) (va_Qi (fun r (_ : Unit) => r = u.2.1 6 (k - 1)) (fun _ _ => True) (fun _ => False)) 0 0 (fun _ => False) := by
  refine Met.ofW (cc := bA_second) (maxL := 2) (ret := (some .int)) (by decide +kernel) rfl ?_
  intro p e s m args below meth c s₁ B1 hml hv
  obtain ⟨rfl, hP, hK⟩ := hv
  have hx := B1.exec
  have hb := B1.bytes
  have hr := B1.returns
  have hA : ∀ w ∈ wA, w.before ([.ref (a 2), .int (nI k)] : List Value).toArray s = true := fun w h => atoms_spec (ws := wA_second :: wA) B1.pre w (List.mem_cons_of_mem _ h)
  have hown : s.vm.findClass RcA = some m.cls := findClass_of_methodNamed B1.named
  have hlocks := B1.notSynchronized
  have hS : va_S (fun _ => False) s.heap s.heap [] := va_S.rf
  have hl := lv_entry ([.ref (a 2), .int (nI k)]) (n := 2) (Nat.le_of_ble_eq_true rfl)
  rw [lg_entry_eq]
  generalize (lg_sl ([.ref (a 2), .int (nI k)]) ++ List.replicate (2 - (lg_sl ([.ref (a 2), .int (nI k)])).length) Slot.unset).toArray = ls at hl ⊢
  have hl : lv_has ls 2 [(0, .ref (a 2)), (1, .int (nI k))] := hl
  refine tq_gen (fun R Q hRe hQe => ?_)
  have hRf : 0 ≤ R.frames := by rw [hRe]; exact Nat.le_of_ble_eq_true rfl
  have hRl : 0 ≤ R.locals := by rw [hRe]; exact Nat.le_of_ble_eq_true rfl
  have hRc : 0 ≤ R.cells := by rw [hRe]; exact Nat.le_of_ble_eq_true rfl
  have hRs : 0 ≤ R.slots := by rw [hRe]; exact Nat.le_of_ble_eq_true rfl
  refine lv_aload_n hx hb dA_second_0 rfl (lv_at hl 0 rfl) ?_
  refine gf_A_18 (v := .ref (a 11)) hx hb hA hown hK hP 2 rfl rfl dA_second_1 ?_
  refine lv_iload_n hx hb dA_second_4 rfl (lv_at hl 1 rfl) ?_
  refine lv_iconst (v := nI 1) hx hb dA_second_5 (by decide +kernel) ?_
  refine tq_isub hx hb dA_second_6 (by omega) ?_
  refine tq_iald hx hb hK hP 11 0 rfl rfl (by omega) (by omega) dA_second_7 ?_
  subst hQe
  exact W.iret (v := (u.2.1 6) (k - 1)) hx hb hr (fun t ht hW => ⟨⟨_, (), rfl, rfl, trivial⟩, hS.F ht⟩) hS.2.2 dA_second_8
set_option maxHeartbeats 4000000 in
set_option maxRecDepth 100000 in
/-- c_axthird -/
theorem c_axthird (l : Launch) (D : va_G) (a : Nat → Nat) (kI kL kZ : ClassId) (u : sU) (k : Nat) (h1 : 1 ≤ k) (h2 : k ≤ 100) : Met l yA_third (wA_third :: wA) ({ frames := 0, cells := 0, slots := 0, locals := 0 }) (va_Pc [.ref (a 2), .int (nI k)] (tq_rB D vwA (sW a kI kL kZ u) (sT kI kL kZ))) (va_Qi (fun r (_ : Unit) => r = u.2.1 7 (k - 1)) (fun _ _ => True) (fun _ => False)) 0 0 (fun _ => False) := by
  refine Met.ofW (cc := bA_third) (maxL := 2) (ret := (some .int)) (by decide +kernel) rfl ?_
  intro p e s m args below meth c s₁ B1 hml hv
  obtain ⟨rfl, hP, hK⟩ := hv
  have hx := B1.exec
  have hb := B1.bytes
  have hr := B1.returns
  have hA : ∀ w ∈ wA, w.before ([.ref (a 2), .int (nI k)] : List Value).toArray s = true := fun w h => atoms_spec (ws := wA_third :: wA) B1.pre w (List.mem_cons_of_mem _ h)
  have hown : s.vm.findClass RcA = some m.cls := findClass_of_methodNamed B1.named
  have hlocks := B1.notSynchronized
  have hS : va_S (fun _ => False) s.heap s.heap [] := va_S.rf
  have hl := lv_entry ([.ref (a 2), .int (nI k)]) (n := 2) (Nat.le_of_ble_eq_true rfl)
  rw [lg_entry_eq]
  generalize (lg_sl ([.ref (a 2), .int (nI k)]) ++ List.replicate (2 - (lg_sl ([.ref (a 2), .int (nI k)])).length) Slot.unset).toArray = ls at hl ⊢
  have hl : lv_has ls 2 [(0, .ref (a 2)), (1, .int (nI k))] := hl
  refine tq_gen (fun R Q hRe hQe => ?_)
  have hRf : 0 ≤ R.frames := by rw [hRe]; exact Nat.le_of_ble_eq_true rfl
  have hRl : 0 ≤ R.locals := by rw [hRe]; exact Nat.le_of_ble_eq_true rfl
  have hRc : 0 ≤ R.cells := by rw [hRe]; exact Nat.le_of_ble_eq_true rfl
  have hRs : 0 ≤ R.slots := by rw [hRe]; exact Nat.le_of_ble_eq_true rfl
  refine lv_aload_n hx hb dA_third_0 rfl (lv_at hl 0 rfl) ?_
  refine gf_A_21 (v := .ref (a 12)) hx hb hA hown hK hP 2 rfl rfl dA_third_1 ?_
  refine lv_iload_n hx hb dA_third_4 rfl (lv_at hl 1 rfl) ?_
  refine lv_iconst (v := nI 1) hx hb dA_third_5 (by decide +kernel) ?_
  refine tq_isub hx hb dA_third_6 (by omega) ?_
  refine tq_iald hx hb hK hP 12 0 rfl rfl (by omega) (by omega) dA_third_7 ?_
  subst hQe
  exact W.iret (v := (u.2.1 7) (k - 1)) hx hb hr (fun t ht hW => ⟨⟨_, (), rfl, rfl, trivial⟩, hS.F ht⟩) hS.2.2 dA_third_8
set_option maxHeartbeats 4000000 in
set_option maxRecDepth 100000 in
/-- c_isInForce -/
theorem c_isInForce (l : Launch) (D : va_G) (a : Nat → Nat) (kI kL kZ : ClassId) (u : sU) (x : Int32) (hT : u.2.2 2 ≤ 100) : Met l yA_isInForce (wA_isInForce :: wA) ({ frames := 0, cells := 0, slots := 0, locals := 0 }) (va_Pc [.ref (a 2), .int x] (tq_rB D vwA (sW a kI kL kZ u) (sT kI kL kZ))) (va_Qi (fun r (_ : Unit) => r = bI (s_inf u x)) (fun _ _ => True) (fun _ => False)) 0 0 (fun _ => False) := by
  refine Met.ofW (cc := bA_isInForce) (maxL := 2) (ret := (some .boolean)) (by decide +kernel) rfl ?_
  intro p e s m args below meth c s₁ B1 hml hv
  obtain ⟨rfl, hP, hK⟩ := hv
  have hx := B1.exec
  have hb := B1.bytes
  have hr := B1.returns
  have hA : ∀ w ∈ wA, w.before ([.ref (a 2), .int x] : List Value).toArray s = true := fun w h => atoms_spec (ws := wA_isInForce :: wA) B1.pre w (List.mem_cons_of_mem _ h)
  have hown : s.vm.findClass RcA = some m.cls := findClass_of_methodNamed B1.named
  have hlocks := B1.notSynchronized
  have hS : va_S (fun _ => False) s.heap s.heap [] := va_S.rf
  have hl := lv_entry ([.ref (a 2), .int x]) (n := 2) (Nat.le_of_ble_eq_true rfl)
  rw [lg_entry_eq]
  generalize (lg_sl ([.ref (a 2), .int x]) ++ List.replicate (2 - (lg_sl ([.ref (a 2), .int x])).length) Slot.unset).toArray = ls at hl ⊢
  have hl : lv_has ls 2 [(0, .ref (a 2)), (1, .int x)] := hl
  refine tq_gen (fun R Q hRe hQe => ?_)
  have hRf : 0 ≤ R.frames := by rw [hRe]; exact Nat.le_of_ble_eq_true rfl
  have hRl : 0 ≤ R.locals := by rw [hRe]; exact Nat.le_of_ble_eq_true rfl
  have hRc : 0 ≤ R.cells := by rw [hRe]; exact Nat.le_of_ble_eq_true rfl
  have hRs : 0 ≤ R.slots := by rw [hRe]; exact Nat.le_of_ble_eq_true rfl
  refine lv_iload_n hx hb dA_isInForce_0 rfl (lv_at hl 1 rfl) ?_
  refine lv_iconst (v := nI 1) hx hb dA_isInForce_1 (by decide +kernel) ?_
  refine lv_icmp_lt hx hb dA_isInForce_2 (tgt := 28) (by decide) (fun h2 => ?_) (fun h2 => ?_)
  · have hz := s_inf_lo (u := u) h2
    refine lv_iconst (v := nI 0) hx hb dA_isInForce_28 (by decide +kernel) ?_
    subst hQe
    exact W.zret (v := nI 0) (ty := .boolean) hx hb hr rfl (fun t ht hW => ⟨⟨_, (), rfl, by rw [hz]; rfl, trivial⟩, hS.F ht⟩) hS.2.2 dA_isInForce_29
  · refine lv_iload_n hx hb dA_isInForce_5 rfl (lv_at hl 1 rfl) ?_
    refine lv_aload_n hx hb dA_isInForce_6 rfl (lv_at hl 0 rfl) ?_
    refine gf_A_28 (v := .int (nI (u.2.2 2))) hx hb hA hown hK hP 2 rfl rfl dA_isInForce_7 ?_
    refine lv_icmp_gt hx hb dA_isInForce_10 (tgt := 28) (by decide) (fun h10 => ?_) (fun h10 => ?_)
    · have hz := s_inf_hi (u := u) h10 hT
      refine lv_iconst (v := nI 0) hx hb dA_isInForce_28 (by decide +kernel) ?_
      subst hQe
      exact W.zret (v := nI 0) (ty := .boolean) hx hb hr rfl (fun t ht hW => ⟨⟨_, (), rfl, by rw [hz]; rfl, trivial⟩, hS.F ht⟩) hS.2.2 dA_isInForce_29
    · obtain ⟨k, hk1, hk2, rfl⟩ := tq_le1 (by omega) h2 h10
      refine lv_aload_n hx hb dA_isInForce_13 rfl (lv_at hl 0 rfl) ?_
      refine gf_A_24 (v := .ref (a 13)) hx hb hA hown hK hP 2 rfl rfl dA_isInForce_14 ?_
      refine lv_iload_n hx hb dA_isInForce_17 rfl (lv_at hl 1 rfl) ?_
      refine lv_iconst (v := nI 1) hx hb dA_isInForce_18 (by decide +kernel) ?_
      refine tq_isub hx hb dA_isInForce_19 (by omega) ?_
      refine tq_zald hx hb hK hP 13 2 rfl rfl (by omega) (by omega) dA_isInForce_20 ?_
      refine lv_if_ne hx hb dA_isInForce_21 (tgt := 28) (by decide) (fun h21 => ?_) (fun h21 => ?_)
      · have hz : s_inf u (nI k) = false := by rw [s_inf_k hk1 hk2 hT]; simpa using h21
        refine lv_iconst (v := nI 0) hx hb dA_isInForce_28 (by decide +kernel) ?_
        subst hQe
        exact W.zret (v := nI 0) (ty := .boolean) hx hb hr rfl (fun t ht hW => ⟨⟨_, (), rfl, by rw [hz]; rfl, trivial⟩, hS.F ht⟩) hS.2.2 dA_isInForce_29
      · have hz : s_inf u (nI k) = true := by rw [s_inf_k hk1 hk2 hT]; simpa using h21
        refine lv_iconst (v := nI 1) hx hb dA_isInForce_24 (by decide +kernel) ?_
        refine lv_goto hx hb dA_isInForce_25 (tgt := 29) (by decide) ?_
        subst hQe
        exact W.zret (v := nI 1) (ty := .boolean) hx hb hr rfl (fun t ht hW => ⟨⟨_, (), rfl, by rw [hz]; rfl, trivial⟩, hS.F ht⟩) hS.2.2 dA_isInForce_29
set_option maxHeartbeats 4000000 in
set_option maxRecDepth 100000 in
/-- c_tell -/
theorem c_tell (l : Launch) (D : va_G) (a : Nat → Nat) (kI kL kZ : ClassId) (u : sU) (k x y z : Int32) (hT : u.2.2 2 ≤ 100) (hF : u.2.2 3 ≤ 100) : Met l yA_tell (wA_tell :: wA) ({ frames := 0, cells := 0, slots := 0, locals := 0 }) (va_Pc [.ref (a 2), .int k, .int x, .int y, .int z] (tq_wB D vwA (sW a kI kL kZ u) (sT kI kL kZ))) (va_Qi (fun r (u' : sU) => (u.2.2 2 < 100 → r = nI (u.2.2 2 + 1) ∧ u' = s_tell u k x y z) ∧ (¬ u.2.2 2 < 100 → r = -1 ∧ u' = u)) (fun u' t => va_P D vwA (sW a kI kL kZ u') t.heap) (sA a)) 0 0 (sA a) := by
  refine Met.ofW (cc := bA_tell) (maxL := 5) (ret := (some .int)) (by decide +kernel) rfl ?_
  intro p e s m args below meth c s₁ B1 hml hv
  obtain ⟨rfl, hP, hK, hD0⟩ := hv
  have hx := B1.exec
  have hb := B1.bytes
  have hr := B1.returns
  have hA : ∀ w ∈ wA, w.before ([.ref (a 2), .int k, .int x, .int y, .int z] : List Value).toArray s = true := fun w h => atoms_spec (ws := wA_tell :: wA) B1.pre w (List.mem_cons_of_mem _ h)
  have hown : s.vm.findClass RcA = some m.cls := findClass_of_methodNamed B1.named
  have hlocks := B1.notSynchronized
  have hS : va_S (sA a) s.heap s.heap [] := va_S.rf
  have hl := lv_entry ([.ref (a 2), .int k, .int x, .int y, .int z]) (n := 5) (Nat.le_of_ble_eq_true rfl)
  rw [lg_entry_eq]
  generalize (lg_sl ([.ref (a 2), .int k, .int x, .int y, .int z]) ++ List.replicate (5 - (lg_sl ([.ref (a 2), .int k, .int x, .int y, .int z])).length) Slot.unset).toArray = ls at hl ⊢
  have hl : lv_has ls 5 [(0, .ref (a 2)), (1, .int k), (2, .int x), (3, .int y), (4, .int z)] := hl
  refine tq_gen (fun R Q hRe hQe => ?_)
  have hRf : 0 ≤ R.frames := by rw [hRe]; exact Nat.le_of_ble_eq_true rfl
  have hRl : 0 ≤ R.locals := by rw [hRe]; exact Nat.le_of_ble_eq_true rfl
  have hRc : 0 ≤ R.cells := by rw [hRe]; exact Nat.le_of_ble_eq_true rfl
  have hRs : 0 ≤ R.slots := by rw [hRe]; exact Nat.le_of_ble_eq_true rfl
  have hD := sA_D hD0
  refine lv_aload_n hx hb dA_tell_0 rfl (lv_at hl 0 rfl) ?_
  refine gf_A_28 (v := .int (nI (u.2.2 2))) hx hb hA hown hK hP 2 rfl rfl dA_tell_1 ?_
  refine lv_bipush (v := nI 100) hx hb dA_tell_4 (by decide +kernel) ?_
  refine tq_lt hx hb dA_tell_6 (tgt := 11) (by decide) (by omega) (by omega) (fun h6 => ?_) (fun h6 => ?_)
  · refine lv_aload_n hx hb dA_tell_11 rfl (lv_at hl 0 rfl) ?_
    refine gf_A_9 (v := .ref (a 9)) hx hb hA hown hK hP 2 rfl rfl dA_tell_12 ?_
    refine lv_aload_n hx hb dA_tell_15 rfl (lv_at hl 0 rfl) ?_
    refine gf_A_28 (v := .int (nI (u.2.2 2))) hx hb hA hown hK hP 2 rfl rfl dA_tell_16 ?_
    refine lv_iload_n hx hb dA_tell_19 rfl (lv_at hl 1 rfl) ?_
    refine tq_iast hx hb hK hP hD hS 9 0 rfl rfl (by omega) (by omega) dA_tell_20 (fun H locs hP hD hS => ?_)
    have hP : va_P D vwA (sW a kI kL kZ (u.1, va_up u.2.1 4 (upd (u.2.1 4) (u.2.2 2) k), u.2.2)) H := hP
    have hD : va_D (sA a) (sW a kI kL kZ (u.1, va_up u.2.1 4 (upd (u.2.1 4) (u.2.2 2) k), u.2.2)) := hD
    refine lv_aload_n hx hb dA_tell_21 rfl (lv_at hl 0 rfl) ?_
    refine gf_A_15 (v := .ref (a 10)) hx hb hA hown hK hP 2 rfl rfl dA_tell_22 ?_
    refine lv_aload_n hx hb dA_tell_25 rfl (lv_at hl 0 rfl) ?_
    refine gf_A_28 (v := .int (nI (u.2.2 2))) hx hb hA hown hK hP 2 rfl rfl dA_tell_26 ?_
    refine lv_iload_n hx hb dA_tell_29 rfl (lv_at hl 2 rfl) ?_
    refine tq_iast hx hb hK hP hD hS 10 0 rfl rfl (by omega) (by omega) dA_tell_30 (fun H locs hP hD hS => ?_)
    have hP : va_P D vwA (sW a kI kL kZ (u.1, va_up (va_up u.2.1 4 (upd (u.2.1 4) (u.2.2 2) k)) 5 (upd (u.2.1 5) (u.2.2 2) x), u.2.2)) H := hP
    have hD : va_D (sA a) (sW a kI kL kZ (u.1, va_up (va_up u.2.1 4 (upd (u.2.1 4) (u.2.2 2) k)) 5 (upd (u.2.1 5) (u.2.2 2) x), u.2.2)) := hD
    refine lv_aload_n hx hb dA_tell_31 rfl (lv_at hl 0 rfl) ?_
    refine gf_A_18 (v := .ref (a 11)) hx hb hA hown hK hP 2 rfl rfl dA_tell_32 ?_
    refine lv_aload_n hx hb dA_tell_35 rfl (lv_at hl 0 rfl) ?_
    refine gf_A_28 (v := .int (nI (u.2.2 2))) hx hb hA hown hK hP 2 rfl rfl dA_tell_36 ?_
    refine lv_iload_n hx hb dA_tell_39 rfl (lv_at hl 3 rfl) ?_
    refine tq_iast hx hb hK hP hD hS 11 0 rfl rfl (by omega) (by omega) dA_tell_40 (fun H locs hP hD hS => ?_)
    have hP : va_P D vwA (sW a kI kL kZ (u.1, va_up (va_up (va_up u.2.1 4 (upd (u.2.1 4) (u.2.2 2) k)) 5 (upd (u.2.1 5) (u.2.2 2) x)) 6 (upd (u.2.1 6) (u.2.2 2) y), u.2.2)) H := hP
    have hD : va_D (sA a) (sW a kI kL kZ (u.1, va_up (va_up (va_up u.2.1 4 (upd (u.2.1 4) (u.2.2 2) k)) 5 (upd (u.2.1 5) (u.2.2 2) x)) 6 (upd (u.2.1 6) (u.2.2 2) y), u.2.2)) := hD
    refine lv_aload_n hx hb dA_tell_41 rfl (lv_at hl 0 rfl) ?_
    refine gf_A_21 (v := .ref (a 12)) hx hb hA hown hK hP 2 rfl rfl dA_tell_42 ?_
    refine lv_aload_n hx hb dA_tell_45 rfl (lv_at hl 0 rfl) ?_
    refine gf_A_28 (v := .int (nI (u.2.2 2))) hx hb hA hown hK hP 2 rfl rfl dA_tell_46 ?_
    refine lv_iload hx hb dA_tell_49 (lv_at hl 4 rfl) ?_
    refine tq_iast hx hb hK hP hD hS 12 0 rfl rfl (by omega) (by omega) dA_tell_51 (fun H locs hP hD hS => ?_)
    have hP : va_P D vwA (sW a kI kL kZ (u.1, va_up (va_up (va_up (va_up u.2.1 4 (upd (u.2.1 4) (u.2.2 2) k)) 5 (upd (u.2.1 5) (u.2.2 2) x)) 6 (upd (u.2.1 6) (u.2.2 2) y)) 7 (upd (u.2.1 7) (u.2.2 2) z), u.2.2)) H := hP
    have hD : va_D (sA a) (sW a kI kL kZ (u.1, va_up (va_up (va_up (va_up u.2.1 4 (upd (u.2.1 4) (u.2.2 2) k)) 5 (upd (u.2.1 5) (u.2.2 2) x)) 6 (upd (u.2.1 6) (u.2.2 2) y)) 7 (upd (u.2.1 7) (u.2.2 2) z), u.2.2)) := hD
    refine lv_aload_n hx hb dA_tell_52 rfl (lv_at hl 0 rfl) ?_
    refine lv_dup hx hb dA_tell_53 rfl ?_
    refine gf_A_28 (v := .int (nI (u.2.2 2))) hx hb hA hown hK hP 2 rfl rfl dA_tell_54 ?_
    refine lv_iconst (v := nI 1) hx hb dA_tell_57 (by decide +kernel) ?_
    refine tq_iadd hx hb dA_tell_58 ?_
    refine pf_A_28 (v := .int (nI ((u.2.2 2) + 1))) hx hb hA hown hK hP hD hS 2 rfl rfl rfl (Nat.le_of_ble_eq_true rfl) dA_tell_59 (fun H locs hP hD hS => ?_)
    have hP : va_P D vwA (sW a kI kL kZ (u.1, va_up (va_up (va_up (va_up u.2.1 4 (upd (u.2.1 4) (u.2.2 2) k)) 5 (upd (u.2.1 5) (u.2.2 2) x)) 6 (upd (u.2.1 6) (u.2.2 2) y)) 7 (upd (u.2.1 7) (u.2.2 2) z), va_up u.2.2 2 ((u.2.2 2) + 1))) H := hP
    have hD : va_D (sA a) (sW a kI kL kZ (u.1, va_up (va_up (va_up (va_up u.2.1 4 (upd (u.2.1 4) (u.2.2 2) k)) 5 (upd (u.2.1 5) (u.2.2 2) x)) 6 (upd (u.2.1 6) (u.2.2 2) y)) 7 (upd (u.2.1 7) (u.2.2 2) z), va_up u.2.2 2 ((u.2.2 2) + 1))) := hD
    refine lv_aload_n hx hb dA_tell_62 rfl (lv_at hl 0 rfl) ?_
    refine lv_dup hx hb dA_tell_63 rfl ?_
    refine gf_A_32 (v := .int (nI (u.2.2 3))) hx hb hA hown hK hP 2 rfl rfl dA_tell_64 ?_
    refine lv_iconst (v := nI 1) hx hb dA_tell_67 (by decide +kernel) ?_
    refine tq_iadd hx hb dA_tell_68 ?_
    refine pf_A_32 (v := .int (nI ((u.2.2 3) + 1))) hx hb hA hown hK hP hD hS 2 rfl rfl rfl (Nat.le_of_ble_eq_true rfl) dA_tell_69 (fun H locs hP hD hS => ?_)
    have hP : va_P D vwA (sW a kI kL kZ (u.1, va_up (va_up (va_up (va_up u.2.1 4 (upd (u.2.1 4) (u.2.2 2) k)) 5 (upd (u.2.1 5) (u.2.2 2) x)) 6 (upd (u.2.1 6) (u.2.2 2) y)) 7 (upd (u.2.1 7) (u.2.2 2) z), va_up (va_up u.2.2 2 ((u.2.2 2) + 1)) 3 ((u.2.2 3) + 1))) H := hP
    have hD : va_D (sA a) (sW a kI kL kZ (u.1, va_up (va_up (va_up (va_up u.2.1 4 (upd (u.2.1 4) (u.2.2 2) k)) 5 (upd (u.2.1 5) (u.2.2 2) x)) 6 (upd (u.2.1 6) (u.2.2 2) y)) 7 (upd (u.2.1 7) (u.2.2 2) z), va_up (va_up u.2.2 2 ((u.2.2 2) + 1)) 3 ((u.2.2 3) + 1))) := hD
    refine lv_aload_n hx hb dA_tell_72 rfl (lv_at hl 0 rfl) ?_
    refine gf_A_28 (v := .int (nI ((u.2.2 2) + 1))) hx hb hA hown hK hP 2 rfl rfl dA_tell_73 ?_
    subst hQe
    exact W.iret (v := nI ((u.2.2 2) + 1)) hx hb hr (fun t ht hW => ⟨⟨_, (u.1, va_up (va_up (va_up (va_up u.2.1 4 (upd (u.2.1 4) (u.2.2 2) k)) 5 (upd (u.2.1 5) (u.2.2 2) x)) 6 (upd (u.2.1 6) (u.2.2 2) y)) 7 (upd (u.2.1 7) (u.2.2 2) z), va_up (va_up u.2.2 2 ((u.2.2 2) + 1)) 3 ((u.2.2 3) + 1)), rfl, ⟨fun _ => ⟨rfl, rfl⟩, fun z => by omega⟩, tq_hp ht hP⟩, hS.F ht⟩) hS.2.2 dA_tell_76
  · refine lv_iconst (v := (-1)) hx hb dA_tell_9 (by decide +kernel) ?_
    subst hQe
    exact W.iret (v := (-1)) hx hb hr (fun t ht hW => ⟨⟨_, u, rfl, ⟨fun z => by omega, fun _ => ⟨rfl, rfl⟩⟩, tq_hp ht hP⟩, hS.F ht⟩) hS.2.2 dA_tell_10
set_option maxHeartbeats 4000000 in
set_option maxRecDepth 100000 in
/-- c_takeBack -/
theorem c_takeBack (l : Launch) (D : va_G) (a : Nat → Nat) (kI kL kZ : ClassId) (u : sU) (k : Nat) (h1 : 1 ≤ k) (h2 : k ≤ 100) (hF : 1 ≤ u.2.2 3) (hF2 : u.2.2 3 ≤ 100) : Met l yA_takeBack (wA_takeBack :: wA) ({ frames := 0, cells := 0, slots := 0, locals := 0 }) (va_Pc [.ref (a 2), .int (nI k)] (tq_wB D vwA (sW a kI kL kZ u) (sT kI kL kZ))) (va_Qv (fun (u' : sU) => u' = s_back u k) (fun u' t => va_P D vwA (sW a kI kL kZ u') t.heap) (sA a)) 0 0 (sA a) := by
  refine Met.ofW (cc := bA_takeBack) (maxL := 2) (ret := none) (by decide +kernel) rfl ?_
  intro p e s m args below meth c s₁ B1 hml hv
  obtain ⟨rfl, hP, hK, hD0⟩ := hv
  have hx := B1.exec
  have hb := B1.bytes
  have hr := B1.returns
  have hA : ∀ w ∈ wA, w.before ([.ref (a 2), .int (nI k)] : List Value).toArray s = true := fun w h => atoms_spec (ws := wA_takeBack :: wA) B1.pre w (List.mem_cons_of_mem _ h)
  have hown : s.vm.findClass RcA = some m.cls := findClass_of_methodNamed B1.named
  have hlocks := B1.notSynchronized
  have hS : va_S (sA a) s.heap s.heap [] := va_S.rf
  have hl := lv_entry ([.ref (a 2), .int (nI k)]) (n := 2) (Nat.le_of_ble_eq_true rfl)
  rw [lg_entry_eq]
  generalize (lg_sl ([.ref (a 2), .int (nI k)]) ++ List.replicate (2 - (lg_sl ([.ref (a 2), .int (nI k)])).length) Slot.unset).toArray = ls at hl ⊢
  have hl : lv_has ls 2 [(0, .ref (a 2)), (1, .int (nI k))] := hl
  refine tq_gen (fun R Q hRe hQe => ?_)
  have hRf : 0 ≤ R.frames := by rw [hRe]; exact Nat.le_of_ble_eq_true rfl
  have hRl : 0 ≤ R.locals := by rw [hRe]; exact Nat.le_of_ble_eq_true rfl
  have hRc : 0 ≤ R.cells := by rw [hRe]; exact Nat.le_of_ble_eq_true rfl
  have hRs : 0 ≤ R.slots := by rw [hRe]; exact Nat.le_of_ble_eq_true rfl
  have hD := sA_D hD0
  refine lv_aload_n hx hb dA_takeBack_0 rfl (lv_at hl 0 rfl) ?_
  refine gf_A_24 (v := .ref (a 13)) hx hb hA hown hK hP 2 rfl rfl dA_takeBack_1 ?_
  refine lv_iload_n hx hb dA_takeBack_4 rfl (lv_at hl 1 rfl) ?_
  refine lv_iconst (v := nI 1) hx hb dA_takeBack_5 (by decide +kernel) ?_
  refine tq_isub hx hb dA_takeBack_6 (by omega) ?_
  refine lv_iconst (v := nI 1) hx hb dA_takeBack_7 (by decide +kernel) ?_
  refine tq_zast hx hb hK hP hD hS 13 2 rfl rfl (by omega) (by omega) (by first | rfl | decide | exact tq_nzv _) dA_takeBack_8 (fun H locs hP hD hS => ?_)
  have hP : va_P D vwA (sW a kI kL kZ (u.1, va_up u.2.1 8 (upd (u.2.1 8) (k - 1) (nI 1)), u.2.2)) H := hP
  have hD : va_D (sA a) (sW a kI kL kZ (u.1, va_up u.2.1 8 (upd (u.2.1 8) (k - 1) (nI 1)), u.2.2)) := hD
  refine lv_aload_n hx hb dA_takeBack_9 rfl (lv_at hl 0 rfl) ?_
  refine lv_dup hx hb dA_takeBack_10 rfl ?_
  refine gf_A_32 (v := .int (nI (u.2.2 3))) hx hb hA hown hK hP 2 rfl rfl dA_takeBack_11 ?_
  refine lv_iconst (v := nI 1) hx hb dA_takeBack_14 (by decide +kernel) ?_
  refine tq_isub hx hb dA_takeBack_15 (by omega) ?_
  refine pf_A_32 (v := .int (nI ((u.2.2 3) - 1))) hx hb hA hown hK hP hD hS 2 rfl rfl rfl (Nat.le_of_ble_eq_true rfl) dA_takeBack_16 (fun H locs hP hD hS => ?_)
  have hP : va_P D vwA (sW a kI kL kZ (u.1, va_up u.2.1 8 (upd (u.2.1 8) (k - 1) (nI 1)), va_up u.2.2 3 ((u.2.2 3) - 1))) H := hP
  have hD : va_D (sA a) (sW a kI kL kZ (u.1, va_up u.2.1 8 (upd (u.2.1 8) (k - 1) (nI 1)), va_up u.2.2 3 ((u.2.2 3) - 1))) := hD
  subst hQe
  exact W.vret hx hb hr (fun t ht hW => ⟨⟨(u.1, va_up u.2.1 8 (upd (u.2.1 8) (k - 1) (nI 1)), va_up u.2.2 3 ((u.2.2 3) - 1)), rfl, rfl, tq_hp ht hP⟩, hS.F ht⟩) hS.2.2 dA_takeBack_19
set_option maxHeartbeats 4000000 in
set_option maxRecDepth 100000 in
/-- c_make1 -/
theorem c_make1 (l : Launch) (D : va_G) (a : Nat → Nat) (kI kL kZ : ClassId) (u : sU) (hN : u.2.2 0 ≤ 160) (hN1 : u.2.2 1 ≤ 160) : Met l yT_make (wT_make :: wA) ({ frames := 1, cells := 0, slots := 0, locals := 25 }) (va_Pc [.ref (a 1), .int (nI 1), .int (-1), .int (-1)] (tq_wB D vwA (sW a kI kL kZ u) (sT kI kL kZ))) (va_Qi (fun r (u' : sU) => (u.2.2 0 < 160 → r = nI (u.2.2 0) ∧ u' = s_name u) ∧ (¬ u.2.2 0 < 160 → r = -1 ∧ u' = u)) (fun u' t => va_P D vwA (sW a kI kL kZ u') t.heap) (sA a)) 0 0 (sA a) := by
  refine Met.ofW (cc := bT_make) (maxL := 5) (ret := (some .int)) (by decide +kernel) rfl ?_
  intro p e s m args below meth c s₁ B1 hml hv
  obtain ⟨rfl, hP, hK, hD0⟩ := hv
  have hx := B1.exec
  have hb := B1.bytes
  have hr := B1.returns
  have hA : ∀ w ∈ wA, w.before ([.ref (a 1), .int (nI 1), .int (-1), .int (-1)] : List Value).toArray s = true := fun w h => atoms_spec (ws := wT_make :: wA) B1.pre w (List.mem_cons_of_mem _ h)
  have hown : s.vm.findClass RcT = some m.cls := findClass_of_methodNamed B1.named
  have hlocks := B1.notSynchronized
  have hS : va_S (sA a) s.heap s.heap [] := va_S.rf
  have hl := lv_entry ([.ref (a 1), .int (nI 1), .int (-1), .int (-1)]) (n := 5) (Nat.le_of_ble_eq_true rfl)
  rw [lg_entry_eq]
  generalize (lg_sl ([.ref (a 1), .int (nI 1), .int (-1), .int (-1)]) ++ List.replicate (5 - (lg_sl ([.ref (a 1), .int (nI 1), .int (-1), .int (-1)])).length) Slot.unset).toArray = ls at hl ⊢
  have hl : lv_has ls 5 [(0, .ref (a 1)), (1, .int (nI 1)), (2, .int (-1)), (3, .int (-1))] := hl
  refine tq_gen (fun R Q hRe hQe => ?_)
  have hRf : 1 ≤ R.frames := by rw [hRe]; exact Nat.le_of_ble_eq_true rfl
  have hRl : 25 ≤ R.locals := by rw [hRe]; exact Nat.le_of_ble_eq_true rfl
  have hRc : 0 ≤ R.cells := by rw [hRe]; exact Nat.le_of_ble_eq_true rfl
  have hRs : 0 ≤ R.slots := by rw [hRe]; exact Nat.le_of_ble_eq_true rfl
  have hD := sA_D hD0
  refine lv_aload_n hx hb dT_make_0 rfl (lv_at hl 0 rfl) ?_
  refine gf_T_42 (v := .int (nI (u.2.2 0))) hx hb hA hown hK hP 1 rfl rfl dT_make_1 ?_
  refine lv_sipush (v := nI 160) hx hb dT_make_4 (by decide +kernel) ?_
  refine tq_lt hx hb dT_make_7 (tgt := 12) (by decide) (by omega) (by omega) (fun h7 => ?_) (fun h7 => ?_)
  · refine lv_aload_n hx hb dT_make_12 rfl (lv_at hl 0 rfl) ?_
    refine gf_T_42 (v := .int (nI (u.2.2 0))) hx hb hA hown hK hP 1 rfl rfl dT_make_13 ?_
    refine lv_istore (lv' := [(4, .int (nI (u.2.2 0))), (0, .ref (a 1)), (1, .int (nI 1)), (2, .int (-1)), (3, .int (-1))]) hx hb dT_make_16 hl (by decide) rfl (fun ls hl => ?_)
    refine lv_aload_n hx hb dT_make_18 rfl (lv_at hl 1 rfl) ?_
    refine lv_dup hx hb dT_make_19 rfl ?_
    refine gf_T_42 (v := .int (nI (u.2.2 0))) hx hb hA hown hK hP 1 rfl rfl dT_make_20 ?_
    refine lv_iconst (v := nI 1) hx hb dT_make_23 (by decide +kernel) ?_
    refine tq_iadd hx hb dT_make_24 ?_
    refine pf_T_42 (v := .int (nI ((u.2.2 0) + 1))) hx hb hA hown hK hP hD hS 1 rfl rfl rfl (Nat.le_of_ble_eq_true rfl) dT_make_25 (fun H locs hP hD hS => ?_)
    have hP : va_P D vwA (sW a kI kL kZ (u.1, u.2.1, va_up u.2.2 0 ((u.2.2 0) + 1))) H := hP
    have hD : va_D (sA a) (sW a kI kL kZ (u.1, u.2.1, va_up u.2.2 0 ((u.2.2 0) + 1))) := hD
    refine lv_aload_n hx hb dT_make_28 rfl (lv_at hl 1 rfl) ?_
    refine gf_T_9 (v := .ref (a 5)) hx hb hA hown hK hP 1 rfl rfl dT_make_29 ?_
    refine lv_iload hx hb dT_make_32 (lv_at hl 0 rfl) ?_
    refine lv_iload_n hx hb dT_make_34 rfl (lv_at hl 2 rfl) ?_
    refine tq_iast hx hb hK hP hD hS 5 0 rfl rfl (by omega) (by omega) dT_make_35 (fun H locs hP hD hS => ?_)
    have hP : va_P D vwA (sW a kI kL kZ (u.1, va_up u.2.1 0 (upd (u.2.1 0) (u.2.2 0) (nI 1)), va_up u.2.2 0 ((u.2.2 0) + 1))) H := hP
    have hD : va_D (sA a) (sW a kI kL kZ (u.1, va_up u.2.1 0 (upd (u.2.1 0) (u.2.2 0) (nI 1)), va_up u.2.2 0 ((u.2.2 0) + 1))) := hD
    refine lv_aload_n hx hb dT_make_36 rfl (lv_at hl 1 rfl) ?_
    refine gf_T_15 (v := .ref (a 6)) hx hb hA hown hK hP 1 rfl rfl dT_make_37 ?_
    refine lv_iload hx hb dT_make_40 (lv_at hl 0 rfl) ?_
    refine lv_iload_n hx hb dT_make_42 rfl (lv_at hl 3 rfl) ?_
    refine tq_iast hx hb hK hP hD hS 6 0 rfl rfl (by omega) (by omega) dT_make_43 (fun H locs hP hD hS => ?_)
    have hP : va_P D vwA (sW a kI kL kZ (u.1, va_up (va_up u.2.1 0 (upd (u.2.1 0) (u.2.2 0) (nI 1))) 1 (upd (u.2.1 1) (u.2.2 0) (-1)), va_up u.2.2 0 ((u.2.2 0) + 1))) H := hP
    have hD : va_D (sA a) (sW a kI kL kZ (u.1, va_up (va_up u.2.1 0 (upd (u.2.1 0) (u.2.2 0) (nI 1))) 1 (upd (u.2.1 1) (u.2.2 0) (-1)), va_up u.2.2 0 ((u.2.2 0) + 1))) := hD
    refine lv_aload_n hx hb dT_make_44 rfl (lv_at hl 1 rfl) ?_
    refine gf_T_18 (v := .ref (a 7)) hx hb hA hown hK hP 1 rfl rfl dT_make_45 ?_
    refine lv_iload hx hb dT_make_48 (lv_at hl 0 rfl) ?_
    refine lv_iload_n hx hb dT_make_50 rfl (lv_at hl 4 rfl) ?_
    refine tq_iast hx hb hK hP hD hS 7 0 rfl rfl (by omega) (by omega) dT_make_51 (fun H locs hP hD hS => ?_)
    have hP : va_P D vwA (sW a kI kL kZ (u.1, va_up (va_up (va_up u.2.1 0 (upd (u.2.1 0) (u.2.2 0) (nI 1))) 1 (upd (u.2.1 1) (u.2.2 0) (-1))) 2 (upd (u.2.1 2) (u.2.2 0) (-1)), va_up u.2.2 0 ((u.2.2 0) + 1))) H := hP
    have hD : va_D (sA a) (sW a kI kL kZ (u.1, va_up (va_up (va_up u.2.1 0 (upd (u.2.1 0) (u.2.2 0) (nI 1))) 1 (upd (u.2.1 1) (u.2.2 0) (-1))) 2 (upd (u.2.1 2) (u.2.2 0) (-1)), va_up u.2.2 0 ((u.2.2 0) + 1))) := hD
    refine lv_iload_n hx hb dT_make_52 rfl (lv_at hl 2 rfl) ?_
    refine lv_iconst (v := nI 1) hx hb dT_make_53 (by decide +kernel) ?_
    refine tq_ne hx hb dT_make_54 (tgt := 70) (by decide) (by omega) (by omega) (fun h54 => ?_) (fun h54 => ?_)
    · exact absurd rfl h54
    · refine lv_aload_n hx hb dT_make_57 rfl (lv_at hl 1 rfl) ?_
      refine lv_dup hx hb dT_make_58 rfl ?_
      refine gf_T_46 (v := .int (nI (u.2.2 1))) hx hb hA hown hK hP 1 rfl rfl dT_make_59 ?_
      refine lv_iconst (v := nI 1) hx hb dT_make_62 (by decide +kernel) ?_
      refine tq_iadd hx hb dT_make_63 ?_
      refine pf_T_46 (v := .int (nI ((u.2.2 1) + 1))) hx hb hA hown hK hP hD hS 1 rfl rfl rfl (Nat.le_of_ble_eq_true rfl) dT_make_64 (fun H locs hP hD hS => ?_)
      have hP : va_P D vwA (sW a kI kL kZ (u.1, va_up (va_up (va_up u.2.1 0 (upd (u.2.1 0) (u.2.2 0) (nI 1))) 1 (upd (u.2.1 1) (u.2.2 0) (-1))) 2 (upd (u.2.1 2) (u.2.2 0) (-1)), va_up (va_up u.2.2 0 ((u.2.2 0) + 1)) 1 ((u.2.2 1) + 1))) H := hP
      have hD : va_D (sA a) (sW a kI kL kZ (u.1, va_up (va_up (va_up u.2.1 0 (upd (u.2.1 0) (u.2.2 0) (nI 1))) 1 (upd (u.2.1 1) (u.2.2 0) (-1))) 2 (upd (u.2.1 2) (u.2.2 0) (-1)), va_up (va_up u.2.2 0 ((u.2.2 0) + 1)) 1 ((u.2.2 1) + 1))) := hD
      refine lv_goto hx hb dT_make_67 (tgt := 129) (by decide) ?_
      refine lv_iload hx hb dT_make_129 (lv_at hl 0 rfl) ?_
      subst hQe
      exact W.iret (v := nI (u.2.2 0)) hx hb hr (fun t ht hW => ⟨⟨_, (u.1, va_up (va_up (va_up u.2.1 0 (upd (u.2.1 0) (u.2.2 0) (nI 1))) 1 (upd (u.2.1 1) (u.2.2 0) (-1))) 2 (upd (u.2.1 2) (u.2.2 0) (-1)), va_up (va_up u.2.2 0 ((u.2.2 0) + 1)) 1 ((u.2.2 1) + 1)), rfl, ⟨fun _ => ⟨rfl, rfl⟩, fun z => by omega⟩, tq_hp ht hP⟩, hS.F ht⟩) hS.2.2 dT_make_131
  · refine lv_iconst (v := (-1)) hx hb dT_make_10 (by decide +kernel) ?_
    subst hQe
    exact W.iret (v := (-1)) hx hb hr (fun t ht hW => ⟨⟨_, u, rfl, ⟨fun z => by omega, fun _ => ⟨rfl, rfl⟩⟩, tq_hp ht hP⟩, hS.F ht⟩) hS.2.2 dT_make_11
set_option maxHeartbeats 4000000 in
set_option maxRecDepth 100000 in
/-- c_make2 -/
theorem c_make2 (l : Launch) (D : va_G) (a : Nat → Nat) (kI kL kZ : ClassId) (u : sU) (hN : u.2.2 0 ≤ 160) (d d2 : Nat) (hd : d < 160) (hd2 : d2 < 160) : Met l yT_make (wT_make :: wA) ({ frames := 1, cells := 0, slots := 0, locals := 25 }) (va_Pc [.ref (a 1), .int (nI 2), .int (nI d), .int (nI d2)] (tq_wB D vwA (sW a kI kL kZ u) (sT kI kL kZ))) (va_Qi (fun r (u' : sU) => (u.2.2 0 < 160 → r = nI (u.2.2 0) ∧ u' = s_both u d d2) ∧ (¬ u.2.2 0 < 160 → r = -1 ∧ u' = u)) (fun u' t => va_P D vwA (sW a kI kL kZ u') t.heap) (sA a)) 0 0 (sA a) := by
  refine Met.ofW (cc := bT_make) (maxL := 5) (ret := (some .int)) (by decide +kernel) rfl ?_
  intro p e s m args below meth c s₁ B1 hml hv
  obtain ⟨rfl, hP, hK, hD0⟩ := hv
  have hx := B1.exec
  have hb := B1.bytes
  have hr := B1.returns
  have hA : ∀ w ∈ wA, w.before ([.ref (a 1), .int (nI 2), .int (nI d), .int (nI d2)] : List Value).toArray s = true := fun w h => atoms_spec (ws := wT_make :: wA) B1.pre w (List.mem_cons_of_mem _ h)
  have hown : s.vm.findClass RcT = some m.cls := findClass_of_methodNamed B1.named
  have hlocks := B1.notSynchronized
  have hS : va_S (sA a) s.heap s.heap [] := va_S.rf
  have hl := lv_entry ([.ref (a 1), .int (nI 2), .int (nI d), .int (nI d2)]) (n := 5) (Nat.le_of_ble_eq_true rfl)
  rw [lg_entry_eq]
  generalize (lg_sl ([.ref (a 1), .int (nI 2), .int (nI d), .int (nI d2)]) ++ List.replicate (5 - (lg_sl ([.ref (a 1), .int (nI 2), .int (nI d), .int (nI d2)])).length) Slot.unset).toArray = ls at hl ⊢
  have hl : lv_has ls 5 [(0, .ref (a 1)), (1, .int (nI 2)), (2, .int (nI d)), (3, .int (nI d2))] := hl
  refine tq_gen (fun R Q hRe hQe => ?_)
  have hRf : 1 ≤ R.frames := by rw [hRe]; exact Nat.le_of_ble_eq_true rfl
  have hRl : 25 ≤ R.locals := by rw [hRe]; exact Nat.le_of_ble_eq_true rfl
  have hRc : 0 ≤ R.cells := by rw [hRe]; exact Nat.le_of_ble_eq_true rfl
  have hRs : 0 ≤ R.slots := by rw [hRe]; exact Nat.le_of_ble_eq_true rfl
  have hD := sA_D hD0
  refine lv_aload_n hx hb dT_make_0 rfl (lv_at hl 0 rfl) ?_
  refine gf_T_42 (v := .int (nI (u.2.2 0))) hx hb hA hown hK hP 1 rfl rfl dT_make_1 ?_
  refine lv_sipush (v := nI 160) hx hb dT_make_4 (by decide +kernel) ?_
  refine tq_lt hx hb dT_make_7 (tgt := 12) (by decide) (by omega) (by omega) (fun h7 => ?_) (fun h7 => ?_)
  · refine lv_aload_n hx hb dT_make_12 rfl (lv_at hl 0 rfl) ?_
    refine gf_T_42 (v := .int (nI (u.2.2 0))) hx hb hA hown hK hP 1 rfl rfl dT_make_13 ?_
    refine lv_istore (lv' := [(4, .int (nI (u.2.2 0))), (0, .ref (a 1)), (1, .int (nI 2)), (2, .int (nI d)), (3, .int (nI d2))]) hx hb dT_make_16 hl (by decide) rfl (fun ls hl => ?_)
    refine lv_aload_n hx hb dT_make_18 rfl (lv_at hl 1 rfl) ?_
    refine lv_dup hx hb dT_make_19 rfl ?_
    refine gf_T_42 (v := .int (nI (u.2.2 0))) hx hb hA hown hK hP 1 rfl rfl dT_make_20 ?_
    refine lv_iconst (v := nI 1) hx hb dT_make_23 (by decide +kernel) ?_
    refine tq_iadd hx hb dT_make_24 ?_
    refine pf_T_42 (v := .int (nI ((u.2.2 0) + 1))) hx hb hA hown hK hP hD hS 1 rfl rfl rfl (Nat.le_of_ble_eq_true rfl) dT_make_25 (fun H locs hP hD hS => ?_)
    have hP : va_P D vwA (sW a kI kL kZ (u.1, u.2.1, va_up u.2.2 0 ((u.2.2 0) + 1))) H := hP
    have hD : va_D (sA a) (sW a kI kL kZ (u.1, u.2.1, va_up u.2.2 0 ((u.2.2 0) + 1))) := hD
    refine lv_aload_n hx hb dT_make_28 rfl (lv_at hl 1 rfl) ?_
    refine gf_T_9 (v := .ref (a 5)) hx hb hA hown hK hP 1 rfl rfl dT_make_29 ?_
    refine lv_iload hx hb dT_make_32 (lv_at hl 0 rfl) ?_
    refine lv_iload_n hx hb dT_make_34 rfl (lv_at hl 2 rfl) ?_
    refine tq_iast hx hb hK hP hD hS 5 0 rfl rfl (by omega) (by omega) dT_make_35 (fun H locs hP hD hS => ?_)
    have hP : va_P D vwA (sW a kI kL kZ (u.1, va_up u.2.1 0 (upd (u.2.1 0) (u.2.2 0) (nI 2)), va_up u.2.2 0 ((u.2.2 0) + 1))) H := hP
    have hD : va_D (sA a) (sW a kI kL kZ (u.1, va_up u.2.1 0 (upd (u.2.1 0) (u.2.2 0) (nI 2)), va_up u.2.2 0 ((u.2.2 0) + 1))) := hD
    refine lv_aload_n hx hb dT_make_36 rfl (lv_at hl 1 rfl) ?_
    refine gf_T_15 (v := .ref (a 6)) hx hb hA hown hK hP 1 rfl rfl dT_make_37 ?_
    refine lv_iload hx hb dT_make_40 (lv_at hl 0 rfl) ?_
    refine lv_iload_n hx hb dT_make_42 rfl (lv_at hl 3 rfl) ?_
    refine tq_iast hx hb hK hP hD hS 6 0 rfl rfl (by omega) (by omega) dT_make_43 (fun H locs hP hD hS => ?_)
    have hP : va_P D vwA (sW a kI kL kZ (u.1, va_up (va_up u.2.1 0 (upd (u.2.1 0) (u.2.2 0) (nI 2))) 1 (upd (u.2.1 1) (u.2.2 0) (nI d)), va_up u.2.2 0 ((u.2.2 0) + 1))) H := hP
    have hD : va_D (sA a) (sW a kI kL kZ (u.1, va_up (va_up u.2.1 0 (upd (u.2.1 0) (u.2.2 0) (nI 2))) 1 (upd (u.2.1 1) (u.2.2 0) (nI d)), va_up u.2.2 0 ((u.2.2 0) + 1))) := hD
    refine lv_aload_n hx hb dT_make_44 rfl (lv_at hl 1 rfl) ?_
    refine gf_T_18 (v := .ref (a 7)) hx hb hA hown hK hP 1 rfl rfl dT_make_45 ?_
    refine lv_iload hx hb dT_make_48 (lv_at hl 0 rfl) ?_
    refine lv_iload_n hx hb dT_make_50 rfl (lv_at hl 4 rfl) ?_
    refine tq_iast hx hb hK hP hD hS 7 0 rfl rfl (by omega) (by omega) dT_make_51 (fun H locs hP hD hS => ?_)
    have hP : va_P D vwA (sW a kI kL kZ (u.1, va_up (va_up (va_up u.2.1 0 (upd (u.2.1 0) (u.2.2 0) (nI 2))) 1 (upd (u.2.1 1) (u.2.2 0) (nI d))) 2 (upd (u.2.1 2) (u.2.2 0) (nI d2)), va_up u.2.2 0 ((u.2.2 0) + 1))) H := hP
    have hD : va_D (sA a) (sW a kI kL kZ (u.1, va_up (va_up (va_up u.2.1 0 (upd (u.2.1 0) (u.2.2 0) (nI 2))) 1 (upd (u.2.1 1) (u.2.2 0) (nI d))) 2 (upd (u.2.1 2) (u.2.2 0) (nI d2)), va_up u.2.2 0 ((u.2.2 0) + 1))) := hD
    refine lv_iload_n hx hb dT_make_52 rfl (lv_at hl 2 rfl) ?_
    refine lv_iconst (v := nI 1) hx hb dT_make_53 (by decide +kernel) ?_
    refine tq_ne hx hb dT_make_54 (tgt := 70) (by decide) (by omega) (by omega) (fun h54 => ?_) (fun h54 => ?_)
    · refine lv_iload_n hx hb dT_make_70 rfl (lv_at hl 2 rfl) ?_
      refine lv_iconst (v := nI 2) hx hb dT_make_71 (by decide +kernel) ?_
      refine tq_ne hx hb dT_make_72 (tgt := 100) (by decide) (by omega) (by omega) (fun h72 => ?_) (fun h72 => ?_)
      · exact absurd rfl h72
      · refine lv_aload_n hx hb dT_make_75 rfl (lv_at hl 1 rfl) ?_
        refine gf_T_29 (v := .ref (a 28)) hx hb hA hown hK hP 1 rfl rfl dT_make_76 ?_
        refine lv_iload_n hx hb dT_make_79 rfl (lv_at hl 3 rfl) ?_
        refine lv_iload hx hb dT_make_80 (lv_at hl 0 rfl) ?_
        refine k_put ⟨hx, hb, hml, hown, hA⟩ (kw_T_53 hA rfl rfl ⟨Nat.le_trans (Nat.le_of_ble_eq_true rfl) hRf, Nat.le_trans (Nat.le_of_ble_eq_true rfl) hRl⟩) hK hP hD hS 28 29 1 rfl rfl (by decide) rfl (by omega) (by omega) (by decide) (by decide) hl.1 (Nat.le_of_ble_eq_true rfl) ⟨by omega, by omega⟩ dT_make_82 (fun H locs hP hD hS => ?_)
        have hP : va_P D vwA (sW a kI kL kZ (va_up u.1 7 (tm_put (u.1 7) d (u.2.2 0)), va_up (va_up (va_up u.2.1 0 (upd (u.2.1 0) (u.2.2 0) (nI 2))) 1 (upd (u.2.1 1) (u.2.2 0) (nI d))) 2 (upd (u.2.1 2) (u.2.2 0) (nI d2)), va_up u.2.2 0 ((u.2.2 0) + 1))) H := hP
        have hD : va_D (sA a) (sW a kI kL kZ (va_up u.1 7 (tm_put (u.1 7) d (u.2.2 0)), va_up (va_up (va_up u.2.1 0 (upd (u.2.1 0) (u.2.2 0) (nI 2))) 1 (upd (u.2.1 1) (u.2.2 0) (nI d))) 2 (upd (u.2.1 2) (u.2.2 0) (nI d2)), va_up u.2.2 0 ((u.2.2 0) + 1))) := hD
        refine lv_pop hx hb dT_make_85 rfl ?_
        refine lv_aload_n hx hb dT_make_86 rfl (lv_at hl 1 rfl) ?_
        refine gf_T_29 (v := .ref (a 28)) hx hb hA hown hK hP 1 rfl rfl dT_make_87 ?_
        refine lv_iload_n hx hb dT_make_90 rfl (lv_at hl 4 rfl) ?_
        refine lv_iload hx hb dT_make_91 (lv_at hl 0 rfl) ?_
        refine k_put ⟨hx, hb, hml, hown, hA⟩ (kw_T_53 hA rfl rfl ⟨Nat.le_trans (Nat.le_of_ble_eq_true rfl) hRf, Nat.le_trans (Nat.le_of_ble_eq_true rfl) hRl⟩) hK hP hD hS 28 29 1 rfl rfl (by decide) rfl (by omega) (by omega) (by decide) (by decide) hl.1 (Nat.le_of_ble_eq_true rfl) ⟨by omega, by omega⟩ dT_make_93 (fun H locs hP hD hS => ?_)
        have hP : va_P D vwA (sW a kI kL kZ (va_up u.1 7 (tm_put (tm_put (u.1 7) d (u.2.2 0)) d2 (u.2.2 0)), va_up (va_up (va_up u.2.1 0 (upd (u.2.1 0) (u.2.2 0) (nI 2))) 1 (upd (u.2.1 1) (u.2.2 0) (nI d))) 2 (upd (u.2.1 2) (u.2.2 0) (nI d2)), va_up u.2.2 0 ((u.2.2 0) + 1))) H := hP
        have hD : va_D (sA a) (sW a kI kL kZ (va_up u.1 7 (tm_put (tm_put (u.1 7) d (u.2.2 0)) d2 (u.2.2 0)), va_up (va_up (va_up u.2.1 0 (upd (u.2.1 0) (u.2.2 0) (nI 2))) 1 (upd (u.2.1 1) (u.2.2 0) (nI d))) 2 (upd (u.2.1 2) (u.2.2 0) (nI d2)), va_up u.2.2 0 ((u.2.2 0) + 1))) := hD
        refine lv_pop hx hb dT_make_96 rfl ?_
        refine lv_goto hx hb dT_make_97 (tgt := 129) (by decide) ?_
        refine lv_iload hx hb dT_make_129 (lv_at hl 0 rfl) ?_
        subst hQe
        exact W.iret (v := nI (u.2.2 0)) hx hb hr (fun t ht hW => ⟨⟨_, (va_up u.1 7 (tm_put (tm_put (u.1 7) d (u.2.2 0)) d2 (u.2.2 0)), va_up (va_up (va_up u.2.1 0 (upd (u.2.1 0) (u.2.2 0) (nI 2))) 1 (upd (u.2.1 1) (u.2.2 0) (nI d))) 2 (upd (u.2.1 2) (u.2.2 0) (nI d2)), va_up u.2.2 0 ((u.2.2 0) + 1)), rfl, ⟨fun _ => ⟨rfl, rfl⟩, fun z => by omega⟩, tq_hp ht hP⟩, hS.F ht⟩) hS.2.2 dT_make_131
    · exact absurd h54 (by decide)
  · refine lv_iconst (v := (-1)) hx hb dT_make_10 (by decide +kernel) ?_
    subst hQe
    exact W.iret (v := (-1)) hx hb hr (fun t ht hW => ⟨⟨_, u, rfl, ⟨fun z => by omega, fun _ => ⟨rfl, rfl⟩⟩, tq_hp ht hP⟩, hS.F ht⟩) hS.2.2 dT_make_11
set_option maxHeartbeats 4000000 in
set_option maxRecDepth 100000 in
/-- c_make3 -/
theorem c_make3 (l : Launch) (D : va_G) (a : Nat → Nat) (kI kL kZ : ClassId) (u : sU) (hN : u.2.2 0 ≤ 160) (i d : Nat) (hi : i < 6) (hd : d < 160) : Met l yT_make (wT_make :: wA) ({ frames := 1, cells := 0, slots := 0, locals := 25 }) (va_Pc [.ref (a 1), .int (nI 3), .int (nI i), .int (nI d)] (tq_wB D vwA (sW a kI kL kZ u) (sT kI kL kZ))) (va_Qi (fun r (u' : sU) => (u.2.2 0 < 160 → r = nI (u.2.2 0) ∧ u' = s_some u i d) ∧ (¬ u.2.2 0 < 160 → r = -1 ∧ u' = u)) (fun u' t => va_P D vwA (sW a kI kL kZ u') t.heap) (sA a)) 0 0 (sA a) := by
  refine Met.ofW (cc := bT_make) (maxL := 5) (ret := (some .int)) (by decide +kernel) rfl ?_
  intro p e s m args below meth c s₁ B1 hml hv
  obtain ⟨rfl, hP, hK, hD0⟩ := hv
  have hx := B1.exec
  have hb := B1.bytes
  have hr := B1.returns
  have hA : ∀ w ∈ wA, w.before ([.ref (a 1), .int (nI 3), .int (nI i), .int (nI d)] : List Value).toArray s = true := fun w h => atoms_spec (ws := wT_make :: wA) B1.pre w (List.mem_cons_of_mem _ h)
  have hown : s.vm.findClass RcT = some m.cls := findClass_of_methodNamed B1.named
  have hlocks := B1.notSynchronized
  have hS : va_S (sA a) s.heap s.heap [] := va_S.rf
  have hl := lv_entry ([.ref (a 1), .int (nI 3), .int (nI i), .int (nI d)]) (n := 5) (Nat.le_of_ble_eq_true rfl)
  rw [lg_entry_eq]
  generalize (lg_sl ([.ref (a 1), .int (nI 3), .int (nI i), .int (nI d)]) ++ List.replicate (5 - (lg_sl ([.ref (a 1), .int (nI 3), .int (nI i), .int (nI d)])).length) Slot.unset).toArray = ls at hl ⊢
  have hl : lv_has ls 5 [(0, .ref (a 1)), (1, .int (nI 3)), (2, .int (nI i)), (3, .int (nI d))] := hl
  refine tq_gen (fun R Q hRe hQe => ?_)
  have hRf : 1 ≤ R.frames := by rw [hRe]; exact Nat.le_of_ble_eq_true rfl
  have hRl : 25 ≤ R.locals := by rw [hRe]; exact Nat.le_of_ble_eq_true rfl
  have hRc : 0 ≤ R.cells := by rw [hRe]; exact Nat.le_of_ble_eq_true rfl
  have hRs : 0 ≤ R.slots := by rw [hRe]; exact Nat.le_of_ble_eq_true rfl
  have hD := sA_D hD0
  refine lv_aload_n hx hb dT_make_0 rfl (lv_at hl 0 rfl) ?_
  refine gf_T_42 (v := .int (nI (u.2.2 0))) hx hb hA hown hK hP 1 rfl rfl dT_make_1 ?_
  refine lv_sipush (v := nI 160) hx hb dT_make_4 (by decide +kernel) ?_
  refine tq_lt hx hb dT_make_7 (tgt := 12) (by decide) (by omega) (by omega) (fun h7 => ?_) (fun h7 => ?_)
  · refine lv_aload_n hx hb dT_make_12 rfl (lv_at hl 0 rfl) ?_
    refine gf_T_42 (v := .int (nI (u.2.2 0))) hx hb hA hown hK hP 1 rfl rfl dT_make_13 ?_
    refine lv_istore (lv' := [(4, .int (nI (u.2.2 0))), (0, .ref (a 1)), (1, .int (nI 3)), (2, .int (nI i)), (3, .int (nI d))]) hx hb dT_make_16 hl (by decide) rfl (fun ls hl => ?_)
    refine lv_aload_n hx hb dT_make_18 rfl (lv_at hl 1 rfl) ?_
    refine lv_dup hx hb dT_make_19 rfl ?_
    refine gf_T_42 (v := .int (nI (u.2.2 0))) hx hb hA hown hK hP 1 rfl rfl dT_make_20 ?_
    refine lv_iconst (v := nI 1) hx hb dT_make_23 (by decide +kernel) ?_
    refine tq_iadd hx hb dT_make_24 ?_
    refine pf_T_42 (v := .int (nI ((u.2.2 0) + 1))) hx hb hA hown hK hP hD hS 1 rfl rfl rfl (Nat.le_of_ble_eq_true rfl) dT_make_25 (fun H locs hP hD hS => ?_)
    have hP : va_P D vwA (sW a kI kL kZ (u.1, u.2.1, va_up u.2.2 0 ((u.2.2 0) + 1))) H := hP
    have hD : va_D (sA a) (sW a kI kL kZ (u.1, u.2.1, va_up u.2.2 0 ((u.2.2 0) + 1))) := hD
    refine lv_aload_n hx hb dT_make_28 rfl (lv_at hl 1 rfl) ?_
    refine gf_T_9 (v := .ref (a 5)) hx hb hA hown hK hP 1 rfl rfl dT_make_29 ?_
    refine lv_iload hx hb dT_make_32 (lv_at hl 0 rfl) ?_
    refine lv_iload_n hx hb dT_make_34 rfl (lv_at hl 2 rfl) ?_
    refine tq_iast hx hb hK hP hD hS 5 0 rfl rfl (by omega) (by omega) dT_make_35 (fun H locs hP hD hS => ?_)
    have hP : va_P D vwA (sW a kI kL kZ (u.1, va_up u.2.1 0 (upd (u.2.1 0) (u.2.2 0) (nI 3)), va_up u.2.2 0 ((u.2.2 0) + 1))) H := hP
    have hD : va_D (sA a) (sW a kI kL kZ (u.1, va_up u.2.1 0 (upd (u.2.1 0) (u.2.2 0) (nI 3)), va_up u.2.2 0 ((u.2.2 0) + 1))) := hD
    refine lv_aload_n hx hb dT_make_36 rfl (lv_at hl 1 rfl) ?_
    refine gf_T_15 (v := .ref (a 6)) hx hb hA hown hK hP 1 rfl rfl dT_make_37 ?_
    refine lv_iload hx hb dT_make_40 (lv_at hl 0 rfl) ?_
    refine lv_iload_n hx hb dT_make_42 rfl (lv_at hl 3 rfl) ?_
    refine tq_iast hx hb hK hP hD hS 6 0 rfl rfl (by omega) (by omega) dT_make_43 (fun H locs hP hD hS => ?_)
    have hP : va_P D vwA (sW a kI kL kZ (u.1, va_up (va_up u.2.1 0 (upd (u.2.1 0) (u.2.2 0) (nI 3))) 1 (upd (u.2.1 1) (u.2.2 0) (nI i)), va_up u.2.2 0 ((u.2.2 0) + 1))) H := hP
    have hD : va_D (sA a) (sW a kI kL kZ (u.1, va_up (va_up u.2.1 0 (upd (u.2.1 0) (u.2.2 0) (nI 3))) 1 (upd (u.2.1 1) (u.2.2 0) (nI i)), va_up u.2.2 0 ((u.2.2 0) + 1))) := hD
    refine lv_aload_n hx hb dT_make_44 rfl (lv_at hl 1 rfl) ?_
    refine gf_T_18 (v := .ref (a 7)) hx hb hA hown hK hP 1 rfl rfl dT_make_45 ?_
    refine lv_iload hx hb dT_make_48 (lv_at hl 0 rfl) ?_
    refine lv_iload_n hx hb dT_make_50 rfl (lv_at hl 4 rfl) ?_
    refine tq_iast hx hb hK hP hD hS 7 0 rfl rfl (by omega) (by omega) dT_make_51 (fun H locs hP hD hS => ?_)
    have hP : va_P D vwA (sW a kI kL kZ (u.1, va_up (va_up (va_up u.2.1 0 (upd (u.2.1 0) (u.2.2 0) (nI 3))) 1 (upd (u.2.1 1) (u.2.2 0) (nI i))) 2 (upd (u.2.1 2) (u.2.2 0) (nI d)), va_up u.2.2 0 ((u.2.2 0) + 1))) H := hP
    have hD : va_D (sA a) (sW a kI kL kZ (u.1, va_up (va_up (va_up u.2.1 0 (upd (u.2.1 0) (u.2.2 0) (nI 3))) 1 (upd (u.2.1 1) (u.2.2 0) (nI i))) 2 (upd (u.2.1 2) (u.2.2 0) (nI d)), va_up u.2.2 0 ((u.2.2 0) + 1))) := hD
    refine lv_iload_n hx hb dT_make_52 rfl (lv_at hl 2 rfl) ?_
    refine lv_iconst (v := nI 1) hx hb dT_make_53 (by decide +kernel) ?_
    refine tq_ne hx hb dT_make_54 (tgt := 70) (by decide) (by omega) (by omega) (fun h54 => ?_) (fun h54 => ?_)
    · refine lv_iload_n hx hb dT_make_70 rfl (lv_at hl 2 rfl) ?_
      refine lv_iconst (v := nI 2) hx hb dT_make_71 (by decide +kernel) ?_
      refine tq_ne hx hb dT_make_72 (tgt := 100) (by decide) (by omega) (by omega) (fun h72 => ?_) (fun h72 => ?_)
      · refine lv_iload_n hx hb dT_make_100 rfl (lv_at hl 2 rfl) ?_
        refine lv_iconst (v := nI 3) hx hb dT_make_101 (by decide +kernel) ?_
        refine tq_ne hx hb dT_make_102 (tgt := 129) (by decide) (by omega) (by omega) (fun h102 => ?_) (fun h102 => ?_)
        · exact absurd rfl h102
        · refine lv_aload_n hx hb dT_make_105 rfl (lv_at hl 1 rfl) ?_
          refine gf_T_21 (v := .ref (a 8)) hx hb hA hown hK hP 1 rfl rfl dT_make_106 ?_
          refine lv_iload_n hx hb dT_make_109 rfl (lv_at hl 3 rfl) ?_
          refine lv_sipush (v := nI 160) hx hb dT_make_110 (by decide +kernel) ?_
          refine tq_imul hx hb dT_make_113 ?_
          refine lv_iload_n hx hb dT_make_114 rfl (lv_at hl 4 rfl) ?_
          refine tq_iadd hx hb dT_make_115 ?_
          refine lv_iload hx hb dT_make_116 (lv_at hl 0 rfl) ?_
          refine tq_iast hx hb hK hP hD hS 8 0 rfl rfl (by omega) (by omega) dT_make_118 (fun H locs hP hD hS => ?_)
          have hP : va_P D vwA (sW a kI kL kZ (u.1, va_up (va_up (va_up (va_up u.2.1 0 (upd (u.2.1 0) (u.2.2 0) (nI 3))) 1 (upd (u.2.1 1) (u.2.2 0) (nI i))) 2 (upd (u.2.1 2) (u.2.2 0) (nI d))) 3 (upd (u.2.1 3) ((i * 160) + d) (nI (u.2.2 0))), va_up u.2.2 0 ((u.2.2 0) + 1))) H := hP
          have hD : va_D (sA a) (sW a kI kL kZ (u.1, va_up (va_up (va_up (va_up u.2.1 0 (upd (u.2.1 0) (u.2.2 0) (nI 3))) 1 (upd (u.2.1 1) (u.2.2 0) (nI i))) 2 (upd (u.2.1 2) (u.2.2 0) (nI d))) 3 (upd (u.2.1 3) ((i * 160) + d) (nI (u.2.2 0))), va_up u.2.2 0 ((u.2.2 0) + 1))) := hD
          refine lv_aload_n hx hb dT_make_119 rfl (lv_at hl 1 rfl) ?_
          refine gf_T_33 (v := .ref (a 30)) hx hb hA hown hK hP 1 rfl rfl dT_make_120 ?_
          refine lv_iload_n hx hb dT_make_123 rfl (lv_at hl 3 rfl) ?_
          refine lv_iload_n hx hb dT_make_124 rfl (lv_at hl 4 rfl) ?_
          refine k_put ⟨hx, hb, hml, hown, hA⟩ (kw_T_53 hA rfl rfl ⟨Nat.le_trans (Nat.le_of_ble_eq_true rfl) hRf, Nat.le_trans (Nat.le_of_ble_eq_true rfl) hRl⟩) hK hP hD hS 30 31 1 rfl rfl (by decide) rfl (by omega) (by omega) (by decide) (by decide) hl.1 (Nat.le_of_ble_eq_true rfl) ⟨by omega, by omega⟩ dT_make_125 (fun H locs hP hD hS => ?_)
          have hP : va_P D vwA (sW a kI kL kZ (va_up u.1 8 (tm_put (u.1 8) i d), va_up (va_up (va_up (va_up u.2.1 0 (upd (u.2.1 0) (u.2.2 0) (nI 3))) 1 (upd (u.2.1 1) (u.2.2 0) (nI i))) 2 (upd (u.2.1 2) (u.2.2 0) (nI d))) 3 (upd (u.2.1 3) ((i * 160) + d) (nI (u.2.2 0))), va_up u.2.2 0 ((u.2.2 0) + 1))) H := hP
          have hD : va_D (sA a) (sW a kI kL kZ (va_up u.1 8 (tm_put (u.1 8) i d), va_up (va_up (va_up (va_up u.2.1 0 (upd (u.2.1 0) (u.2.2 0) (nI 3))) 1 (upd (u.2.1 1) (u.2.2 0) (nI i))) 2 (upd (u.2.1 2) (u.2.2 0) (nI d))) 3 (upd (u.2.1 3) ((i * 160) + d) (nI (u.2.2 0))), va_up u.2.2 0 ((u.2.2 0) + 1))) := hD
          refine lv_pop hx hb dT_make_128 rfl ?_
          refine lv_iload hx hb dT_make_129 (lv_at hl 0 rfl) ?_
          subst hQe
          exact W.iret (v := nI (u.2.2 0)) hx hb hr (fun t ht hW => ⟨⟨_, (va_up u.1 8 (tm_put (u.1 8) i d), va_up (va_up (va_up (va_up u.2.1 0 (upd (u.2.1 0) (u.2.2 0) (nI 3))) 1 (upd (u.2.1 1) (u.2.2 0) (nI i))) 2 (upd (u.2.1 2) (u.2.2 0) (nI d))) 3 (upd (u.2.1 3) ((i * 160) + d) (nI (u.2.2 0))), va_up u.2.2 0 ((u.2.2 0) + 1)), rfl, ⟨fun _ => ⟨rfl, rfl⟩, fun z => by omega⟩, tq_hp ht hP⟩, hS.F ht⟩) hS.2.2 dT_make_131
      · exact absurd h72 (by decide)
    · exact absurd h54 (by decide)
  · refine lv_iconst (v := (-1)) hx hb dT_make_10 (by decide +kernel) ?_
    subst hQe
    exact W.iret (v := (-1)) hx hb hr (fun t ht hW => ⟨⟨_, u, rfl, ⟨fun z => by omega, fun _ => ⟨rfl, rfl⟩⟩, tq_hp ht hP⟩, hS.F ht⟩) hS.2.2 dT_make_11
end
section
theorem dC_init_0 : decode bC_init 0 = .ok (.aload_n 0, 1) := by decide +kernel
theorem dC_init_1 : decode bC_init 1 = .ok (.invokespecial 5, 3) := by decide +kernel
theorem dC_init_4 : decode bC_init 4 = .ok (.aload_n 0, 1) := by decide +kernel
theorem dC_init_5 : decode bC_init 5 = .ok (.aload_n 1, 1) := by decide +kernel
theorem dC_init_6 : decode bC_init 6 = .ok (.putfield 11, 3) := by decide +kernel
theorem dC_init_9 : decode bC_init 9 = .ok (.aload_n 0, 1) := by decide +kernel
theorem dC_init_10 : decode bC_init 10 = .ok (.aload_n 2, 1) := by decide +kernel
theorem dC_init_11 : decode bC_init 11 = .ok (.putfield 15, 3) := by decide +kernel
theorem dC_init_14 : decode bC_init 14 = .ok (.aload_n 0, 1) := by decide +kernel
theorem dC_init_15 : decode bC_init 15 = .ok (.new 19, 3) := by decide +kernel
theorem dC_init_18 : decode bC_init 18 = .ok (.dup, 1) := by decide +kernel
theorem dC_init_19 : decode bC_init 19 = .ok (.sipush 1120, 3) := by decide +kernel
theorem dC_init_22 : decode bC_init 22 = .ok (.sipush 160, 3) := by decide +kernel
theorem dC_init_25 : decode bC_init 25 = .ok (.invokespecial 21, 3) := by decide +kernel
theorem dC_init_28 : decode bC_init 28 = .ok (.putfield 24, 3) := by decide +kernel
theorem dC_init_31 : decode bC_init 31 = .ok (.aload_n 0, 1) := by decide +kernel
theorem dC_init_32 : decode bC_init 32 = .ok (.new 19, 3) := by decide +kernel
theorem dC_init_35 : decode bC_init 35 = .ok (.dup, 1) := by decide +kernel
theorem dC_init_36 : decode bC_init 36 = .ok (.sipush 1120, 3) := by decide +kernel
theorem dC_init_39 : decode bC_init 39 = .ok (.sipush 160, 3) := by decide +kernel
theorem dC_init_42 : decode bC_init 42 = .ok (.invokespecial 21, 3) := by decide +kernel
theorem dC_init_45 : decode bC_init 45 = .ok (.putfield 28, 3) := by decide +kernel
theorem dC_init_48 : decode bC_init 48 = .ok (.aload_n 0, 1) := by decide +kernel
theorem dC_init_49 : decode bC_init 49 = .ok (.new 19, 3) := by decide +kernel
theorem dC_init_52 : decode bC_init 52 = .ok (.dup, 1) := by decide +kernel
theorem dC_init_53 : decode bC_init 53 = .ok (.sipush 1120, 3) := by decide +kernel
theorem dC_init_56 : decode bC_init 56 = .ok (.sipush 160, 3) := by decide +kernel
theorem dC_init_59 : decode bC_init 59 = .ok (.invokespecial 21, 3) := by decide +kernel
theorem dC_init_62 : decode bC_init 62 = .ok (.putfield 31, 3) := by decide +kernel
theorem dC_init_65 : decode bC_init 65 = .ok (.aload_n 0, 1) := by decide +kernel
theorem dC_init_66 : decode bC_init 66 = .ok (.new 19, 3) := by decide +kernel
theorem dC_init_69 : decode bC_init 69 = .ok (.dup, 1) := by decide +kernel
theorem dC_init_70 : decode bC_init 70 = .ok (.iconst 1, 1) := by decide +kernel
theorem dC_init_71 : decode bC_init 71 = .ok (.sipush 1120, 3) := by decide +kernel
theorem dC_init_74 : decode bC_init 74 = .ok (.invokespecial 21, 3) := by decide +kernel
theorem dC_init_77 : decode bC_init 77 = .ok (.putfield 34, 3) := by decide +kernel
theorem dC_init_80 : decode bC_init 80 = .ok (.aload_n 0, 1) := by decide +kernel
theorem dC_init_81 : decode bC_init 81 = .ok (.new 19, 3) := by decide +kernel
theorem dC_init_84 : decode bC_init 84 = .ok (.dup, 1) := by decide +kernel
theorem dC_init_85 : decode bC_init 85 = .ok (.sipush 160, 3) := by decide +kernel
theorem dC_init_88 : decode bC_init 88 = .ok (.sipush 160, 3) := by decide +kernel
theorem dC_init_91 : decode bC_init 91 = .ok (.invokespecial 21, 3) := by decide +kernel
theorem dC_init_94 : decode bC_init 94 = .ok (.putfield 37, 3) := by decide +kernel
theorem dC_init_97 : decode bC_init 97 = .ok (.aload_n 0, 1) := by decide +kernel
theorem dC_init_98 : decode bC_init 98 = .ok (.new 19, 3) := by decide +kernel
theorem dC_init_101 : decode bC_init 101 = .ok (.dup, 1) := by decide +kernel
theorem dC_init_102 : decode bC_init 102 = .ok (.bipush 6, 2) := by decide +kernel
theorem dC_init_104 : decode bC_init 104 = .ok (.bipush 6, 2) := by decide +kernel
theorem dC_init_106 : decode bC_init 106 = .ok (.invokespecial 21, 3) := by decide +kernel
theorem dC_init_109 : decode bC_init 109 = .ok (.putfield 40, 3) := by decide +kernel
theorem dC_init_112 : decode bC_init 112 = .ok (.aload_n 0, 1) := by decide +kernel
theorem dC_init_113 : decode bC_init 113 = .ok (.new 19, 3) := by decide +kernel
theorem dC_init_116 : decode bC_init 116 = .ok (.dup, 1) := by decide +kernel
theorem dC_init_117 : decode bC_init 117 = .ok (.bipush 36, 2) := by decide +kernel
theorem dC_init_119 : decode bC_init 119 = .ok (.bipush 6, 2) := by decide +kernel
theorem dC_init_121 : decode bC_init 121 = .ok (.invokespecial 21, 3) := by decide +kernel
theorem dC_init_124 : decode bC_init 124 = .ok (.putfield 43, 3) := by decide +kernel
theorem dC_init_127 : decode bC_init 127 = .ok (.aload_n 0, 1) := by decide +kernel
theorem dC_init_128 : decode bC_init 128 = .ok (.iconst 0, 1) := by decide +kernel
theorem dC_init_129 : decode bC_init 129 = .ok (.putfield 46, 3) := by decide +kernel
theorem dC_init_132 : decode bC_init 132 = .ok (.aload_n 0, 1) := by decide +kernel
theorem dC_init_133 : decode bC_init 133 = .ok (.iconst 0, 1) := by decide +kernel
theorem dC_init_134 : decode bC_init 134 = .ok (.putfield 50, 3) := by decide +kernel
theorem dC_init_137 : decode bC_init 137 = .ok (.aload_n 0, 1) := by decide +kernel
theorem dC_init_138 : decode bC_init 138 = .ok (.iconst 0, 1) := by decide +kernel
theorem dC_init_139 : decode bC_init 139 = .ok (.putfield 53, 3) := by decide +kernel
theorem dC_init_142 : decode bC_init 142 = .ok (.return_, 1) := by decide +kernel
theorem dC_spoil_0 : decode bC_spoil 0 = .ok (.aload_n 0, 1) := by decide +kernel
theorem dC_spoil_1 : decode bC_spoil 1 = .ok (.iconst 1, 1) := by decide +kernel
theorem dC_spoil_2 : decode bC_spoil 2 = .ok (.putfield 53, 3) := by decide +kernel
theorem dC_spoil_5 : decode bC_spoil 5 = .ok (.return_, 1) := by decide +kernel
theorem dC_isEmpty_0 : decode bC_isEmpty 0 = .ok (.aload_n 0, 1) := by decide +kernel
theorem dC_isEmpty_1 : decode bC_isEmpty 1 = .ok (.getfield 24, 3) := by decide +kernel
theorem dC_isEmpty_4 : decode bC_isEmpty 4 = .ok (.iload_n 1, 1) := by decide +kernel
theorem dC_isEmpty_5 : decode bC_isEmpty 5 = .ok (.bipush 6, 2) := by decide +kernel
theorem dC_isEmpty_7 : decode bC_isEmpty 7 = .ok (.invokestatic 57, 3) := by decide +kernel
theorem dC_isEmpty_10 : decode bC_isEmpty 10 = .ok (.iconst 1, 1) := by decide +kernel
theorem dC_isEmpty_11 : decode bC_isEmpty 11 = .ok (.invokevirtual 61, 3) := by decide +kernel
theorem dC_isEmpty_14 : decode bC_isEmpty 14 = .ok (.ireturn, 1) := by decide +kernel
theorem dC_covers_0 : decode bC_covers 0 = .ok (.aload_n 0, 1) := by decide +kernel
theorem dC_covers_1 : decode bC_covers 1 = .ok (.iload_n 1, 1) := by decide +kernel
theorem dC_covers_2 : decode bC_covers 2 = .ok (.invokevirtual 65, 3) := by decide +kernel
theorem dC_covers_5 : decode bC_covers 5 = .ok (.ifCond .ne 20, 3) := by decide +kernel
theorem dC_covers_8 : decode bC_covers 8 = .ok (.aload_n 0, 1) := by decide +kernel
theorem dC_covers_9 : decode bC_covers 9 = .ok (.getfield 24, 3) := by decide +kernel
theorem dC_covers_12 : decode bC_covers 12 = .ok (.iload_n 1, 1) := by decide +kernel
theorem dC_covers_13 : decode bC_covers 13 = .ok (.bipush 6, 2) := by decide +kernel
theorem dC_covers_15 : decode bC_covers 15 = .ok (.invokestatic 57, 3) := by decide +kernel
theorem dC_covers_18 : decode bC_covers 18 = .ok (.iload_n 2, 1) := by decide +kernel
theorem dC_covers_19 : decode bC_covers 19 = .ok (.invokevirtual 61, 3) := by decide +kernel
theorem dC_covers_22 : decode bC_covers 22 = .ok (.ifCond .eq 7, 3) := by decide +kernel
theorem dC_covers_25 : decode bC_covers 25 = .ok (.iconst 1, 1) := by decide +kernel
theorem dC_covers_26 : decode bC_covers 26 = .ok (.goto 4, 3) := by decide +kernel
theorem dC_covers_29 : decode bC_covers 29 = .ok (.iconst 0, 1) := by decide +kernel
theorem dC_covers_30 : decode bC_covers 30 = .ok (.ireturn, 1) := by decide +kernel
theorem dC_reaches_0 : decode bC_reaches 0 = .ok (.aload_n 0, 1) := by decide +kernel
theorem dC_reaches_1 : decode bC_reaches 1 = .ok (.iload_n 1, 1) := by decide +kernel
theorem dC_reaches_2 : decode bC_reaches 2 = .ok (.invokevirtual 65, 3) := by decide +kernel
theorem dC_reaches_5 : decode bC_reaches 5 = .ok (.ifCond .eq 5, 3) := by decide +kernel
theorem dC_reaches_8 : decode bC_reaches 8 = .ok (.iconst 1, 1) := by decide +kernel
theorem dC_reaches_9 : decode bC_reaches 9 = .ok (.ireturn, 1) := by decide +kernel
theorem dC_reaches_10 : decode bC_reaches 10 = .ok (.iload_n 1, 1) := by decide +kernel
theorem dC_reaches_11 : decode bC_reaches 11 = .ok (.iload_n 2, 1) := by decide +kernel
theorem dC_reaches_12 : decode bC_reaches 12 = .ok (.invokestatic 57, 3) := by decide +kernel
theorem dC_reaches_15 : decode bC_reaches 15 = .ok (.istore 4, 2) := by decide +kernel
theorem dC_reaches_17 : decode bC_reaches 17 = .ok (.aload_n 0, 1) := by decide +kernel
theorem dC_reaches_18 : decode bC_reaches 18 = .ok (.getfield 24, 3) := by decide +kernel
theorem dC_reaches_21 : decode bC_reaches 21 = .ok (.iload 4, 2) := by decide +kernel
theorem dC_reaches_23 : decode bC_reaches 23 = .ok (.iconst 0, 1) := by decide +kernel
theorem dC_reaches_24 : decode bC_reaches 24 = .ok (.invokevirtual 69, 3) := by decide +kernel
theorem dC_reaches_27 : decode bC_reaches 27 = .ok (.istore 5, 2) := by decide +kernel
theorem dC_reaches_29 : decode bC_reaches 29 = .ok (.iload 5, 2) := by decide +kernel
theorem dC_reaches_31 : decode bC_reaches 31 = .ok (.sipush 160, 3) := by decide +kernel
theorem dC_reaches_34 : decode bC_reaches 34 = .ok (.if_icmp .ge 41, 3) := by decide +kernel
theorem dC_reaches_37 : decode bC_reaches 37 = .ok (.aload_n 0, 1) := by decide +kernel
theorem dC_reaches_38 : decode bC_reaches 38 = .ok (.getfield 24, 3) := by decide +kernel
theorem dC_reaches_41 : decode bC_reaches 41 = .ok (.iload 5, 2) := by decide +kernel
theorem dC_reaches_43 : decode bC_reaches 43 = .ok (.bipush 6, 2) := by decide +kernel
theorem dC_reaches_45 : decode bC_reaches 45 = .ok (.invokestatic 57, 3) := by decide +kernel
theorem dC_reaches_48 : decode bC_reaches 48 = .ok (.iload_n 3, 1) := by decide +kernel
theorem dC_reaches_49 : decode bC_reaches 49 = .ok (.invokevirtual 61, 3) := by decide +kernel
theorem dC_reaches_52 : decode bC_reaches 52 = .ok (.ifCond .eq 5, 3) := by decide +kernel
theorem dC_reaches_55 : decode bC_reaches 55 = .ok (.iconst 1, 1) := by decide +kernel
theorem dC_reaches_56 : decode bC_reaches 56 = .ok (.ireturn, 1) := by decide +kernel
theorem dC_reaches_57 : decode bC_reaches 57 = .ok (.aload_n 0, 1) := by decide +kernel
theorem dC_reaches_58 : decode bC_reaches 58 = .ok (.getfield 24, 3) := by decide +kernel
theorem dC_reaches_61 : decode bC_reaches 61 = .ok (.iload 4, 2) := by decide +kernel
theorem dC_reaches_63 : decode bC_reaches 63 = .ok (.iload 5, 2) := by decide +kernel
theorem dC_reaches_65 : decode bC_reaches 65 = .ok (.iconst 1, 1) := by decide +kernel
theorem dC_reaches_66 : decode bC_reaches 66 = .ok (.iadd, 1) := by decide +kernel
theorem dC_reaches_67 : decode bC_reaches 67 = .ok (.invokevirtual 69, 3) := by decide +kernel
theorem dC_reaches_70 : decode bC_reaches 70 = .ok (.istore 5, 2) := by decide +kernel
theorem dC_reaches_72 : decode bC_reaches 72 = .ok (.goto (-43), 3) := by decide +kernel
theorem dC_reaches_75 : decode bC_reaches 75 = .ok (.iconst 0, 1) := by decide +kernel
theorem dC_reaches_76 : decode bC_reaches 76 = .ok (.ireturn, 1) := by decide +kernel
theorem dC_place_0 : decode bC_place 0 = .ok (.aload_n 0, 1) := by decide +kernel
theorem dC_place_1 : decode bC_place 1 = .ok (.invokevirtual 72, 3) := by decide +kernel
theorem dC_place_4 : decode bC_place 4 = .ok (.aload_n 0, 1) := by decide +kernel
theorem dC_place_5 : decode bC_place 5 = .ok (.iload_n 1, 1) := by decide +kernel
theorem dC_place_6 : decode bC_place 6 = .ok (.invokevirtual 75, 3) := by decide +kernel
theorem dC_place_9 : decode bC_place 9 = .ok (.aload_n 0, 1) := by decide +kernel
theorem dC_place_10 : decode bC_place 10 = .ok (.invokevirtual 79, 3) := by decide +kernel
theorem dC_place_13 : decode bC_place 13 = .ok (.return_, 1) := by decide +kernel
theorem dC_placeWithAbove_0 : decode bC_placeWithAbove 0 = .ok (.aload_n 0, 1) := by decide +kernel
theorem dC_placeWithAbove_1 : decode bC_placeWithAbove 1 = .ok (.invokevirtual 72, 3) := by decide +kernel
theorem dC_placeWithAbove_4 : decode bC_placeWithAbove 4 = .ok (.aload_n 0, 1) := by decide +kernel
theorem dC_placeWithAbove_5 : decode bC_placeWithAbove 5 = .ok (.iload_n 1, 1) := by decide +kernel
theorem dC_placeWithAbove_6 : decode bC_placeWithAbove 6 = .ok (.invokevirtual 75, 3) := by decide +kernel
theorem dC_placeWithAbove_9 : decode bC_placeWithAbove 9 = .ok (.aload_n 0, 1) := by decide +kernel
theorem dC_placeWithAbove_10 : decode bC_placeWithAbove 10 = .ok (.invokevirtual 79, 3) := by decide +kernel
theorem dC_placeWithAbove_13 : decode bC_placeWithAbove 13 = .ok (.iconst 0, 1) := by decide +kernel
theorem dC_placeWithAbove_14 : decode bC_placeWithAbove 14 = .ok (.istore_n 2, 1) := by decide +kernel
theorem dC_placeWithAbove_15 : decode bC_placeWithAbove 15 = .ok (.iload_n 2, 1) := by decide +kernel
theorem dC_placeWithAbove_16 : decode bC_placeWithAbove 16 = .ok (.aload_n 0, 1) := by decide +kernel
theorem dC_placeWithAbove_17 : decode bC_placeWithAbove 17 = .ok (.getfield 11, 3) := by decide +kernel
theorem dC_placeWithAbove_20 : decode bC_placeWithAbove 20 = .ok (.invokevirtual 82, 3) := by decide +kernel
theorem dC_placeWithAbove_23 : decode bC_placeWithAbove 23 = .ok (.if_icmp .ge 23, 3) := by decide +kernel
theorem dC_placeWithAbove_26 : decode bC_placeWithAbove 26 = .ok (.aload_n 0, 1) := by decide +kernel
theorem dC_placeWithAbove_27 : decode bC_placeWithAbove 27 = .ok (.iload_n 1, 1) := by decide +kernel
theorem dC_placeWithAbove_28 : decode bC_placeWithAbove 28 = .ok (.iload_n 2, 1) := by decide +kernel
theorem dC_placeWithAbove_29 : decode bC_placeWithAbove 29 = .ok (.invokevirtual 88, 3) := by decide +kernel
theorem dC_placeWithAbove_32 : decode bC_placeWithAbove 32 = .ok (.ifCond .eq 8, 3) := by decide +kernel
theorem dC_placeWithAbove_35 : decode bC_placeWithAbove 35 = .ok (.aload_n 0, 1) := by decide +kernel
theorem dC_placeWithAbove_36 : decode bC_placeWithAbove 36 = .ok (.iload_n 2, 1) := by decide +kernel
theorem dC_placeWithAbove_37 : decode bC_placeWithAbove 37 = .ok (.invokevirtual 75, 3) := by decide +kernel
theorem dC_placeWithAbove_40 : decode bC_placeWithAbove 40 = .ok (.iinc 2 1, 3) := by decide +kernel
theorem dC_placeWithAbove_43 : decode bC_placeWithAbove 43 = .ok (.goto (-28), 3) := by decide +kernel
theorem dC_placeWithAbove_46 : decode bC_placeWithAbove 46 = .ok (.aload_n 0, 1) := by decide +kernel
theorem dC_placeWithAbove_47 : decode bC_placeWithAbove 47 = .ok (.invokevirtual 79, 3) := by decide +kernel
theorem dC_placeWithAbove_50 : decode bC_placeWithAbove 50 = .ok (.return_, 1) := by decide +kernel
theorem dC_placeAll_0 : decode bC_placeAll 0 = .ok (.aload_n 0, 1) := by decide +kernel
theorem dC_placeAll_1 : decode bC_placeAll 1 = .ok (.invokevirtual 72, 3) := by decide +kernel
theorem dC_placeAll_4 : decode bC_placeAll 4 = .ok (.iconst 0, 1) := by decide +kernel
theorem dC_placeAll_5 : decode bC_placeAll 5 = .ok (.istore_n 1, 1) := by decide +kernel
theorem dC_placeAll_6 : decode bC_placeAll 6 = .ok (.iload_n 1, 1) := by decide +kernel
theorem dC_placeAll_7 : decode bC_placeAll 7 = .ok (.aload_n 0, 1) := by decide +kernel
theorem dC_placeAll_8 : decode bC_placeAll 8 = .ok (.getfield 11, 3) := by decide +kernel
theorem dC_placeAll_11 : decode bC_placeAll 11 = .ok (.invokevirtual 82, 3) := by decide +kernel
theorem dC_placeAll_14 : decode bC_placeAll 14 = .ok (.if_icmp .ge 14, 3) := by decide +kernel
theorem dC_placeAll_17 : decode bC_placeAll 17 = .ok (.aload_n 0, 1) := by decide +kernel
theorem dC_placeAll_18 : decode bC_placeAll 18 = .ok (.iload_n 1, 1) := by decide +kernel
theorem dC_placeAll_19 : decode bC_placeAll 19 = .ok (.invokevirtual 75, 3) := by decide +kernel
theorem dC_placeAll_22 : decode bC_placeAll 22 = .ok (.iinc 1 1, 3) := by decide +kernel
theorem dC_placeAll_25 : decode bC_placeAll 25 = .ok (.goto (-19), 3) := by decide +kernel
theorem dC_placeAll_28 : decode bC_placeAll 28 = .ok (.aload_n 0, 1) := by decide +kernel
theorem dC_placeAll_29 : decode bC_placeAll 29 = .ok (.invokevirtual 79, 3) := by decide +kernel
theorem dC_placeAll_32 : decode bC_placeAll 32 = .ok (.return_, 1) := by decide +kernel
theorem dC_forget_0 : decode bC_forget 0 = .ok (.aload_n 0, 1) := by decide +kernel
theorem dC_forget_1 : decode bC_forget 1 = .ok (.getfield 11, 3) := by decide +kernel
theorem dC_forget_4 : decode bC_forget 4 = .ok (.invokevirtual 82, 3) := by decide +kernel
theorem dC_forget_7 : decode bC_forget 7 = .ok (.bipush 7, 2) := by decide +kernel
theorem dC_forget_9 : decode bC_forget 9 = .ok (.imul, 1) := by decide +kernel
theorem dC_forget_10 : decode bC_forget 10 = .ok (.istore_n 1, 1) := by decide +kernel
theorem dC_forget_11 : decode bC_forget 11 = .ok (.aload_n 0, 1) := by decide +kernel
theorem dC_forget_12 : decode bC_forget 12 = .ok (.getfield 24, 3) := by decide +kernel
theorem dC_forget_15 : decode bC_forget 15 = .ok (.iload_n 1, 1) := by decide +kernel
theorem dC_forget_16 : decode bC_forget 16 = .ok (.invokevirtual 91, 3) := by decide +kernel
theorem dC_forget_19 : decode bC_forget 19 = .ok (.aload_n 0, 1) := by decide +kernel
theorem dC_forget_20 : decode bC_forget 20 = .ok (.getfield 28, 3) := by decide +kernel
theorem dC_forget_23 : decode bC_forget 23 = .ok (.iload_n 1, 1) := by decide +kernel
theorem dC_forget_24 : decode bC_forget 24 = .ok (.invokevirtual 91, 3) := by decide +kernel
theorem dC_forget_27 : decode bC_forget 27 = .ok (.aload_n 0, 1) := by decide +kernel
theorem dC_forget_28 : decode bC_forget 28 = .ok (.getfield 31, 3) := by decide +kernel
theorem dC_forget_31 : decode bC_forget 31 = .ok (.iload_n 1, 1) := by decide +kernel
theorem dC_forget_32 : decode bC_forget 32 = .ok (.invokevirtual 91, 3) := by decide +kernel
theorem dC_forget_35 : decode bC_forget 35 = .ok (.aload_n 0, 1) := by decide +kernel
theorem dC_forget_36 : decode bC_forget 36 = .ok (.getfield 34, 3) := by decide +kernel
theorem dC_forget_39 : decode bC_forget 39 = .ok (.iconst 1, 1) := by decide +kernel
theorem dC_forget_40 : decode bC_forget 40 = .ok (.invokevirtual 91, 3) := by decide +kernel
theorem dC_forget_43 : decode bC_forget 43 = .ok (.aload_n 0, 1) := by decide +kernel
theorem dC_forget_44 : decode bC_forget 44 = .ok (.getfield 37, 3) := by decide +kernel
theorem dC_forget_47 : decode bC_forget 47 = .ok (.aload_n 0, 1) := by decide +kernel
theorem dC_forget_48 : decode bC_forget 48 = .ok (.getfield 11, 3) := by decide +kernel
theorem dC_forget_51 : decode bC_forget 51 = .ok (.invokevirtual 82, 3) := by decide +kernel
theorem dC_forget_54 : decode bC_forget 54 = .ok (.invokevirtual 91, 3) := by decide +kernel
theorem dC_forget_57 : decode bC_forget 57 = .ok (.aload_n 0, 1) := by decide +kernel
theorem dC_forget_58 : decode bC_forget 58 = .ok (.getfield 40, 3) := by decide +kernel
theorem dC_forget_61 : decode bC_forget 61 = .ok (.bipush 6, 2) := by decide +kernel
theorem dC_forget_63 : decode bC_forget 63 = .ok (.invokevirtual 91, 3) := by decide +kernel
theorem dC_forget_66 : decode bC_forget 66 = .ok (.aload_n 0, 1) := by decide +kernel
theorem dC_forget_67 : decode bC_forget 67 = .ok (.getfield 43, 3) := by decide +kernel
theorem dC_forget_70 : decode bC_forget 70 = .ok (.bipush 36, 2) := by decide +kernel
theorem dC_forget_72 : decode bC_forget 72 = .ok (.invokevirtual 91, 3) := by decide +kernel
theorem dC_forget_75 : decode bC_forget 75 = .ok (.aload_n 0, 1) := by decide +kernel
theorem dC_forget_76 : decode bC_forget 76 = .ok (.aload_n 0, 1) := by decide +kernel
theorem dC_forget_77 : decode bC_forget 77 = .ok (.getfield 11, 3) := by decide +kernel
theorem dC_forget_80 : decode bC_forget 80 = .ok (.invokevirtual 82, 3) := by decide +kernel
theorem dC_forget_83 : decode bC_forget 83 = .ok (.putfield 46, 3) := by decide +kernel
theorem dC_forget_86 : decode bC_forget 86 = .ok (.aload_n 0, 1) := by decide +kernel
theorem dC_forget_87 : decode bC_forget 87 = .ok (.iconst 0, 1) := by decide +kernel
theorem dC_forget_88 : decode bC_forget 88 = .ok (.putfield 50, 3) := by decide +kernel
theorem dC_forget_91 : decode bC_forget 91 = .ok (.aload_n 0, 1) := by decide +kernel
theorem dC_forget_92 : decode bC_forget 92 = .ok (.iconst 0, 1) := by decide +kernel
theorem dC_forget_93 : decode bC_forget 93 = .ok (.putfield 53, 3) := by decide +kernel
theorem dC_forget_96 : decode bC_forget 96 = .ok (.return_, 1) := by decide +kernel
theorem dC_begin_0 : decode bC_begin 0 = .ok (.aload_n 0, 1) := by decide +kernel
theorem dC_begin_1 : decode bC_begin 1 = .ok (.getfield 24, 3) := by decide +kernel
theorem dC_begin_4 : decode bC_begin 4 = .ok (.iload_n 1, 1) := by decide +kernel
theorem dC_begin_5 : decode bC_begin 5 = .ok (.bipush 6, 2) := by decide +kernel
theorem dC_begin_7 : decode bC_begin 7 = .ok (.invokestatic 57, 3) := by decide +kernel
theorem dC_begin_10 : decode bC_begin 10 = .ok (.iload_n 1, 1) := by decide +kernel
theorem dC_begin_11 : decode bC_begin 11 = .ok (.invokevirtual 61, 3) := by decide +kernel
theorem dC_begin_14 : decode bC_begin 14 = .ok (.ifCond .ne 19, 3) := by decide +kernel
theorem dC_begin_17 : decode bC_begin 17 = .ok (.aload_n 0, 1) := by decide +kernel
theorem dC_begin_18 : decode bC_begin 18 = .ok (.iload_n 1, 1) := by decide +kernel
theorem dC_begin_19 : decode bC_begin 19 = .ok (.bipush 6, 2) := by decide +kernel
theorem dC_begin_21 : decode bC_begin 21 = .ok (.iload_n 1, 1) := by decide +kernel
theorem dC_begin_22 : decode bC_begin 22 = .ok (.invokevirtual 94, 3) := by decide +kernel
theorem dC_begin_25 : decode bC_begin 25 = .ok (.aload_n 0, 1) := by decide +kernel
theorem dC_begin_26 : decode bC_begin 26 = .ok (.iload_n 1, 1) := by decide +kernel
theorem dC_begin_27 : decode bC_begin 27 = .ok (.bipush 6, 2) := by decide +kernel
theorem dC_begin_29 : decode bC_begin 29 = .ok (.iconst 0, 1) := by decide +kernel
theorem dC_begin_30 : decode bC_begin 30 = .ok (.invokevirtual 94, 3) := by decide +kernel
theorem dC_begin_33 : decode bC_begin 33 = .ok (.return_, 1) := by decide +kernel
theorem dC_hear_0 : decode bC_hear 0 = .ok (.aload_n 0, 1) := by decide +kernel
theorem dC_hear_1 : decode bC_hear 1 = .ok (.getfield 15, 3) := by decide +kernel
theorem dC_hear_4 : decode bC_hear 4 = .ok (.iload_n 1, 1) := by decide +kernel
theorem dC_hear_5 : decode bC_hear 5 = .ok (.invokevirtual 98, 3) := by decide +kernel
theorem dC_hear_8 : decode bC_hear 8 = .ok (.istore_n 2, 1) := by decide +kernel
theorem dC_hear_9 : decode bC_hear 9 = .ok (.aload_n 0, 1) := by decide +kernel
theorem dC_hear_10 : decode bC_hear 10 = .ok (.getfield 15, 3) := by decide +kernel
theorem dC_hear_13 : decode bC_hear 13 = .ok (.iload_n 1, 1) := by decide +kernel
theorem dC_hear_14 : decode bC_hear 14 = .ok (.invokevirtual 104, 3) := by decide +kernel
theorem dC_hear_17 : decode bC_hear 17 = .ok (.istore_n 3, 1) := by decide +kernel
theorem dC_hear_18 : decode bC_hear 18 = .ok (.aload_n 0, 1) := by decide +kernel
theorem dC_hear_19 : decode bC_hear 19 = .ok (.getfield 15, 3) := by decide +kernel
theorem dC_hear_22 : decode bC_hear 22 = .ok (.iload_n 1, 1) := by decide +kernel
theorem dC_hear_23 : decode bC_hear 23 = .ok (.invokevirtual 107, 3) := by decide +kernel
theorem dC_hear_26 : decode bC_hear 26 = .ok (.tableswitch 148 0 2 #[26, 52, 101], 26) := by decide +kernel
theorem dC_hear_52 : decode bC_hear 52 = .ok (.aload_n 0, 1) := by decide +kernel
theorem dC_hear_53 : decode bC_hear 53 = .ok (.getfield 37, 3) := by decide +kernel
theorem dC_hear_56 : decode bC_hear 56 = .ok (.iload_n 2, 1) := by decide +kernel
theorem dC_hear_57 : decode bC_hear 57 = .ok (.iload_n 3, 1) := by decide +kernel
theorem dC_hear_58 : decode bC_hear 58 = .ok (.invokevirtual 110, 3) := by decide +kernel
theorem dC_hear_61 : decode bC_hear 61 = .ok (.pop, 1) := by decide +kernel
theorem dC_hear_62 : decode bC_hear 62 = .ok (.aload_n 0, 1) := by decide +kernel
theorem dC_hear_63 : decode bC_hear 63 = .ok (.iload_n 2, 1) := by decide +kernel
theorem dC_hear_64 : decode bC_hear 64 = .ok (.bipush 6, 2) := by decide +kernel
theorem dC_hear_66 : decode bC_hear 66 = .ok (.invokestatic 57, 3) := by decide +kernel
theorem dC_hear_69 : decode bC_hear 69 = .ok (.bipush 6, 2) := by decide +kernel
theorem dC_hear_71 : decode bC_hear 71 = .ok (.iload_n 3, 1) := by decide +kernel
theorem dC_hear_72 : decode bC_hear 72 = .ok (.invokevirtual 113, 3) := by decide +kernel
theorem dC_hear_75 : decode bC_hear 75 = .ok (.goto 208, 3) := by decide +kernel
theorem dC_hear_78 : decode bC_hear 78 = .ok (.aload_n 0, 1) := by decide +kernel
theorem dC_hear_79 : decode bC_hear 79 = .ok (.getfield 37, 3) := by decide +kernel
theorem dC_hear_82 : decode bC_hear 82 = .ok (.iload_n 2, 1) := by decide +kernel
theorem dC_hear_83 : decode bC_hear 83 = .ok (.iload_n 3, 1) := by decide +kernel
theorem dC_hear_84 : decode bC_hear 84 = .ok (.invokevirtual 110, 3) := by decide +kernel
theorem dC_hear_87 : decode bC_hear 87 = .ok (.pop, 1) := by decide +kernel
theorem dC_hear_88 : decode bC_hear 88 = .ok (.aload_n 0, 1) := by decide +kernel
theorem dC_hear_89 : decode bC_hear 89 = .ok (.getfield 37, 3) := by decide +kernel
theorem dC_hear_92 : decode bC_hear 92 = .ok (.iload_n 3, 1) := by decide +kernel
theorem dC_hear_93 : decode bC_hear 93 = .ok (.iload_n 2, 1) := by decide +kernel
theorem dC_hear_94 : decode bC_hear 94 = .ok (.invokevirtual 110, 3) := by decide +kernel
theorem dC_hear_97 : decode bC_hear 97 = .ok (.pop, 1) := by decide +kernel
theorem dC_hear_98 : decode bC_hear 98 = .ok (.aload_n 0, 1) := by decide +kernel
theorem dC_hear_99 : decode bC_hear 99 = .ok (.iload_n 2, 1) := by decide +kernel
theorem dC_hear_100 : decode bC_hear 100 = .ok (.bipush 6, 2) := by decide +kernel
theorem dC_hear_102 : decode bC_hear 102 = .ok (.invokestatic 57, 3) := by decide +kernel
theorem dC_hear_105 : decode bC_hear 105 = .ok (.bipush 6, 2) := by decide +kernel
theorem dC_hear_107 : decode bC_hear 107 = .ok (.iload_n 3, 1) := by decide +kernel
theorem dC_hear_108 : decode bC_hear 108 = .ok (.invokevirtual 113, 3) := by decide +kernel
theorem dC_hear_111 : decode bC_hear 111 = .ok (.aload_n 0, 1) := by decide +kernel
theorem dC_hear_112 : decode bC_hear 112 = .ok (.iload_n 3, 1) := by decide +kernel
theorem dC_hear_113 : decode bC_hear 113 = .ok (.bipush 6, 2) := by decide +kernel
theorem dC_hear_115 : decode bC_hear 115 = .ok (.invokestatic 57, 3) := by decide +kernel
theorem dC_hear_118 : decode bC_hear 118 = .ok (.bipush 6, 2) := by decide +kernel
theorem dC_hear_120 : decode bC_hear 120 = .ok (.iload_n 2, 1) := by decide +kernel
theorem dC_hear_121 : decode bC_hear 121 = .ok (.invokevirtual 113, 3) := by decide +kernel
theorem dC_hear_124 : decode bC_hear 124 = .ok (.goto 159, 3) := by decide +kernel
theorem dC_hear_127 : decode bC_hear 127 = .ok (.aload_n 0, 1) := by decide +kernel
theorem dC_hear_128 : decode bC_hear 128 = .ok (.getfield 40, 3) := by decide +kernel
theorem dC_hear_131 : decode bC_hear 131 = .ok (.iload_n 2, 1) := by decide +kernel
theorem dC_hear_132 : decode bC_hear 132 = .ok (.iload_n 3, 1) := by decide +kernel
theorem dC_hear_133 : decode bC_hear 133 = .ok (.invokevirtual 110, 3) := by decide +kernel
theorem dC_hear_136 : decode bC_hear 136 = .ok (.pop, 1) := by decide +kernel
theorem dC_hear_137 : decode bC_hear 137 = .ok (.iconst 0, 1) := by decide +kernel
theorem dC_hear_138 : decode bC_hear 138 = .ok (.istore 4, 2) := by decide +kernel
theorem dC_hear_140 : decode bC_hear 140 = .ok (.iload 4, 2) := by decide +kernel
theorem dC_hear_142 : decode bC_hear 142 = .ok (.aload_n 0, 1) := by decide +kernel
theorem dC_hear_143 : decode bC_hear 143 = .ok (.getfield 11, 3) := by decide +kernel
theorem dC_hear_146 : decode bC_hear 146 = .ok (.invokevirtual 82, 3) := by decide +kernel
theorem dC_hear_149 : decode bC_hear 149 = .ok (.if_icmp .ge 22, 3) := by decide +kernel
theorem dC_hear_152 : decode bC_hear 152 = .ok (.aload_n 0, 1) := by decide +kernel
theorem dC_hear_153 : decode bC_hear 153 = .ok (.iload 4, 2) := by decide +kernel
theorem dC_hear_155 : decode bC_hear 155 = .ok (.iload_n 2, 1) := by decide +kernel
theorem dC_hear_156 : decode bC_hear 156 = .ok (.invokestatic 57, 3) := by decide +kernel
theorem dC_hear_159 : decode bC_hear 159 = .ok (.iload_n 3, 1) := by decide +kernel
theorem dC_hear_160 : decode bC_hear 160 = .ok (.iload 4, 2) := by decide +kernel
theorem dC_hear_162 : decode bC_hear 162 = .ok (.invokevirtual 113, 3) := by decide +kernel
theorem dC_hear_165 : decode bC_hear 165 = .ok (.iinc 4 1, 3) := by decide +kernel
theorem dC_hear_168 : decode bC_hear 168 = .ok (.goto (-28), 3) := by decide +kernel
theorem dC_hear_171 : decode bC_hear 171 = .ok (.goto 112, 3) := by decide +kernel
theorem dC_hear_174 : decode bC_hear 174 = .ok (.aload_n 0, 1) := by decide +kernel
theorem dC_hear_175 : decode bC_hear 175 = .ok (.getfield 43, 3) := by decide +kernel
theorem dC_hear_178 : decode bC_hear 178 = .ok (.iload_n 2, 1) := by decide +kernel
theorem dC_hear_179 : decode bC_hear 179 = .ok (.bipush 6, 2) := by decide +kernel
theorem dC_hear_181 : decode bC_hear 181 = .ok (.imul, 1) := by decide +kernel
theorem dC_hear_182 : decode bC_hear 182 = .ok (.iload_n 3, 1) := by decide +kernel
theorem dC_hear_183 : decode bC_hear 183 = .ok (.iadd, 1) := by decide +kernel
theorem dC_hear_184 : decode bC_hear 184 = .ok (.aload_n 0, 1) := by decide +kernel
theorem dC_hear_185 : decode bC_hear 185 = .ok (.getfield 15, 3) := by decide +kernel
theorem dC_hear_188 : decode bC_hear 188 = .ok (.iload_n 1, 1) := by decide +kernel
theorem dC_hear_189 : decode bC_hear 189 = .ok (.invokevirtual 116, 3) := by decide +kernel
theorem dC_hear_192 : decode bC_hear 192 = .ok (.invokevirtual 110, 3) := by decide +kernel
theorem dC_hear_195 : decode bC_hear 195 = .ok (.pop, 1) := by decide +kernel
theorem dC_hear_196 : decode bC_hear 196 = .ok (.iconst 0, 1) := by decide +kernel
theorem dC_hear_197 : decode bC_hear 197 = .ok (.istore 4, 2) := by decide +kernel
theorem dC_hear_199 : decode bC_hear 199 = .ok (.iload 4, 2) := by decide +kernel
theorem dC_hear_201 : decode bC_hear 201 = .ok (.aload_n 0, 1) := by decide +kernel
theorem dC_hear_202 : decode bC_hear 202 = .ok (.getfield 11, 3) := by decide +kernel
theorem dC_hear_205 : decode bC_hear 205 = .ok (.invokevirtual 82, 3) := by decide +kernel
theorem dC_hear_208 : decode bC_hear 208 = .ok (.if_icmp .ge 75, 3) := by decide +kernel
theorem dC_hear_211 : decode bC_hear 211 = .ok (.iload 4, 2) := by decide +kernel
theorem dC_hear_213 : decode bC_hear 213 = .ok (.iload_n 3, 1) := by decide +kernel
theorem dC_hear_214 : decode bC_hear 214 = .ok (.invokestatic 57, 3) := by decide +kernel
theorem dC_hear_217 : decode bC_hear 217 = .ok (.istore 5, 2) := by decide +kernel
theorem dC_hear_219 : decode bC_hear 219 = .ok (.aload_n 0, 1) := by decide +kernel
theorem dC_hear_220 : decode bC_hear 220 = .ok (.getfield 24, 3) := by decide +kernel
theorem dC_hear_223 : decode bC_hear 223 = .ok (.iload 5, 2) := by decide +kernel
theorem dC_hear_225 : decode bC_hear 225 = .ok (.iconst 0, 1) := by decide +kernel
theorem dC_hear_226 : decode bC_hear 226 = .ok (.invokevirtual 69, 3) := by decide +kernel
theorem dC_hear_229 : decode bC_hear 229 = .ok (.istore 6, 2) := by decide +kernel
theorem dC_hear_231 : decode bC_hear 231 = .ok (.iload 6, 2) := by decide +kernel
theorem dC_hear_233 : decode bC_hear 233 = .ok (.sipush 160, 3) := by decide +kernel
theorem dC_hear_236 : decode bC_hear 236 = .ok (.if_icmp .ge 41, 3) := by decide +kernel
theorem dC_hear_239 : decode bC_hear 239 = .ok (.aload_n 0, 1) := by decide +kernel
theorem dC_hear_240 : decode bC_hear 240 = .ok (.iload 4, 2) := by decide +kernel
theorem dC_hear_242 : decode bC_hear 242 = .ok (.iload_n 2, 1) := by decide +kernel
theorem dC_hear_243 : decode bC_hear 243 = .ok (.invokestatic 57, 3) := by decide +kernel
theorem dC_hear_246 : decode bC_hear 246 = .ok (.aload_n 0, 1) := by decide +kernel
theorem dC_hear_247 : decode bC_hear 247 = .ok (.getfield 15, 3) := by decide +kernel
theorem dC_hear_250 : decode bC_hear 250 = .ok (.iload_n 1, 1) := by decide +kernel
theorem dC_hear_251 : decode bC_hear 251 = .ok (.invokevirtual 116, 3) := by decide +kernel
theorem dC_hear_254 : decode bC_hear 254 = .ok (.iload 6, 2) := by decide +kernel
theorem dC_hear_256 : decode bC_hear 256 = .ok (.invokevirtual 113, 3) := by decide +kernel
theorem dC_hear_259 : decode bC_hear 259 = .ok (.aload_n 0, 1) := by decide +kernel
theorem dC_hear_260 : decode bC_hear 260 = .ok (.getfield 24, 3) := by decide +kernel
theorem dC_hear_263 : decode bC_hear 263 = .ok (.iload 5, 2) := by decide +kernel
theorem dC_hear_265 : decode bC_hear 265 = .ok (.iload 6, 2) := by decide +kernel
theorem dC_hear_267 : decode bC_hear 267 = .ok (.iconst 1, 1) := by decide +kernel
theorem dC_hear_268 : decode bC_hear 268 = .ok (.iadd, 1) := by decide +kernel
theorem dC_hear_269 : decode bC_hear 269 = .ok (.invokevirtual 69, 3) := by decide +kernel
theorem dC_hear_272 : decode bC_hear 272 = .ok (.istore 6, 2) := by decide +kernel
theorem dC_hear_274 : decode bC_hear 274 = .ok (.goto (-43), 3) := by decide +kernel
theorem dC_hear_277 : decode bC_hear 277 = .ok (.iinc 4 1, 3) := by decide +kernel
theorem dC_hear_280 : decode bC_hear 280 = .ok (.goto (-81), 3) := by decide +kernel
theorem dC_hear_283 : decode bC_hear 283 = .ok (.return_, 1) := by decide +kernel
theorem dC_saturate_0 : decode bC_saturate 0 = .ok (.iconst 0, 1) := by decide +kernel
theorem dC_saturate_1 : decode bC_saturate 1 = .ok (.istore_n 1, 1) := by decide +kernel
theorem dC_saturate_2 : decode bC_saturate 2 = .ok (.iload_n 1, 1) := by decide +kernel
theorem dC_saturate_3 : decode bC_saturate 3 = .ok (.ldc 119, 2) := by decide +kernel
theorem dC_saturate_5 : decode bC_saturate 5 = .ok (.if_icmp .ge 192, 3) := by decide +kernel
theorem dC_saturate_8 : decode bC_saturate 8 = .ok (.aload_n 0, 1) := by decide +kernel
theorem dC_saturate_9 : decode bC_saturate 9 = .ok (.getfield 34, 3) := by decide +kernel
theorem dC_saturate_12 : decode bC_saturate 12 = .ok (.iconst 0, 1) := by decide +kernel
theorem dC_saturate_13 : decode bC_saturate 13 = .ok (.iconst 0, 1) := by decide +kernel
theorem dC_saturate_14 : decode bC_saturate 14 = .ok (.invokevirtual 69, 3) := by decide +kernel
theorem dC_saturate_17 : decode bC_saturate 17 = .ok (.istore_n 2, 1) := by decide +kernel
theorem dC_saturate_18 : decode bC_saturate 18 = .ok (.iload_n 2, 1) := by decide +kernel
theorem dC_saturate_19 : decode bC_saturate 19 = .ok (.sipush 1120, 3) := by decide +kernel
theorem dC_saturate_22 : decode bC_saturate 22 = .ok (.if_icmp .lt 4, 3) := by decide +kernel
theorem dC_saturate_25 : decode bC_saturate 25 = .ok (.return_, 1) := by decide +kernel
theorem dC_saturate_26 : decode bC_saturate 26 = .ok (.aload_n 0, 1) := by decide +kernel
theorem dC_saturate_27 : decode bC_saturate 27 = .ok (.getfield 34, 3) := by decide +kernel
theorem dC_saturate_30 : decode bC_saturate 30 = .ok (.iconst 0, 1) := by decide +kernel
theorem dC_saturate_31 : decode bC_saturate 31 = .ok (.iload_n 2, 1) := by decide +kernel
theorem dC_saturate_32 : decode bC_saturate 32 = .ok (.invokevirtual 120, 3) := by decide +kernel
theorem dC_saturate_35 : decode bC_saturate 35 = .ok (.iload_n 2, 1) := by decide +kernel
theorem dC_saturate_36 : decode bC_saturate 36 = .ok (.bipush 7, 2) := by decide +kernel
theorem dC_saturate_38 : decode bC_saturate 38 = .ok (.idiv, 1) := by decide +kernel
theorem dC_saturate_39 : decode bC_saturate 39 = .ok (.istore_n 3, 1) := by decide +kernel
theorem dC_saturate_40 : decode bC_saturate 40 = .ok (.iload_n 2, 1) := by decide +kernel
theorem dC_saturate_41 : decode bC_saturate 41 = .ok (.bipush 7, 2) := by decide +kernel
theorem dC_saturate_43 : decode bC_saturate 43 = .ok (.irem, 1) := by decide +kernel
theorem dC_saturate_44 : decode bC_saturate 44 = .ok (.istore 4, 2) := by decide +kernel
theorem dC_saturate_46 : decode bC_saturate 46 = .ok (.aload_n 0, 1) := by decide +kernel
theorem dC_saturate_47 : decode bC_saturate 47 = .ok (.getfield 31, 3) := by decide +kernel
theorem dC_saturate_50 : decode bC_saturate 50 = .ok (.iload_n 2, 1) := by decide +kernel
theorem dC_saturate_51 : decode bC_saturate 51 = .ok (.iconst 0, 1) := by decide +kernel
theorem dC_saturate_52 : decode bC_saturate 52 = .ok (.invokevirtual 69, 3) := by decide +kernel
theorem dC_saturate_55 : decode bC_saturate 55 = .ok (.istore 5, 2) := by decide +kernel
theorem dC_saturate_57 : decode bC_saturate 57 = .ok (.iload 5, 2) := by decide +kernel
theorem dC_saturate_59 : decode bC_saturate 59 = .ok (.sipush 160, 3) := by decide +kernel
theorem dC_saturate_62 : decode bC_saturate 62 = .ok (.if_icmp .ge 129, 3) := by decide +kernel
theorem dC_saturate_65 : decode bC_saturate 65 = .ok (.aload_n 0, 1) := by decide +kernel
theorem dC_saturate_66 : decode bC_saturate 66 = .ok (.getfield 31, 3) := by decide +kernel
theorem dC_saturate_69 : decode bC_saturate 69 = .ok (.iload_n 2, 1) := by decide +kernel
theorem dC_saturate_70 : decode bC_saturate 70 = .ok (.iload 5, 2) := by decide +kernel
theorem dC_saturate_72 : decode bC_saturate 72 = .ok (.invokevirtual 120, 3) := by decide +kernel
theorem dC_saturate_75 : decode bC_saturate 75 = .ok (.iload 4, 2) := by decide +kernel
theorem dC_saturate_77 : decode bC_saturate 77 = .ok (.bipush 6, 2) := by decide +kernel
theorem dC_saturate_79 : decode bC_saturate 79 = .ok (.if_icmp .ne 17, 3) := by decide +kernel
theorem dC_saturate_82 : decode bC_saturate 82 = .ok (.iload 5, 2) := by decide +kernel
theorem dC_saturate_84 : decode bC_saturate 84 = .ok (.iconst 1, 1) := by decide +kernel
theorem dC_saturate_85 : decode bC_saturate 85 = .ok (.if_icmp .ne 11, 3) := by decide +kernel
theorem dC_saturate_88 : decode bC_saturate 88 = .ok (.aload_n 0, 1) := by decide +kernel
theorem dC_saturate_89 : decode bC_saturate 89 = .ok (.iload_n 3, 1) := by decide +kernel
theorem dC_saturate_90 : decode bC_saturate 90 = .ok (.invokevirtual 123, 3) := by decide +kernel
theorem dC_saturate_93 : decode bC_saturate 93 = .ok (.goto 81, 3) := by decide +kernel
theorem dC_saturate_96 : decode bC_saturate 96 = .ok (.iload 4, 2) := by decide +kernel
theorem dC_saturate_98 : decode bC_saturate 98 = .ok (.bipush 6, 2) := by decide +kernel
theorem dC_saturate_100 : decode bC_saturate 100 = .ok (.if_icmp .ne 48, 3) := by decide +kernel
theorem dC_saturate_103 : decode bC_saturate 103 = .ok (.aload_n 0, 1) := by decide +kernel
theorem dC_saturate_104 : decode bC_saturate 104 = .ok (.iload_n 3, 1) := by decide +kernel
theorem dC_saturate_105 : decode bC_saturate 105 = .ok (.invokevirtual 65, 3) := by decide +kernel
theorem dC_saturate_108 : decode bC_saturate 108 = .ok (.ifCond .ne 40, 3) := by decide +kernel
theorem dC_saturate_111 : decode bC_saturate 111 = .ok (.aload_n 0, 1) := by decide +kernel
theorem dC_saturate_112 : decode bC_saturate 112 = .ok (.iload_n 3, 1) := by decide +kernel
theorem dC_saturate_113 : decode bC_saturate 113 = .ok (.bipush 6, 2) := by decide +kernel
theorem dC_saturate_115 : decode bC_saturate 115 = .ok (.aload_n 0, 1) := by decide +kernel
theorem dC_saturate_116 : decode bC_saturate 116 = .ok (.getfield 37, 3) := by decide +kernel
theorem dC_saturate_119 : decode bC_saturate 119 = .ok (.iload 5, 2) := by decide +kernel
theorem dC_saturate_121 : decode bC_saturate 121 = .ok (.invokevirtual 126, 3) := by decide +kernel
theorem dC_saturate_124 : decode bC_saturate 124 = .ok (.aload_n 0, 1) := by decide +kernel
theorem dC_saturate_125 : decode bC_saturate 125 = .ok (.iload_n 3, 1) := by decide +kernel
theorem dC_saturate_126 : decode bC_saturate 126 = .ok (.iload 5, 2) := by decide +kernel
theorem dC_saturate_128 : decode bC_saturate 128 = .ok (.invokevirtual 130, 3) := by decide +kernel
theorem dC_saturate_131 : decode bC_saturate 131 = .ok (.aload_n 0, 1) := by decide +kernel
theorem dC_saturate_132 : decode bC_saturate 132 = .ok (.iload_n 3, 1) := by decide +kernel
theorem dC_saturate_133 : decode bC_saturate 133 = .ok (.iload 5, 2) := by decide +kernel
theorem dC_saturate_135 : decode bC_saturate 135 = .ok (.invokevirtual 133, 3) := by decide +kernel
theorem dC_saturate_138 : decode bC_saturate 138 = .ok (.aload_n 0, 1) := by decide +kernel
theorem dC_saturate_139 : decode bC_saturate 139 = .ok (.iload_n 3, 1) := by decide +kernel
theorem dC_saturate_140 : decode bC_saturate 140 = .ok (.iload 5, 2) := by decide +kernel
theorem dC_saturate_142 : decode bC_saturate 142 = .ok (.invokevirtual 136, 3) := by decide +kernel
theorem dC_saturate_145 : decode bC_saturate 145 = .ok (.goto 29, 3) := by decide +kernel
theorem dC_saturate_148 : decode bC_saturate 148 = .ok (.aload_n 0, 1) := by decide +kernel
theorem dC_saturate_149 : decode bC_saturate 149 = .ok (.iload_n 3, 1) := by decide +kernel
theorem dC_saturate_150 : decode bC_saturate 150 = .ok (.invokevirtual 65, 3) := by decide +kernel
theorem dC_saturate_153 : decode bC_saturate 153 = .ok (.ifCond .ne 21, 3) := by decide +kernel
theorem dC_saturate_156 : decode bC_saturate 156 = .ok (.aload_n 0, 1) := by decide +kernel
theorem dC_saturate_157 : decode bC_saturate 157 = .ok (.iload_n 3, 1) := by decide +kernel
theorem dC_saturate_158 : decode bC_saturate 158 = .ok (.iload 4, 2) := by decide +kernel
theorem dC_saturate_160 : decode bC_saturate 160 = .ok (.iload 5, 2) := by decide +kernel
theorem dC_saturate_162 : decode bC_saturate 162 = .ok (.invokevirtual 139, 3) := by decide +kernel
theorem dC_saturate_165 : decode bC_saturate 165 = .ok (.aload_n 0, 1) := by decide +kernel
theorem dC_saturate_166 : decode bC_saturate 166 = .ok (.iload_n 3, 1) := by decide +kernel
theorem dC_saturate_167 : decode bC_saturate 167 = .ok (.iload 4, 2) := by decide +kernel
theorem dC_saturate_169 : decode bC_saturate 169 = .ok (.iload 5, 2) := by decide +kernel
theorem dC_saturate_171 : decode bC_saturate 171 = .ok (.invokevirtual 142, 3) := by decide +kernel
theorem dC_saturate_174 : decode bC_saturate 174 = .ok (.aload_n 0, 1) := by decide +kernel
theorem dC_saturate_175 : decode bC_saturate 175 = .ok (.getfield 31, 3) := by decide +kernel
theorem dC_saturate_178 : decode bC_saturate 178 = .ok (.iload_n 2, 1) := by decide +kernel
theorem dC_saturate_179 : decode bC_saturate 179 = .ok (.iload 5, 2) := by decide +kernel
theorem dC_saturate_181 : decode bC_saturate 181 = .ok (.iconst 1, 1) := by decide +kernel
theorem dC_saturate_182 : decode bC_saturate 182 = .ok (.iadd, 1) := by decide +kernel
theorem dC_saturate_183 : decode bC_saturate 183 = .ok (.invokevirtual 69, 3) := by decide +kernel
theorem dC_saturate_186 : decode bC_saturate 186 = .ok (.istore 5, 2) := by decide +kernel
theorem dC_saturate_188 : decode bC_saturate 188 = .ok (.goto (-131), 3) := by decide +kernel
theorem dC_saturate_191 : decode bC_saturate 191 = .ok (.iinc 1 1, 3) := by decide +kernel
theorem dC_saturate_194 : decode bC_saturate 194 = .ok (.goto (-192), 3) := by decide +kernel
theorem dC_saturate_197 : decode bC_saturate 197 = .ok (.return_, 1) := by decide +kernel
theorem dC_row_0 : decode bC_row 0 = .ok (.iload_n 0, 1) := by decide +kernel
theorem dC_row_1 : decode bC_row 1 = .ok (.bipush 7, 2) := by decide +kernel
theorem dC_row_3 : decode bC_row 3 = .ok (.imul, 1) := by decide +kernel
theorem dC_row_4 : decode bC_row 4 = .ok (.iload_n 1, 1) := by decide +kernel
theorem dC_row_5 : decode bC_row 5 = .ok (.iadd, 1) := by decide +kernel
theorem dC_row_6 : decode bC_row 6 = .ok (.ireturn, 1) := by decide +kernel
theorem dC_catchUp_0 : decode bC_catchUp 0 = .ok (.aload_n 0, 1) := by decide +kernel
theorem dC_catchUp_1 : decode bC_catchUp 1 = .ok (.getfield 53, 3) := by decide +kernel
theorem dC_catchUp_4 : decode bC_catchUp 4 = .ok (.ifCond .eq 7, 3) := by decide +kernel
theorem dC_catchUp_7 : decode bC_catchUp 7 = .ok (.aload_n 0, 1) := by decide +kernel
theorem dC_catchUp_8 : decode bC_catchUp 8 = .ok (.invokevirtual 145, 3) := by decide +kernel
theorem dC_catchUp_11 : decode bC_catchUp 11 = .ok (.aload_n 0, 1) := by decide +kernel
theorem dC_catchUp_12 : decode bC_catchUp 12 = .ok (.getfield 46, 3) := by decide +kernel
theorem dC_catchUp_15 : decode bC_catchUp 15 = .ok (.istore_n 1, 1) := by decide +kernel
theorem dC_catchUp_16 : decode bC_catchUp 16 = .ok (.iload_n 1, 1) := by decide +kernel
theorem dC_catchUp_17 : decode bC_catchUp 17 = .ok (.aload_n 0, 1) := by decide +kernel
theorem dC_catchUp_18 : decode bC_catchUp 18 = .ok (.getfield 11, 3) := by decide +kernel
theorem dC_catchUp_21 : decode bC_catchUp 21 = .ok (.invokevirtual 82, 3) := by decide +kernel
theorem dC_catchUp_24 : decode bC_catchUp 24 = .ok (.if_icmp .ge 46, 3) := by decide +kernel
theorem dC_catchUp_27 : decode bC_catchUp 27 = .ok (.aload_n 0, 1) := by decide +kernel
theorem dC_catchUp_28 : decode bC_catchUp 28 = .ok (.getfield 11, 3) := by decide +kernel
theorem dC_catchUp_31 : decode bC_catchUp 31 = .ok (.iload_n 1, 1) := by decide +kernel
theorem dC_catchUp_32 : decode bC_catchUp 32 = .ok (.invokevirtual 148, 3) := by decide +kernel
theorem dC_catchUp_35 : decode bC_catchUp 35 = .ok (.iconst 2, 1) := by decide +kernel
theorem dC_catchUp_36 : decode bC_catchUp 36 = .ok (.if_icmp .ne 11, 3) := by decide +kernel
theorem dC_catchUp_39 : decode bC_catchUp 39 = .ok (.aload_n 0, 1) := by decide +kernel
theorem dC_catchUp_40 : decode bC_catchUp 40 = .ok (.iload_n 1, 1) := by decide +kernel
theorem dC_catchUp_41 : decode bC_catchUp 41 = .ok (.invokevirtual 149, 3) := by decide +kernel
theorem dC_catchUp_44 : decode bC_catchUp 44 = .ok (.goto 20, 3) := by decide +kernel
theorem dC_catchUp_47 : decode bC_catchUp 47 = .ok (.aload_n 0, 1) := by decide +kernel
theorem dC_catchUp_48 : decode bC_catchUp 48 = .ok (.getfield 11, 3) := by decide +kernel
theorem dC_catchUp_51 : decode bC_catchUp 51 = .ok (.iload_n 1, 1) := by decide +kernel
theorem dC_catchUp_52 : decode bC_catchUp 52 = .ok (.invokevirtual 148, 3) := by decide +kernel
theorem dC_catchUp_55 : decode bC_catchUp 55 = .ok (.iconst 3, 1) := by decide +kernel
theorem dC_catchUp_56 : decode bC_catchUp 56 = .ok (.if_icmp .ne 8, 3) := by decide +kernel
theorem dC_catchUp_59 : decode bC_catchUp 59 = .ok (.aload_n 0, 1) := by decide +kernel
theorem dC_catchUp_60 : decode bC_catchUp 60 = .ok (.iload_n 1, 1) := by decide +kernel
theorem dC_catchUp_61 : decode bC_catchUp 61 = .ok (.invokevirtual 152, 3) := by decide +kernel
theorem dC_catchUp_64 : decode bC_catchUp 64 = .ok (.iinc 1 1, 3) := by decide +kernel
theorem dC_catchUp_67 : decode bC_catchUp 67 = .ok (.goto (-51), 3) := by decide +kernel
theorem dC_catchUp_70 : decode bC_catchUp 70 = .ok (.aload_n 0, 1) := by decide +kernel
theorem dC_catchUp_71 : decode bC_catchUp 71 = .ok (.aload_n 0, 1) := by decide +kernel
theorem dC_catchUp_72 : decode bC_catchUp 72 = .ok (.getfield 11, 3) := by decide +kernel
theorem dC_catchUp_75 : decode bC_catchUp 75 = .ok (.invokevirtual 82, 3) := by decide +kernel
theorem dC_catchUp_78 : decode bC_catchUp 78 = .ok (.putfield 46, 3) := by decide +kernel
theorem dC_catchUp_81 : decode bC_catchUp 81 = .ok (.aload_n 0, 1) := by decide +kernel
theorem dC_catchUp_82 : decode bC_catchUp 82 = .ok (.getfield 50, 3) := by decide +kernel
theorem dC_catchUp_85 : decode bC_catchUp 85 = .ok (.iconst 1, 1) := by decide +kernel
theorem dC_catchUp_86 : decode bC_catchUp 86 = .ok (.iadd, 1) := by decide +kernel
theorem dC_catchUp_87 : decode bC_catchUp 87 = .ok (.istore_n 1, 1) := by decide +kernel
theorem dC_catchUp_88 : decode bC_catchUp 88 = .ok (.iload_n 1, 1) := by decide +kernel
theorem dC_catchUp_89 : decode bC_catchUp 89 = .ok (.aload_n 0, 1) := by decide +kernel
theorem dC_catchUp_90 : decode bC_catchUp 90 = .ok (.getfield 15, 3) := by decide +kernel
theorem dC_catchUp_93 : decode bC_catchUp 93 = .ok (.invokevirtual 155, 3) := by decide +kernel
theorem dC_catchUp_96 : decode bC_catchUp 96 = .ok (.if_icmp .gt 25, 3) := by decide +kernel
theorem dC_catchUp_99 : decode bC_catchUp 99 = .ok (.aload_n 0, 1) := by decide +kernel
theorem dC_catchUp_100 : decode bC_catchUp 100 = .ok (.getfield 15, 3) := by decide +kernel
theorem dC_catchUp_103 : decode bC_catchUp 103 = .ok (.iload_n 1, 1) := by decide +kernel
theorem dC_catchUp_104 : decode bC_catchUp 104 = .ok (.invokevirtual 158, 3) := by decide +kernel
theorem dC_catchUp_107 : decode bC_catchUp 107 = .ok (.ifCond .eq 8, 3) := by decide +kernel
theorem dC_catchUp_110 : decode bC_catchUp 110 = .ok (.aload_n 0, 1) := by decide +kernel
theorem dC_catchUp_111 : decode bC_catchUp 111 = .ok (.iload_n 1, 1) := by decide +kernel
theorem dC_catchUp_112 : decode bC_catchUp 112 = .ok (.invokevirtual 161, 3) := by decide +kernel
theorem dC_catchUp_115 : decode bC_catchUp 115 = .ok (.iinc 1 1, 3) := by decide +kernel
theorem dC_catchUp_118 : decode bC_catchUp 118 = .ok (.goto (-30), 3) := by decide +kernel
theorem dC_catchUp_121 : decode bC_catchUp 121 = .ok (.aload_n 0, 1) := by decide +kernel
theorem dC_catchUp_122 : decode bC_catchUp 122 = .ok (.aload_n 0, 1) := by decide +kernel
theorem dC_catchUp_123 : decode bC_catchUp 123 = .ok (.getfield 15, 3) := by decide +kernel
theorem dC_catchUp_126 : decode bC_catchUp 126 = .ok (.invokevirtual 155, 3) := by decide +kernel
theorem dC_catchUp_129 : decode bC_catchUp 129 = .ok (.putfield 50, 3) := by decide +kernel
theorem dC_catchUp_132 : decode bC_catchUp 132 = .ok (.return_, 1) := by decide +kernel
theorem dC_admitBoth_0 : decode bC_admitBoth 0 = .ok (.aload_n 0, 1) := by decide +kernel
theorem dC_admitBoth_1 : decode bC_admitBoth 1 = .ok (.getfield 11, 3) := by decide +kernel
theorem dC_admitBoth_4 : decode bC_admitBoth 4 = .ok (.iload_n 1, 1) := by decide +kernel
theorem dC_admitBoth_5 : decode bC_admitBoth 5 = .ok (.invokevirtual 164, 3) := by decide +kernel
theorem dC_admitBoth_8 : decode bC_admitBoth 8 = .ok (.bipush 6, 2) := by decide +kernel
theorem dC_admitBoth_10 : decode bC_admitBoth 10 = .ok (.invokestatic 57, 3) := by decide +kernel
theorem dC_admitBoth_13 : decode bC_admitBoth 13 = .ok (.istore_n 2, 1) := by decide +kernel
theorem dC_admitBoth_14 : decode bC_admitBoth 14 = .ok (.aload_n 0, 1) := by decide +kernel
theorem dC_admitBoth_15 : decode bC_admitBoth 15 = .ok (.getfield 28, 3) := by decide +kernel
theorem dC_admitBoth_18 : decode bC_admitBoth 18 = .ok (.iload_n 2, 1) := by decide +kernel
theorem dC_admitBoth_19 : decode bC_admitBoth 19 = .ok (.iconst 0, 1) := by decide +kernel
theorem dC_admitBoth_20 : decode bC_admitBoth 20 = .ok (.invokevirtual 69, 3) := by decide +kernel
theorem dC_admitBoth_23 : decode bC_admitBoth 23 = .ok (.istore_n 3, 1) := by decide +kernel
theorem dC_admitBoth_24 : decode bC_admitBoth 24 = .ok (.iload_n 3, 1) := by decide +kernel
theorem dC_admitBoth_25 : decode bC_admitBoth 25 = .ok (.sipush 160, 3) := by decide +kernel
theorem dC_admitBoth_28 : decode bC_admitBoth 28 = .ok (.if_icmp .ge 50, 3) := by decide +kernel
theorem dC_admitBoth_31 : decode bC_admitBoth 31 = .ok (.aload_n 0, 1) := by decide +kernel
theorem dC_admitBoth_32 : decode bC_admitBoth 32 = .ok (.getfield 24, 3) := by decide +kernel
theorem dC_admitBoth_35 : decode bC_admitBoth 35 = .ok (.iload_n 3, 1) := by decide +kernel
theorem dC_admitBoth_36 : decode bC_admitBoth 36 = .ok (.bipush 6, 2) := by decide +kernel
theorem dC_admitBoth_38 : decode bC_admitBoth 38 = .ok (.invokestatic 57, 3) := by decide +kernel
theorem dC_admitBoth_41 : decode bC_admitBoth 41 = .ok (.aload_n 0, 1) := by decide +kernel
theorem dC_admitBoth_42 : decode bC_admitBoth 42 = .ok (.getfield 11, 3) := by decide +kernel
theorem dC_admitBoth_45 : decode bC_admitBoth 45 = .ok (.iload_n 1, 1) := by decide +kernel
theorem dC_admitBoth_46 : decode bC_admitBoth 46 = .ok (.invokevirtual 167, 3) := by decide +kernel
theorem dC_admitBoth_49 : decode bC_admitBoth 49 = .ok (.invokevirtual 61, 3) := by decide +kernel
theorem dC_admitBoth_52 : decode bC_admitBoth 52 = .ok (.ifCond .eq 11, 3) := by decide +kernel
theorem dC_admitBoth_55 : decode bC_admitBoth 55 = .ok (.aload_n 0, 1) := by decide +kernel
theorem dC_admitBoth_56 : decode bC_admitBoth 56 = .ok (.iload_n 3, 1) := by decide +kernel
theorem dC_admitBoth_57 : decode bC_admitBoth 57 = .ok (.bipush 6, 2) := by decide +kernel
theorem dC_admitBoth_59 : decode bC_admitBoth 59 = .ok (.iload_n 1, 1) := by decide +kernel
theorem dC_admitBoth_60 : decode bC_admitBoth 60 = .ok (.invokevirtual 94, 3) := by decide +kernel
theorem dC_admitBoth_63 : decode bC_admitBoth 63 = .ok (.aload_n 0, 1) := by decide +kernel
theorem dC_admitBoth_64 : decode bC_admitBoth 64 = .ok (.getfield 28, 3) := by decide +kernel
theorem dC_admitBoth_67 : decode bC_admitBoth 67 = .ok (.iload_n 2, 1) := by decide +kernel
theorem dC_admitBoth_68 : decode bC_admitBoth 68 = .ok (.iload_n 3, 1) := by decide +kernel
theorem dC_admitBoth_69 : decode bC_admitBoth 69 = .ok (.iconst 1, 1) := by decide +kernel
theorem dC_admitBoth_70 : decode bC_admitBoth 70 = .ok (.iadd, 1) := by decide +kernel
theorem dC_admitBoth_71 : decode bC_admitBoth 71 = .ok (.invokevirtual 69, 3) := by decide +kernel
theorem dC_admitBoth_74 : decode bC_admitBoth 74 = .ok (.istore_n 3, 1) := by decide +kernel
theorem dC_admitBoth_75 : decode bC_admitBoth 75 = .ok (.goto (-51), 3) := by decide +kernel
theorem dC_admitBoth_78 : decode bC_admitBoth 78 = .ok (.return_, 1) := by decide +kernel
theorem dC_admitSome_0 : decode bC_admitSome 0 = .ok (.aload_n 0, 1) := by decide +kernel
theorem dC_admitSome_1 : decode bC_admitSome 1 = .ok (.getfield 11, 3) := by decide +kernel
theorem dC_admitSome_4 : decode bC_admitSome 4 = .ok (.iload_n 1, 1) := by decide +kernel
theorem dC_admitSome_5 : decode bC_admitSome 5 = .ok (.invokevirtual 167, 3) := by decide +kernel
theorem dC_admitSome_8 : decode bC_admitSome 8 = .ok (.bipush 6, 2) := by decide +kernel
theorem dC_admitSome_10 : decode bC_admitSome 10 = .ok (.invokestatic 57, 3) := by decide +kernel
theorem dC_admitSome_13 : decode bC_admitSome 13 = .ok (.istore_n 2, 1) := by decide +kernel
theorem dC_admitSome_14 : decode bC_admitSome 14 = .ok (.aload_n 0, 1) := by decide +kernel
theorem dC_admitSome_15 : decode bC_admitSome 15 = .ok (.getfield 28, 3) := by decide +kernel
theorem dC_admitSome_18 : decode bC_admitSome 18 = .ok (.iload_n 2, 1) := by decide +kernel
theorem dC_admitSome_19 : decode bC_admitSome 19 = .ok (.iconst 0, 1) := by decide +kernel
theorem dC_admitSome_20 : decode bC_admitSome 20 = .ok (.invokevirtual 69, 3) := by decide +kernel
theorem dC_admitSome_23 : decode bC_admitSome 23 = .ok (.istore_n 3, 1) := by decide +kernel
theorem dC_admitSome_24 : decode bC_admitSome 24 = .ok (.iload_n 3, 1) := by decide +kernel
theorem dC_admitSome_25 : decode bC_admitSome 25 = .ok (.sipush 160, 3) := by decide +kernel
theorem dC_admitSome_28 : decode bC_admitSome 28 = .ok (.if_icmp .ge 37, 3) := by decide +kernel
theorem dC_admitSome_31 : decode bC_admitSome 31 = .ok (.aload_n 0, 1) := by decide +kernel
theorem dC_admitSome_32 : decode bC_admitSome 32 = .ok (.iload_n 3, 1) := by decide +kernel
theorem dC_admitSome_33 : decode bC_admitSome 33 = .ok (.aload_n 0, 1) := by decide +kernel
theorem dC_admitSome_34 : decode bC_admitSome 34 = .ok (.getfield 11, 3) := by decide +kernel
theorem dC_admitSome_37 : decode bC_admitSome 37 = .ok (.iload_n 1, 1) := by decide +kernel
theorem dC_admitSome_38 : decode bC_admitSome 38 = .ok (.invokevirtual 164, 3) := by decide +kernel
theorem dC_admitSome_41 : decode bC_admitSome 41 = .ok (.invokestatic 57, 3) := by decide +kernel
theorem dC_admitSome_44 : decode bC_admitSome 44 = .ok (.bipush 6, 2) := by decide +kernel
theorem dC_admitSome_46 : decode bC_admitSome 46 = .ok (.iload_n 1, 1) := by decide +kernel
theorem dC_admitSome_47 : decode bC_admitSome 47 = .ok (.invokevirtual 113, 3) := by decide +kernel
theorem dC_admitSome_50 : decode bC_admitSome 50 = .ok (.aload_n 0, 1) := by decide +kernel
theorem dC_admitSome_51 : decode bC_admitSome 51 = .ok (.getfield 28, 3) := by decide +kernel
theorem dC_admitSome_54 : decode bC_admitSome 54 = .ok (.iload_n 2, 1) := by decide +kernel
theorem dC_admitSome_55 : decode bC_admitSome 55 = .ok (.iload_n 3, 1) := by decide +kernel
theorem dC_admitSome_56 : decode bC_admitSome 56 = .ok (.iconst 1, 1) := by decide +kernel
theorem dC_admitSome_57 : decode bC_admitSome 57 = .ok (.iadd, 1) := by decide +kernel
theorem dC_admitSome_58 : decode bC_admitSome 58 = .ok (.invokevirtual 69, 3) := by decide +kernel
theorem dC_admitSome_61 : decode bC_admitSome 61 = .ok (.istore_n 3, 1) := by decide +kernel
theorem dC_admitSome_62 : decode bC_admitSome 62 = .ok (.goto (-38), 3) := by decide +kernel
theorem dC_admitSome_65 : decode bC_admitSome 65 = .ok (.return_, 1) := by decide +kernel
theorem dC_emptySources_0 : decode bC_emptySources 0 = .ok (.iconst 0, 1) := by decide +kernel
theorem dC_emptySources_1 : decode bC_emptySources 1 = .ok (.istore_n 2, 1) := by decide +kernel
theorem dC_emptySources_2 : decode bC_emptySources 2 = .ok (.iload_n 2, 1) := by decide +kernel
theorem dC_emptySources_3 : decode bC_emptySources 3 = .ok (.bipush 6, 2) := by decide +kernel
theorem dC_emptySources_5 : decode bC_emptySources 5 = .ok (.if_icmp .ge 21, 3) := by decide +kernel
theorem dC_emptySources_8 : decode bC_emptySources 8 = .ok (.aload_n 0, 1) := by decide +kernel
theorem dC_emptySources_9 : decode bC_emptySources 9 = .ok (.iload_n 1, 1) := by decide +kernel
theorem dC_emptySources_10 : decode bC_emptySources 10 = .ok (.iload_n 2, 1) := by decide +kernel
theorem dC_emptySources_11 : decode bC_emptySources 11 = .ok (.invokestatic 57, 3) := by decide +kernel
theorem dC_emptySources_14 : decode bC_emptySources 14 = .ok (.bipush 6, 2) := by decide +kernel
theorem dC_emptySources_16 : decode bC_emptySources 16 = .ok (.iconst 1, 1) := by decide +kernel
theorem dC_emptySources_17 : decode bC_emptySources 17 = .ok (.invokevirtual 113, 3) := by decide +kernel
theorem dC_emptySources_20 : decode bC_emptySources 20 = .ok (.iinc 2 1, 3) := by decide +kernel
theorem dC_emptySources_23 : decode bC_emptySources 23 = .ok (.goto (-21), 3) := by decide +kernel
theorem dC_emptySources_26 : decode bC_emptySources 26 = .ok (.return_, 1) := by decide +kernel
theorem dC_drawParts_0 : decode bC_drawParts 0 = .ok (.aload_n 0, 1) := by decide +kernel
theorem dC_drawParts_1 : decode bC_drawParts 1 = .ok (.getfield 11, 3) := by decide +kernel
theorem dC_drawParts_4 : decode bC_drawParts 4 = .ok (.iload_n 2, 1) := by decide +kernel
theorem dC_drawParts_5 : decode bC_drawParts 5 = .ok (.invokevirtual 148, 3) := by decide +kernel
theorem dC_drawParts_8 : decode bC_drawParts 8 = .ok (.iconst 2, 1) := by decide +kernel
theorem dC_drawParts_9 : decode bC_drawParts 9 = .ok (.if_icmp .ne 36, 3) := by decide +kernel
theorem dC_drawParts_12 : decode bC_drawParts 12 = .ok (.aload_n 0, 1) := by decide +kernel
theorem dC_drawParts_13 : decode bC_drawParts 13 = .ok (.iload_n 1, 1) := by decide +kernel
theorem dC_drawParts_14 : decode bC_drawParts 14 = .ok (.bipush 6, 2) := by decide +kernel
theorem dC_drawParts_16 : decode bC_drawParts 16 = .ok (.aload_n 0, 1) := by decide +kernel
theorem dC_drawParts_17 : decode bC_drawParts 17 = .ok (.getfield 11, 3) := by decide +kernel
theorem dC_drawParts_20 : decode bC_drawParts 20 = .ok (.iload_n 2, 1) := by decide +kernel
theorem dC_drawParts_21 : decode bC_drawParts 21 = .ok (.invokevirtual 164, 3) := by decide +kernel
theorem dC_drawParts_24 : decode bC_drawParts 24 = .ok (.invokevirtual 94, 3) := by decide +kernel
theorem dC_drawParts_27 : decode bC_drawParts 27 = .ok (.aload_n 0, 1) := by decide +kernel
theorem dC_drawParts_28 : decode bC_drawParts 28 = .ok (.iload_n 1, 1) := by decide +kernel
theorem dC_drawParts_29 : decode bC_drawParts 29 = .ok (.bipush 6, 2) := by decide +kernel
theorem dC_drawParts_31 : decode bC_drawParts 31 = .ok (.aload_n 0, 1) := by decide +kernel
theorem dC_drawParts_32 : decode bC_drawParts 32 = .ok (.getfield 11, 3) := by decide +kernel
theorem dC_drawParts_35 : decode bC_drawParts 35 = .ok (.iload_n 2, 1) := by decide +kernel
theorem dC_drawParts_36 : decode bC_drawParts 36 = .ok (.invokevirtual 167, 3) := by decide +kernel
theorem dC_drawParts_39 : decode bC_drawParts 39 = .ok (.invokevirtual 94, 3) := by decide +kernel
theorem dC_drawParts_42 : decode bC_drawParts 42 = .ok (.goto 36, 3) := by decide +kernel
theorem dC_drawParts_45 : decode bC_drawParts 45 = .ok (.aload_n 0, 1) := by decide +kernel
theorem dC_drawParts_46 : decode bC_drawParts 46 = .ok (.getfield 11, 3) := by decide +kernel
theorem dC_drawParts_49 : decode bC_drawParts 49 = .ok (.iload_n 2, 1) := by decide +kernel
theorem dC_drawParts_50 : decode bC_drawParts 50 = .ok (.invokevirtual 148, 3) := by decide +kernel
theorem dC_drawParts_53 : decode bC_drawParts 53 = .ok (.iconst 3, 1) := by decide +kernel
theorem dC_drawParts_54 : decode bC_drawParts 54 = .ok (.if_icmp .ne 24, 3) := by decide +kernel
theorem dC_drawParts_57 : decode bC_drawParts 57 = .ok (.aload_n 0, 1) := by decide +kernel
theorem dC_drawParts_58 : decode bC_drawParts 58 = .ok (.iload_n 1, 1) := by decide +kernel
theorem dC_drawParts_59 : decode bC_drawParts 59 = .ok (.aload_n 0, 1) := by decide +kernel
theorem dC_drawParts_60 : decode bC_drawParts 60 = .ok (.getfield 11, 3) := by decide +kernel
theorem dC_drawParts_63 : decode bC_drawParts 63 = .ok (.iload_n 2, 1) := by decide +kernel
theorem dC_drawParts_64 : decode bC_drawParts 64 = .ok (.invokevirtual 164, 3) := by decide +kernel
theorem dC_drawParts_67 : decode bC_drawParts 67 = .ok (.aload_n 0, 1) := by decide +kernel
theorem dC_drawParts_68 : decode bC_drawParts 68 = .ok (.getfield 11, 3) := by decide +kernel
theorem dC_drawParts_71 : decode bC_drawParts 71 = .ok (.iload_n 2, 1) := by decide +kernel
theorem dC_drawParts_72 : decode bC_drawParts 72 = .ok (.invokevirtual 167, 3) := by decide +kernel
theorem dC_drawParts_75 : decode bC_drawParts 75 = .ok (.invokevirtual 94, 3) := by decide +kernel
theorem dC_drawParts_78 : decode bC_drawParts 78 = .ok (.return_, 1) := by decide +kernel
theorem dC_drawBoths_0 : decode bC_drawBoths 0 = .ok (.aload_n 0, 1) := by decide +kernel
theorem dC_drawBoths_1 : decode bC_drawBoths 1 = .ok (.getfield 11, 3) := by decide +kernel
theorem dC_drawBoths_4 : decode bC_drawBoths 4 = .ok (.getfield 170, 3) := by decide +kernel
theorem dC_drawBoths_7 : decode bC_drawBoths 7 = .ok (.astore_n 3, 1) := by decide +kernel
theorem dC_drawBoths_8 : decode bC_drawBoths 8 = .ok (.aload_n 3, 1) := by decide +kernel
theorem dC_drawBoths_9 : decode bC_drawBoths 9 = .ok (.iload_n 2, 1) := by decide +kernel
theorem dC_drawBoths_10 : decode bC_drawBoths 10 = .ok (.iconst 0, 1) := by decide +kernel
theorem dC_drawBoths_11 : decode bC_drawBoths 11 = .ok (.invokevirtual 69, 3) := by decide +kernel
theorem dC_drawBoths_14 : decode bC_drawBoths 14 = .ok (.istore 4, 2) := by decide +kernel
theorem dC_drawBoths_16 : decode bC_drawBoths 16 = .ok (.iload 4, 2) := by decide +kernel
theorem dC_drawBoths_18 : decode bC_drawBoths 18 = .ok (.sipush 160, 3) := by decide +kernel
theorem dC_drawBoths_21 : decode bC_drawBoths 21 = .ok (.if_icmp .ge 52, 3) := by decide +kernel
theorem dC_drawBoths_24 : decode bC_drawBoths 24 = .ok (.aload_n 0, 1) := by decide +kernel
theorem dC_drawBoths_25 : decode bC_drawBoths 25 = .ok (.getfield 24, 3) := by decide +kernel
theorem dC_drawBoths_28 : decode bC_drawBoths 28 = .ok (.iload_n 1, 1) := by decide +kernel
theorem dC_drawBoths_29 : decode bC_drawBoths 29 = .ok (.bipush 6, 2) := by decide +kernel
theorem dC_drawBoths_31 : decode bC_drawBoths 31 = .ok (.invokestatic 57, 3) := by decide +kernel
theorem dC_drawBoths_34 : decode bC_drawBoths 34 = .ok (.aload_n 0, 1) := by decide +kernel
theorem dC_drawBoths_35 : decode bC_drawBoths 35 = .ok (.getfield 11, 3) := by decide +kernel
theorem dC_drawBoths_38 : decode bC_drawBoths 38 = .ok (.iload 4, 2) := by decide +kernel
theorem dC_drawBoths_40 : decode bC_drawBoths 40 = .ok (.iload_n 2, 1) := by decide +kernel
theorem dC_drawBoths_41 : decode bC_drawBoths 41 = .ok (.invokevirtual 173, 3) := by decide +kernel
theorem dC_drawBoths_44 : decode bC_drawBoths 44 = .ok (.invokevirtual 61, 3) := by decide +kernel
theorem dC_drawBoths_47 : decode bC_drawBoths 47 = .ok (.ifCond .eq 12, 3) := by decide +kernel
theorem dC_drawBoths_50 : decode bC_drawBoths 50 = .ok (.aload_n 0, 1) := by decide +kernel
theorem dC_drawBoths_51 : decode bC_drawBoths 51 = .ok (.iload_n 1, 1) := by decide +kernel
theorem dC_drawBoths_52 : decode bC_drawBoths 52 = .ok (.bipush 6, 2) := by decide +kernel
theorem dC_drawBoths_54 : decode bC_drawBoths 54 = .ok (.iload 4, 2) := by decide +kernel
theorem dC_drawBoths_56 : decode bC_drawBoths 56 = .ok (.invokevirtual 94, 3) := by decide +kernel
theorem dC_drawBoths_59 : decode bC_drawBoths 59 = .ok (.aload_n 3, 1) := by decide +kernel
theorem dC_drawBoths_60 : decode bC_drawBoths 60 = .ok (.iload_n 2, 1) := by decide +kernel
theorem dC_drawBoths_61 : decode bC_drawBoths 61 = .ok (.iload 4, 2) := by decide +kernel
theorem dC_drawBoths_63 : decode bC_drawBoths 63 = .ok (.iconst 1, 1) := by decide +kernel
theorem dC_drawBoths_64 : decode bC_drawBoths 64 = .ok (.iadd, 1) := by decide +kernel
theorem dC_drawBoths_65 : decode bC_drawBoths 65 = .ok (.invokevirtual 69, 3) := by decide +kernel
theorem dC_drawBoths_68 : decode bC_drawBoths 68 = .ok (.istore 4, 2) := by decide +kernel
theorem dC_drawBoths_70 : decode bC_drawBoths 70 = .ok (.goto (-54), 3) := by decide +kernel
theorem dC_drawBoths_73 : decode bC_drawBoths 73 = .ok (.return_, 1) := by decide +kernel
theorem dC_drawSomes_0 : decode bC_drawSomes 0 = .ok (.iconst 0, 1) := by decide +kernel
theorem dC_drawSomes_1 : decode bC_drawSomes 1 = .ok (.istore_n 3, 1) := by decide +kernel
theorem dC_drawSomes_2 : decode bC_drawSomes 2 = .ok (.iload_n 3, 1) := by decide +kernel
theorem dC_drawSomes_3 : decode bC_drawSomes 3 = .ok (.bipush 6, 2) := by decide +kernel
theorem dC_drawSomes_5 : decode bC_drawSomes 5 = .ok (.if_icmp .ge 39, 3) := by decide +kernel
theorem dC_drawSomes_8 : decode bC_drawSomes 8 = .ok (.aload_n 0, 1) := by decide +kernel
theorem dC_drawSomes_9 : decode bC_drawSomes 9 = .ok (.getfield 11, 3) := by decide +kernel
theorem dC_drawSomes_12 : decode bC_drawSomes 12 = .ok (.iload_n 3, 1) := by decide +kernel
theorem dC_drawSomes_13 : decode bC_drawSomes 13 = .ok (.iload_n 2, 1) := by decide +kernel
theorem dC_drawSomes_14 : decode bC_drawSomes 14 = .ok (.invokevirtual 176, 3) := by decide +kernel
theorem dC_drawSomes_17 : decode bC_drawSomes 17 = .ok (.istore 4, 2) := by decide +kernel
theorem dC_drawSomes_19 : decode bC_drawSomes 19 = .ok (.iload 4, 2) := by decide +kernel
theorem dC_drawSomes_21 : decode bC_drawSomes 21 = .ok (.iconst (-1), 1) := by decide +kernel
theorem dC_drawSomes_22 : decode bC_drawSomes 22 = .ok (.if_icmp .eq 16, 3) := by decide +kernel
theorem dC_drawSomes_25 : decode bC_drawSomes 25 = .ok (.aload_n 0, 1) := by decide +kernel
theorem dC_drawSomes_26 : decode bC_drawSomes 26 = .ok (.iload_n 1, 1) := by decide +kernel
theorem dC_drawSomes_27 : decode bC_drawSomes 27 = .ok (.iload_n 3, 1) := by decide +kernel
theorem dC_drawSomes_28 : decode bC_drawSomes 28 = .ok (.invokestatic 57, 3) := by decide +kernel
theorem dC_drawSomes_31 : decode bC_drawSomes 31 = .ok (.bipush 6, 2) := by decide +kernel
theorem dC_drawSomes_33 : decode bC_drawSomes 33 = .ok (.iload 4, 2) := by decide +kernel
theorem dC_drawSomes_35 : decode bC_drawSomes 35 = .ok (.invokevirtual 113, 3) := by decide +kernel
theorem dC_drawSomes_38 : decode bC_drawSomes 38 = .ok (.iinc 3 1, 3) := by decide +kernel
theorem dC_drawSomes_41 : decode bC_drawSomes 41 = .ok (.goto (-39), 3) := by decide +kernel
theorem dC_drawSomes_44 : decode bC_drawSomes 44 = .ok (.return_, 1) := by decide +kernel
theorem dC_drawFromLink_0 : decode bC_drawFromLink 0 = .ok (.aload_n 0, 1) := by decide +kernel
theorem dC_drawFromLink_1 : decode bC_drawFromLink 1 = .ok (.iload_n 3, 1) := by decide +kernel
theorem dC_drawFromLink_2 : decode bC_drawFromLink 2 = .ok (.invokevirtual 75, 3) := by decide +kernel
theorem dC_drawFromLink_5 : decode bC_drawFromLink 5 = .ok (.aload_n 0, 1) := by decide +kernel
theorem dC_drawFromLink_6 : decode bC_drawFromLink 6 = .ok (.iload_n 3, 1) := by decide +kernel
theorem dC_drawFromLink_7 : decode bC_drawFromLink 7 = .ok (.invokevirtual 65, 3) := by decide +kernel
theorem dC_drawFromLink_10 : decode bC_drawFromLink 10 = .ok (.ifCond .eq 12, 3) := by decide +kernel
theorem dC_drawFromLink_13 : decode bC_drawFromLink 13 = .ok (.aload_n 0, 1) := by decide +kernel
theorem dC_drawFromLink_14 : decode bC_drawFromLink 14 = .ok (.iload_n 1, 1) := by decide +kernel
theorem dC_drawFromLink_15 : decode bC_drawFromLink 15 = .ok (.bipush 6, 2) := by decide +kernel
theorem dC_drawFromLink_17 : decode bC_drawFromLink 17 = .ok (.iconst 1, 1) := by decide +kernel
theorem dC_drawFromLink_18 : decode bC_drawFromLink 18 = .ok (.invokevirtual 94, 3) := by decide +kernel
theorem dC_drawFromLink_21 : decode bC_drawFromLink 21 = .ok (.return_, 1) := by decide +kernel
theorem dC_drawFromLink_22 : decode bC_drawFromLink 22 = .ok (.aload_n 0, 1) := by decide +kernel
theorem dC_drawFromLink_23 : decode bC_drawFromLink 23 = .ok (.getfield 40, 3) := by decide +kernel
theorem dC_drawFromLink_26 : decode bC_drawFromLink 26 = .ok (.iload_n 2, 1) := by decide +kernel
theorem dC_drawFromLink_27 : decode bC_drawFromLink 27 = .ok (.iconst 0, 1) := by decide +kernel
theorem dC_drawFromLink_28 : decode bC_drawFromLink 28 = .ok (.invokevirtual 69, 3) := by decide +kernel
theorem dC_drawFromLink_31 : decode bC_drawFromLink 31 = .ok (.istore 4, 2) := by decide +kernel
theorem dC_drawFromLink_33 : decode bC_drawFromLink 33 = .ok (.iload 4, 2) := by decide +kernel
theorem dC_drawFromLink_35 : decode bC_drawFromLink 35 = .ok (.bipush 6, 2) := by decide +kernel
theorem dC_drawFromLink_37 : decode bC_drawFromLink 37 = .ok (.if_icmp .ge 28, 3) := by decide +kernel
theorem dC_drawFromLink_40 : decode bC_drawFromLink 40 = .ok (.aload_n 0, 1) := by decide +kernel
theorem dC_drawFromLink_41 : decode bC_drawFromLink 41 = .ok (.iload_n 1, 1) := by decide +kernel
theorem dC_drawFromLink_42 : decode bC_drawFromLink 42 = .ok (.iload 4, 2) := by decide +kernel
theorem dC_drawFromLink_44 : decode bC_drawFromLink 44 = .ok (.iload_n 3, 1) := by decide +kernel
theorem dC_drawFromLink_45 : decode bC_drawFromLink 45 = .ok (.invokevirtual 94, 3) := by decide +kernel
theorem dC_drawFromLink_48 : decode bC_drawFromLink 48 = .ok (.aload_n 0, 1) := by decide +kernel
theorem dC_drawFromLink_49 : decode bC_drawFromLink 49 = .ok (.getfield 40, 3) := by decide +kernel
theorem dC_drawFromLink_52 : decode bC_drawFromLink 52 = .ok (.iload_n 2, 1) := by decide +kernel
theorem dC_drawFromLink_53 : decode bC_drawFromLink 53 = .ok (.iload 4, 2) := by decide +kernel
theorem dC_drawFromLink_55 : decode bC_drawFromLink 55 = .ok (.iconst 1, 1) := by decide +kernel
theorem dC_drawFromLink_56 : decode bC_drawFromLink 56 = .ok (.iadd, 1) := by decide +kernel
theorem dC_drawFromLink_57 : decode bC_drawFromLink 57 = .ok (.invokevirtual 69, 3) := by decide +kernel
theorem dC_drawFromLink_60 : decode bC_drawFromLink 60 = .ok (.istore 4, 2) := by decide +kernel
theorem dC_drawFromLink_62 : decode bC_drawFromLink 62 = .ok (.goto (-29), 3) := by decide +kernel
theorem dC_drawFromLink_65 : decode bC_drawFromLink 65 = .ok (.iload_n 3, 1) := by decide +kernel
theorem dC_drawFromLink_66 : decode bC_drawFromLink 66 = .ok (.bipush 6, 2) := by decide +kernel
theorem dC_drawFromLink_68 : decode bC_drawFromLink 68 = .ok (.invokestatic 57, 3) := by decide +kernel
theorem dC_drawFromLink_71 : decode bC_drawFromLink 71 = .ok (.istore 4, 2) := by decide +kernel
theorem dC_drawFromLink_73 : decode bC_drawFromLink 73 = .ok (.aload_n 0, 1) := by decide +kernel
theorem dC_drawFromLink_74 : decode bC_drawFromLink 74 = .ok (.getfield 11, 3) := by decide +kernel
theorem dC_drawFromLink_77 : decode bC_drawFromLink 77 = .ok (.getfield 179, 3) := by decide +kernel
theorem dC_drawFromLink_80 : decode bC_drawFromLink 80 = .ok (.astore 5, 2) := by decide +kernel
theorem dC_drawFromLink_82 : decode bC_drawFromLink 82 = .ok (.aload 5, 2) := by decide +kernel
theorem dC_drawFromLink_84 : decode bC_drawFromLink 84 = .ok (.iload_n 2, 1) := by decide +kernel
theorem dC_drawFromLink_85 : decode bC_drawFromLink 85 = .ok (.iconst 0, 1) := by decide +kernel
theorem dC_drawFromLink_86 : decode bC_drawFromLink 86 = .ok (.invokevirtual 69, 3) := by decide +kernel
theorem dC_drawFromLink_89 : decode bC_drawFromLink 89 = .ok (.istore 6, 2) := by decide +kernel
theorem dC_drawFromLink_91 : decode bC_drawFromLink 91 = .ok (.iload 6, 2) := by decide +kernel
theorem dC_drawFromLink_93 : decode bC_drawFromLink 93 = .ok (.sipush 160, 3) := by decide +kernel
theorem dC_drawFromLink_96 : decode bC_drawFromLink 96 = .ok (.if_icmp .ge 49, 3) := by decide +kernel
theorem dC_drawFromLink_99 : decode bC_drawFromLink 99 = .ok (.aload_n 0, 1) := by decide +kernel
theorem dC_drawFromLink_100 : decode bC_drawFromLink 100 = .ok (.getfield 24, 3) := by decide +kernel
theorem dC_drawFromLink_103 : decode bC_drawFromLink 103 = .ok (.iload 4, 2) := by decide +kernel
theorem dC_drawFromLink_105 : decode bC_drawFromLink 105 = .ok (.iload 6, 2) := by decide +kernel
theorem dC_drawFromLink_107 : decode bC_drawFromLink 107 = .ok (.invokevirtual 61, 3) := by decide +kernel
theorem dC_drawFromLink_110 : decode bC_drawFromLink 110 = .ok (.ifCond .eq 20, 3) := by decide +kernel
theorem dC_drawFromLink_113 : decode bC_drawFromLink 113 = .ok (.aload_n 0, 1) := by decide +kernel
theorem dC_drawFromLink_114 : decode bC_drawFromLink 114 = .ok (.iload_n 1, 1) := by decide +kernel
theorem dC_drawFromLink_115 : decode bC_drawFromLink 115 = .ok (.bipush 6, 2) := by decide +kernel
theorem dC_drawFromLink_117 : decode bC_drawFromLink 117 = .ok (.aload_n 0, 1) := by decide +kernel
theorem dC_drawFromLink_118 : decode bC_drawFromLink 118 = .ok (.getfield 11, 3) := by decide +kernel
theorem dC_drawFromLink_121 : decode bC_drawFromLink 121 = .ok (.iload_n 2, 1) := by decide +kernel
theorem dC_drawFromLink_122 : decode bC_drawFromLink 122 = .ok (.iload 6, 2) := by decide +kernel
theorem dC_drawFromLink_124 : decode bC_drawFromLink 124 = .ok (.invokevirtual 176, 3) := by decide +kernel
theorem dC_drawFromLink_127 : decode bC_drawFromLink 127 = .ok (.invokevirtual 94, 3) := by decide +kernel
theorem dC_drawFromLink_130 : decode bC_drawFromLink 130 = .ok (.aload 5, 2) := by decide +kernel
theorem dC_drawFromLink_132 : decode bC_drawFromLink 132 = .ok (.iload_n 2, 1) := by decide +kernel
theorem dC_drawFromLink_133 : decode bC_drawFromLink 133 = .ok (.iload 6, 2) := by decide +kernel
theorem dC_drawFromLink_135 : decode bC_drawFromLink 135 = .ok (.iconst 1, 1) := by decide +kernel
theorem dC_drawFromLink_136 : decode bC_drawFromLink 136 = .ok (.iadd, 1) := by decide +kernel
theorem dC_drawFromLink_137 : decode bC_drawFromLink 137 = .ok (.invokevirtual 69, 3) := by decide +kernel
theorem dC_drawFromLink_140 : decode bC_drawFromLink 140 = .ok (.istore 6, 2) := by decide +kernel
theorem dC_drawFromLink_142 : decode bC_drawFromLink 142 = .ok (.goto (-51), 3) := by decide +kernel
theorem dC_drawFromLink_145 : decode bC_drawFromLink 145 = .ok (.return_, 1) := by decide +kernel
theorem dC_drawFromChains_0 : decode bC_drawFromChains 0 = .ok (.iconst 0, 1) := by decide +kernel
theorem dC_drawFromChains_1 : decode bC_drawFromChains 1 = .ok (.istore 4, 2) := by decide +kernel
theorem dC_drawFromChains_3 : decode bC_drawFromChains 3 = .ok (.iload 4, 2) := by decide +kernel
theorem dC_drawFromChains_5 : decode bC_drawFromChains 5 = .ok (.bipush 6, 2) := by decide +kernel
theorem dC_drawFromChains_7 : decode bC_drawFromChains 7 = .ok (.if_icmp .ge 131, 3) := by decide +kernel
theorem dC_drawFromChains_10 : decode bC_drawFromChains 10 = .ok (.iload_n 2, 1) := by decide +kernel
theorem dC_drawFromChains_11 : decode bC_drawFromChains 11 = .ok (.bipush 6, 2) := by decide +kernel
theorem dC_drawFromChains_13 : decode bC_drawFromChains 13 = .ok (.imul, 1) := by decide +kernel
theorem dC_drawFromChains_14 : decode bC_drawFromChains 14 = .ok (.iload 4, 2) := by decide +kernel
theorem dC_drawFromChains_16 : decode bC_drawFromChains 16 = .ok (.iadd, 1) := by decide +kernel
theorem dC_drawFromChains_17 : decode bC_drawFromChains 17 = .ok (.istore 5, 2) := by decide +kernel
theorem dC_drawFromChains_19 : decode bC_drawFromChains 19 = .ok (.aload_n 0, 1) := by decide +kernel
theorem dC_drawFromChains_20 : decode bC_drawFromChains 20 = .ok (.getfield 43, 3) := by decide +kernel
theorem dC_drawFromChains_23 : decode bC_drawFromChains 23 = .ok (.iload 5, 2) := by decide +kernel
theorem dC_drawFromChains_25 : decode bC_drawFromChains 25 = .ok (.iconst 0, 1) := by decide +kernel
theorem dC_drawFromChains_26 : decode bC_drawFromChains 26 = .ok (.invokevirtual 69, 3) := by decide +kernel
theorem dC_drawFromChains_29 : decode bC_drawFromChains 29 = .ok (.istore 6, 2) := by decide +kernel
theorem dC_drawFromChains_31 : decode bC_drawFromChains 31 = .ok (.iload 6, 2) := by decide +kernel
theorem dC_drawFromChains_33 : decode bC_drawFromChains 33 = .ok (.bipush 6, 2) := by decide +kernel
theorem dC_drawFromChains_35 : decode bC_drawFromChains 35 = .ok (.if_icmp .ge 38, 3) := by decide +kernel
theorem dC_drawFromChains_38 : decode bC_drawFromChains 38 = .ok (.aload_n 0, 1) := by decide +kernel
theorem dC_drawFromChains_39 : decode bC_drawFromChains 39 = .ok (.iload_n 1, 1) := by decide +kernel
theorem dC_drawFromChains_40 : decode bC_drawFromChains 40 = .ok (.iload 6, 2) := by decide +kernel
theorem dC_drawFromChains_42 : decode bC_drawFromChains 42 = .ok (.aload_n 0, 1) := by decide +kernel
theorem dC_drawFromChains_43 : decode bC_drawFromChains 43 = .ok (.getfield 24, 3) := by decide +kernel
theorem dC_drawFromChains_46 : decode bC_drawFromChains 46 = .ok (.iload_n 3, 1) := by decide +kernel
theorem dC_drawFromChains_47 : decode bC_drawFromChains 47 = .ok (.iload 4, 2) := by decide +kernel
theorem dC_drawFromChains_49 : decode bC_drawFromChains 49 = .ok (.invokestatic 57, 3) := by decide +kernel
theorem dC_drawFromChains_52 : decode bC_drawFromChains 52 = .ok (.invokevirtual 126, 3) := by decide +kernel
theorem dC_drawFromChains_55 : decode bC_drawFromChains 55 = .ok (.aload_n 0, 1) := by decide +kernel
theorem dC_drawFromChains_56 : decode bC_drawFromChains 56 = .ok (.getfield 43, 3) := by decide +kernel
theorem dC_drawFromChains_59 : decode bC_drawFromChains 59 = .ok (.iload 5, 2) := by decide +kernel
theorem dC_drawFromChains_61 : decode bC_drawFromChains 61 = .ok (.iload 6, 2) := by decide +kernel
theorem dC_drawFromChains_63 : decode bC_drawFromChains 63 = .ok (.iconst 1, 1) := by decide +kernel
theorem dC_drawFromChains_64 : decode bC_drawFromChains 64 = .ok (.iadd, 1) := by decide +kernel
theorem dC_drawFromChains_65 : decode bC_drawFromChains 65 = .ok (.invokevirtual 69, 3) := by decide +kernel
theorem dC_drawFromChains_68 : decode bC_drawFromChains 68 = .ok (.istore 6, 2) := by decide +kernel
theorem dC_drawFromChains_70 : decode bC_drawFromChains 70 = .ok (.goto (-39), 3) := by decide +kernel
theorem dC_drawFromChains_73 : decode bC_drawFromChains 73 = .ok (.iload 4, 2) := by decide +kernel
theorem dC_drawFromChains_75 : decode bC_drawFromChains 75 = .ok (.bipush 6, 2) := by decide +kernel
theorem dC_drawFromChains_77 : decode bC_drawFromChains 77 = .ok (.imul, 1) := by decide +kernel
theorem dC_drawFromChains_78 : decode bC_drawFromChains 78 = .ok (.iload_n 2, 1) := by decide +kernel
theorem dC_drawFromChains_79 : decode bC_drawFromChains 79 = .ok (.iadd, 1) := by decide +kernel
theorem dC_drawFromChains_80 : decode bC_drawFromChains 80 = .ok (.istore 6, 2) := by decide +kernel
theorem dC_drawFromChains_82 : decode bC_drawFromChains 82 = .ok (.aload_n 0, 1) := by decide +kernel
theorem dC_drawFromChains_83 : decode bC_drawFromChains 83 = .ok (.getfield 43, 3) := by decide +kernel
theorem dC_drawFromChains_86 : decode bC_drawFromChains 86 = .ok (.iload 6, 2) := by decide +kernel
theorem dC_drawFromChains_88 : decode bC_drawFromChains 88 = .ok (.iconst 0, 1) := by decide +kernel
theorem dC_drawFromChains_89 : decode bC_drawFromChains 89 = .ok (.invokevirtual 69, 3) := by decide +kernel
theorem dC_drawFromChains_92 : decode bC_drawFromChains 92 = .ok (.istore 7, 2) := by decide +kernel
theorem dC_drawFromChains_94 : decode bC_drawFromChains 94 = .ok (.iload 7, 2) := by decide +kernel
theorem dC_drawFromChains_96 : decode bC_drawFromChains 96 = .ok (.bipush 6, 2) := by decide +kernel
theorem dC_drawFromChains_98 : decode bC_drawFromChains 98 = .ok (.if_icmp .ge 34, 3) := by decide +kernel
theorem dC_drawFromChains_101 : decode bC_drawFromChains 101 = .ok (.aload_n 0, 1) := by decide +kernel
theorem dC_drawFromChains_102 : decode bC_drawFromChains 102 = .ok (.iload_n 1, 1) := by decide +kernel
theorem dC_drawFromChains_103 : decode bC_drawFromChains 103 = .ok (.iload 4, 2) := by decide +kernel
theorem dC_drawFromChains_105 : decode bC_drawFromChains 105 = .ok (.invokestatic 57, 3) := by decide +kernel
theorem dC_drawFromChains_108 : decode bC_drawFromChains 108 = .ok (.iload 7, 2) := by decide +kernel
theorem dC_drawFromChains_110 : decode bC_drawFromChains 110 = .ok (.iload_n 3, 1) := by decide +kernel
theorem dC_drawFromChains_111 : decode bC_drawFromChains 111 = .ok (.invokevirtual 113, 3) := by decide +kernel
theorem dC_drawFromChains_114 : decode bC_drawFromChains 114 = .ok (.aload_n 0, 1) := by decide +kernel
theorem dC_drawFromChains_115 : decode bC_drawFromChains 115 = .ok (.getfield 43, 3) := by decide +kernel
theorem dC_drawFromChains_118 : decode bC_drawFromChains 118 = .ok (.iload 6, 2) := by decide +kernel
theorem dC_drawFromChains_120 : decode bC_drawFromChains 120 = .ok (.iload 7, 2) := by decide +kernel
theorem dC_drawFromChains_122 : decode bC_drawFromChains 122 = .ok (.iconst 1, 1) := by decide +kernel
theorem dC_drawFromChains_123 : decode bC_drawFromChains 123 = .ok (.iadd, 1) := by decide +kernel
theorem dC_drawFromChains_124 : decode bC_drawFromChains 124 = .ok (.invokevirtual 69, 3) := by decide +kernel
theorem dC_drawFromChains_127 : decode bC_drawFromChains 127 = .ok (.istore 7, 2) := by decide +kernel
theorem dC_drawFromChains_129 : decode bC_drawFromChains 129 = .ok (.goto (-35), 3) := by decide +kernel
theorem dC_drawFromChains_132 : decode bC_drawFromChains 132 = .ok (.iinc 4 1, 3) := by decide +kernel
theorem dC_drawFromChains_135 : decode bC_drawFromChains 135 = .ok (.goto (-132), 3) := by decide +kernel
theorem dC_drawFromChains_138 : decode bC_drawFromChains 138 = .ok (.return_, 1) := by decide +kernel
theorem dC_add_0 : decode bC_add 0 = .ok (.iload_n 1, 1) := by decide +kernel
theorem dC_add_1 : decode bC_add 1 = .ok (.iload_n 2, 1) := by decide +kernel
theorem dC_add_2 : decode bC_add 2 = .ok (.invokestatic 57, 3) := by decide +kernel
theorem dC_add_5 : decode bC_add 5 = .ok (.istore 4, 2) := by decide +kernel
theorem dC_add_7 : decode bC_add 7 = .ok (.aload_n 0, 1) := by decide +kernel
theorem dC_add_8 : decode bC_add 8 = .ok (.getfield 24, 3) := by decide +kernel
theorem dC_add_11 : decode bC_add 11 = .ok (.iload 4, 2) := by decide +kernel
theorem dC_add_13 : decode bC_add 13 = .ok (.iload_n 3, 1) := by decide +kernel
theorem dC_add_14 : decode bC_add 14 = .ok (.invokevirtual 110, 3) := by decide +kernel
theorem dC_add_17 : decode bC_add 17 = .ok (.ifCond .eq 39, 3) := by decide +kernel
theorem dC_add_20 : decode bC_add 20 = .ok (.aload_n 0, 1) := by decide +kernel
theorem dC_add_21 : decode bC_add 21 = .ok (.getfield 28, 3) := by decide +kernel
theorem dC_add_24 : decode bC_add 24 = .ok (.iload_n 3, 1) := by decide +kernel
theorem dC_add_25 : decode bC_add 25 = .ok (.iload_n 2, 1) := by decide +kernel
theorem dC_add_26 : decode bC_add 26 = .ok (.invokestatic 57, 3) := by decide +kernel
theorem dC_add_29 : decode bC_add 29 = .ok (.iload_n 1, 1) := by decide +kernel
theorem dC_add_30 : decode bC_add 30 = .ok (.invokevirtual 110, 3) := by decide +kernel
theorem dC_add_33 : decode bC_add 33 = .ok (.pop, 1) := by decide +kernel
theorem dC_add_34 : decode bC_add 34 = .ok (.aload_n 0, 1) := by decide +kernel
theorem dC_add_35 : decode bC_add 35 = .ok (.getfield 31, 3) := by decide +kernel
theorem dC_add_38 : decode bC_add 38 = .ok (.iload 4, 2) := by decide +kernel
theorem dC_add_40 : decode bC_add 40 = .ok (.iload_n 3, 1) := by decide +kernel
theorem dC_add_41 : decode bC_add 41 = .ok (.invokevirtual 110, 3) := by decide +kernel
theorem dC_add_44 : decode bC_add 44 = .ok (.pop, 1) := by decide +kernel
theorem dC_add_45 : decode bC_add 45 = .ok (.aload_n 0, 1) := by decide +kernel
theorem dC_add_46 : decode bC_add 46 = .ok (.getfield 34, 3) := by decide +kernel
theorem dC_add_49 : decode bC_add 49 = .ok (.iconst 0, 1) := by decide +kernel
theorem dC_add_50 : decode bC_add 50 = .ok (.iload 4, 2) := by decide +kernel
theorem dC_add_52 : decode bC_add 52 = .ok (.invokevirtual 110, 3) := by decide +kernel
theorem dC_add_55 : decode bC_add 55 = .ok (.pop, 1) := by decide +kernel
theorem dC_add_56 : decode bC_add 56 = .ok (.return_, 1) := by decide +kernel
theorem dC_addAll_0 : decode bC_addAll 0 = .ok (.iload_n 1, 1) := by decide +kernel
theorem dC_addAll_1 : decode bC_addAll 1 = .ok (.iload_n 2, 1) := by decide +kernel
theorem dC_addAll_2 : decode bC_addAll 2 = .ok (.invokestatic 57, 3) := by decide +kernel
theorem dC_addAll_5 : decode bC_addAll 5 = .ok (.istore 5, 2) := by decide +kernel
theorem dC_addAll_7 : decode bC_addAll 7 = .ok (.aload_n 3, 1) := by decide +kernel
theorem dC_addAll_8 : decode bC_addAll 8 = .ok (.iload 4, 2) := by decide +kernel
theorem dC_addAll_10 : decode bC_addAll 10 = .ok (.iconst 0, 1) := by decide +kernel
theorem dC_addAll_11 : decode bC_addAll 11 = .ok (.aload_n 0, 1) := by decide +kernel
theorem dC_addAll_12 : decode bC_addAll 12 = .ok (.getfield 24, 3) := by decide +kernel
theorem dC_addAll_15 : decode bC_addAll 15 = .ok (.iload 5, 2) := by decide +kernel
theorem dC_addAll_17 : decode bC_addAll 17 = .ok (.invokevirtual 182, 3) := by decide +kernel
theorem dC_addAll_20 : decode bC_addAll 20 = .ok (.istore 6, 2) := by decide +kernel
theorem dC_addAll_22 : decode bC_addAll 22 = .ok (.iload 6, 2) := by decide +kernel
theorem dC_addAll_24 : decode bC_addAll 24 = .ok (.sipush 160, 3) := by decide +kernel
theorem dC_addAll_27 : decode bC_addAll 27 = .ok (.if_icmp .ge 32, 3) := by decide +kernel
theorem dC_addAll_30 : decode bC_addAll 30 = .ok (.aload_n 0, 1) := by decide +kernel
theorem dC_addAll_31 : decode bC_addAll 31 = .ok (.iload_n 1, 1) := by decide +kernel
theorem dC_addAll_32 : decode bC_addAll 32 = .ok (.iload_n 2, 1) := by decide +kernel
theorem dC_addAll_33 : decode bC_addAll 33 = .ok (.iload 6, 2) := by decide +kernel
theorem dC_addAll_35 : decode bC_addAll 35 = .ok (.invokevirtual 94, 3) := by decide +kernel
theorem dC_addAll_38 : decode bC_addAll 38 = .ok (.aload_n 3, 1) := by decide +kernel
theorem dC_addAll_39 : decode bC_addAll 39 = .ok (.iload 4, 2) := by decide +kernel
theorem dC_addAll_41 : decode bC_addAll 41 = .ok (.iload 6, 2) := by decide +kernel
theorem dC_addAll_43 : decode bC_addAll 43 = .ok (.iconst 1, 1) := by decide +kernel
theorem dC_addAll_44 : decode bC_addAll 44 = .ok (.iadd, 1) := by decide +kernel
theorem dC_addAll_45 : decode bC_addAll 45 = .ok (.aload_n 0, 1) := by decide +kernel
theorem dC_addAll_46 : decode bC_addAll 46 = .ok (.getfield 24, 3) := by decide +kernel
theorem dC_addAll_49 : decode bC_addAll 49 = .ok (.iload 5, 2) := by decide +kernel
theorem dC_addAll_51 : decode bC_addAll 51 = .ok (.invokevirtual 182, 3) := by decide +kernel
theorem dC_addAll_54 : decode bC_addAll 54 = .ok (.istore 6, 2) := by decide +kernel
theorem dC_addAll_56 : decode bC_addAll 56 = .ok (.goto (-34), 3) := by decide +kernel
theorem dC_addAll_59 : decode bC_addAll 59 = .ok (.return_, 1) := by decide +kernel
theorem dC_addFromAll_0 : decode bC_addFromAll 0 = .ok (.iload_n 3, 1) := by decide +kernel
theorem dC_addFromAll_1 : decode bC_addFromAll 1 = .ok (.iload_n 2, 1) := by decide +kernel
theorem dC_addFromAll_2 : decode bC_addFromAll 2 = .ok (.invokestatic 57, 3) := by decide +kernel
theorem dC_addFromAll_5 : decode bC_addFromAll 5 = .ok (.istore 4, 2) := by decide +kernel
theorem dC_addFromAll_7 : decode bC_addFromAll 7 = .ok (.aload_n 0, 1) := by decide +kernel
theorem dC_addFromAll_8 : decode bC_addFromAll 8 = .ok (.getfield 28, 3) := by decide +kernel
theorem dC_addFromAll_11 : decode bC_addFromAll 11 = .ok (.iload_n 1, 1) := by decide +kernel
theorem dC_addFromAll_12 : decode bC_addFromAll 12 = .ok (.iconst 0, 1) := by decide +kernel
theorem dC_addFromAll_13 : decode bC_addFromAll 13 = .ok (.aload_n 0, 1) := by decide +kernel
theorem dC_addFromAll_14 : decode bC_addFromAll 14 = .ok (.getfield 28, 3) := by decide +kernel
theorem dC_addFromAll_17 : decode bC_addFromAll 17 = .ok (.iload 4, 2) := by decide +kernel
theorem dC_addFromAll_19 : decode bC_addFromAll 19 = .ok (.invokevirtual 182, 3) := by decide +kernel
theorem dC_addFromAll_22 : decode bC_addFromAll 22 = .ok (.istore 5, 2) := by decide +kernel
theorem dC_addFromAll_24 : decode bC_addFromAll 24 = .ok (.iload 5, 2) := by decide +kernel
theorem dC_addFromAll_26 : decode bC_addFromAll 26 = .ok (.sipush 160, 3) := by decide +kernel
theorem dC_addFromAll_29 : decode bC_addFromAll 29 = .ok (.if_icmp .ge 34, 3) := by decide +kernel
theorem dC_addFromAll_32 : decode bC_addFromAll 32 = .ok (.aload_n 0, 1) := by decide +kernel
theorem dC_addFromAll_33 : decode bC_addFromAll 33 = .ok (.iload 5, 2) := by decide +kernel
theorem dC_addFromAll_35 : decode bC_addFromAll 35 = .ok (.iload_n 2, 1) := by decide +kernel
theorem dC_addFromAll_36 : decode bC_addFromAll 36 = .ok (.iload_n 3, 1) := by decide +kernel
theorem dC_addFromAll_37 : decode bC_addFromAll 37 = .ok (.invokevirtual 94, 3) := by decide +kernel
theorem dC_addFromAll_40 : decode bC_addFromAll 40 = .ok (.aload_n 0, 1) := by decide +kernel
theorem dC_addFromAll_41 : decode bC_addFromAll 41 = .ok (.getfield 28, 3) := by decide +kernel
theorem dC_addFromAll_44 : decode bC_addFromAll 44 = .ok (.iload_n 1, 1) := by decide +kernel
theorem dC_addFromAll_45 : decode bC_addFromAll 45 = .ok (.iload 5, 2) := by decide +kernel
theorem dC_addFromAll_47 : decode bC_addFromAll 47 = .ok (.iconst 1, 1) := by decide +kernel
theorem dC_addFromAll_48 : decode bC_addFromAll 48 = .ok (.iadd, 1) := by decide +kernel
theorem dC_addFromAll_49 : decode bC_addFromAll 49 = .ok (.aload_n 0, 1) := by decide +kernel
theorem dC_addFromAll_50 : decode bC_addFromAll 50 = .ok (.getfield 28, 3) := by decide +kernel
theorem dC_addFromAll_53 : decode bC_addFromAll 53 = .ok (.iload 4, 2) := by decide +kernel
theorem dC_addFromAll_55 : decode bC_addFromAll 55 = .ok (.invokevirtual 182, 3) := by decide +kernel
theorem dC_addFromAll_58 : decode bC_addFromAll 58 = .ok (.istore 5, 2) := by decide +kernel
theorem dC_addFromAll_60 : decode bC_addFromAll 60 = .ok (.goto (-36), 3) := by decide +kernel
theorem dC_addFromAll_63 : decode bC_addFromAll 63 = .ok (.return_, 1) := by decide +kernel
end
section
/-! More facts, and nothing else: what is new is fresh, has its source, and its row is among the fresh rows. -/
def s_ext (u v : sU) : Prop :=
  (∀ r b, u.1 0 r b = true → v.1 0 r b = true) ∧
  (∀ r b, v.1 0 r b = true → u.1 0 r b = true ∨ (r < 1120 ∧ b < 160)) ∧
  (∀ r b, v.1 2 r b = true ↔ u.1 2 r b = true ∨ (v.1 0 r b = true ∧ ¬ u.1 0 r b = true)) ∧
  (∀ r, v.1 3 0 r = true ↔ u.1 3 0 r = true ∨ ∃ b, v.1 0 r b = true ∧ ¬ u.1 0 r b = true) ∧
  (∀ c r d, r < 7 → c < 160 → d < 160 → (v.1 1 (d * 7 + r) c = true ↔ u.1 1 (d * 7 + r) c = true ∨ (v.1 0 (c * 7 + r) d = true ∧ ¬ u.1 0 (c * 7 + r) d = true))) ∧
  (∀ i, 4 ≤ i → v.1 i = u.1 i) ∧ v.2 = u.2
theorem ext_refl (u : sU) : s_ext u u :=
  ⟨fun _ _ h => h, fun _ _ h => Or.inl h, fun r b => ⟨fun h => Or.inl h, fun h => h.elim id (fun z => absurd z.1 z.2)⟩, fun r => ⟨fun h => Or.inl h, fun h => h.elim id (fun ⟨b, z⟩ => absurd z.1 z.2)⟩,
    fun c r d _ _ _ => ⟨fun h => Or.inl h, fun h => h.elim id (fun z => absurd z.1 z.2)⟩, fun _ _ => rfl, rfl⟩
theorem ext_trans {u v w : sU} (h : s_ext u v) (k : s_ext v w) : s_ext u w := by
  obtain ⟨a1, a2, a3, a4, a5, a6, a7⟩ := h
  obtain ⟨b1, b2, b3, b4, b5, b6, b7⟩ := k
  refine ⟨fun r b z => b1 r b (a1 r b z), fun r b z => ?_, fun r b => ?_, fun r => ?_, fun c r d h1 h2 h3 => ?_, fun i hi => (b6 i hi).trans (a6 i hi), b7.trans a7⟩
  · rcases b2 r b z with z | z
    · exact a2 r b z
    · exact Or.inr z
  · rw [b3, a3]
    constructor
    · rintro ((z | z) | z)
      · exact Or.inl z
      · exact Or.inr ⟨b1 r b z.1, z.2⟩
      · exact Or.inr ⟨z.1, fun q => z.2 (a1 r b q)⟩
    · rintro (z | z)
      · exact Or.inl (Or.inl z)
      · by_cases q : v.1 0 r b = true
        · exact Or.inl (Or.inr ⟨q, z.2⟩)
        · exact Or.inr ⟨z.1, q⟩
  · rw [b4, a4]
    constructor
    · rintro ((z | ⟨b, z⟩) | ⟨b, z⟩)
      · exact Or.inl z
      · exact Or.inr ⟨b, b1 r b z.1, z.2⟩
      · exact Or.inr ⟨b, z.1, fun q => z.2 (a1 r b q)⟩
    · rintro (z | ⟨b, z⟩)
      · exact Or.inl (Or.inl z)
      · by_cases q : v.1 0 r b = true
        · exact Or.inl (Or.inr ⟨b, q, z.2⟩)
        · exact Or.inr ⟨b, z.1, q⟩
  · rw [b5 c r d h1 h2 h3, a5 c r d h1 h2 h3]
    constructor
    · rintro ((z | z) | z)
      · exact Or.inl z
      · exact Or.inr ⟨b1 _ _ z.1, z.2⟩
      · exact Or.inr ⟨z.1, fun q => z.2 (a1 _ _ q)⟩
    · rintro (z | z)
      · exact Or.inl (Or.inl z)
      · by_cases q : v.1 0 (c * 7 + r) d = true
        · exact Or.inl (Or.inr ⟨q, z.2⟩)
        · exact Or.inr ⟨z.1, q⟩
/-- the sources are the facts, turned around -/
def s_tr (u : sU) : Prop := ∀ c r d, r < 7 → c < 160 → d < 160 → (u.1 1 (d * 7 + r) c = true ↔ u.1 0 (c * 7 + r) d = true)
theorem tr_ext {u v : sU} (h : s_tr u) (k : s_ext u v) : s_tr v := by
  intro c r d h1 h2 h3
  rw [k.2.2.2.2.1 c r d h1 h2 h3, h c r d h1 h2 h3]
  constructor
  · rintro (z | z)
    · exact k.1 _ _ z
    · exact z.1
  · intro z
    by_cases q : u.1 0 (c * 7 + r) d = true
    · exact Or.inl q
    · exact Or.inr ⟨z, q⟩
theorem row_inj {c r c' r' : Nat} (h : r < 7) (h' : r' < 7) (e : c * 7 + r = c' * 7 + r') : c = c' ∧ r = r' := by omega
/-- one fact is put in -/
def s_fact (u v : sU) (c r d : Nat) : Prop := s_ext u v ∧ ∀ x b, v.1 0 x b = true ↔ u.1 0 x b = true ∨ (x = c * 7 + r ∧ b = d)
theorem fact_old {u : sU} {c r d : Nat} (h : u.1 0 (c * 7 + r) d = true) : s_fact u (va_up u.1 0 (tm_put (u.1 0) (c * 7 + r) d), u.2.1, u.2.2) c r d := by
  have e : ∀ x b, tm_put (u.1 0) (c * 7 + r) d x b = true ↔ u.1 0 x b = true := fun x b => by
    rw [tm_put_iff]
    exact ⟨fun z => z.elim id (fun z => by rw [z.1, z.2]; exact h), Or.inl⟩
  have e2 : tm_put (u.1 0) (c * 7 + r) d = u.1 0 := by
    funext x b
    cases q : u.1 0 x b with
    | true => exact (e x b).mpr q
    | false => exact ts_nt (fun z => by rw [(e x b).mp z] at q; cases q)
  have e3 : ((va_up u.1 0 (tm_put (u.1 0) (c * 7 + r) d), u.2.1, u.2.2) : sU) = u := by
    rw [e2]
    have : va_up u.1 0 (u.1 0) = u.1 := by
      funext i
      by_cases hi : i = 0
      · subst hi; rfl
      · exact va_up_ne _ _ hi
    rw [this]
  rw [e3]
  refine ⟨ext_refl u, fun x b => ⟨Or.inl, fun z => z.elim id (fun z => by rw [z.1, z.2]; exact h)⟩⟩
theorem fact_new {u : sU} {c r d : Nat} (hc : c < 160) (hr : r < 7) (hd : d < 160) (h : u.1 0 (c * 7 + r) d = false) :
    s_fact u (va_up (va_up (va_up (va_up u.1 0 (tm_put (u.1 0) (c * 7 + r) d)) 1 (tm_put (u.1 1) (d * 7 + r) c)) 2 (tm_put (u.1 2) (c * 7 + r) d)) 3 (tm_put (u.1 3) 0 (c * 7 + r)), u.2.1, u.2.2) c r d := by
  have hn : ¬ u.1 0 (c * 7 + r) d = true := fun z => by rw [h] at z; cases z
  have e0 : ∀ x b, tm_put (u.1 0) (c * 7 + r) d x b = true ↔ u.1 0 x b = true ∨ (x = c * 7 + r ∧ b = d) := fun x b => tm_put_iff
  refine ⟨⟨fun x b z => (e0 x b).mpr (Or.inl z), fun x b z => ?_, fun x b => ?_, fun x => ?_, fun c' r' d' h1 h2 h3 => ?_, fun i hi => ?_, rfl⟩, e0⟩
  · rcases (e0 x b).mp z with z | z
    · exact Or.inl z
    · exact Or.inr ⟨by omega, by omega⟩
  · show tm_put (u.1 2) (c * 7 + r) d x b = true ↔ u.1 2 x b = true ∨ (tm_put (u.1 0) (c * 7 + r) d x b = true ∧ _)
    rw [tm_put_iff, e0]
    constructor
    · rintro (z | z)
      · exact Or.inl z
      · exact Or.inr ⟨Or.inr z, by rw [z.1, z.2]; exact hn⟩
    · rintro (z | z)
      · exact Or.inl z
      · exact Or.inr (z.1.elim (fun q => absurd q z.2) id)
  · show tm_put (u.1 3) 0 (c * 7 + r) 0 x = true ↔ u.1 3 0 x = true ∨ ∃ b, tm_put (u.1 0) (c * 7 + r) d x b = true ∧ _
    rw [tm_put_iff]
    constructor
    · rintro (z | z)
      · exact Or.inl z
      · exact Or.inr ⟨d, (e0 x d).mpr (Or.inr ⟨z.2, rfl⟩), by rw [z.2]; exact hn⟩
    · rintro (z | ⟨b, z1, z2⟩)
      · exact Or.inl z
      · exact Or.inr ⟨rfl, ((e0 x b).mp z1).elim (fun q => absurd q z2) (fun q => q.1)⟩
  · show tm_put (u.1 1) (d * 7 + r) c (d' * 7 + r') c' = true ↔ u.1 1 (d' * 7 + r') c' = true ∨ (tm_put (u.1 0) (c * 7 + r) d (c' * 7 + r') d' = true ∧ _)
    rw [tm_put_iff, e0]
    constructor
    · rintro (z | z)
      · exact Or.inl z
      · obtain ⟨q1, q2⟩ := row_inj h1 hr z.1
        have q3 := z.2
        subst q1 q2 q3
        exact Or.inr ⟨Or.inr ⟨rfl, rfl⟩, hn⟩
    · rintro (z | z)
      · exact Or.inl z
      · rcases z.1 with q | q
        · exact absurd q z.2
        · obtain ⟨q1, q2⟩ := row_inj h1 hr q.1
          have q3 := q.2
          subst q1 q2 q3
          exact Or.inr ⟨rfl, rfl⟩
  · show va_up _ 3 _ i = _
    rw [va_up_ne _ _ (by omega), va_up_ne _ _ (by omega), va_up_ne _ _ (by omega), va_up_ne _ _ (by omega)]
/-- walks along a row of bits -/
theorem tm_nx_first {f : Nat → Bool} {W r : Nat} {P : Nat → Prop} (h : tm_nx f W 0 r) : ∀ b, b < r → b < W → f b = true → P b := fun b h1 h2 h3 => by
  rw [h.2.2.1 b (Nat.zero_le _) h1 h2] at h3
  cases h3
theorem tm_nx_step {f : Nat → Bool} {W r r2 : Nat} {P : Nat → Prop} (hinv : ∀ b, b < r → b < W → f b = true → P b) (hr : P r) (h2 : tm_nx f W (r + 1) r2) : ∀ b, b < r2 → b < W → f b = true → P b := fun b a1 a2 a3 => by
  rcases Nat.lt_trichotomy b r with z | z | z
  · exact hinv b z a2 a3
  · rw [z]; exact hr
  · rw [h2.2.2.1 b (by omega) a1 a2] at a3
    cases a3
end
section
/-! Pure rows for the loops that add facts along a row. -/
theorem begin_new {u v w : sU} {d : Nat} (h0 : ¬ u.1 0 (d * 7 + 6) d = true) (h1 : s_fact u v d 6 d) (h2 : s_fact v w d 6 0) :
    s_ext u w ∧ ∀ x b, w.1 0 x b = true ↔ u.1 0 x b = true ∨ (¬ u.1 0 (d * 7 + 6) d = true ∧ x = d * 7 + 6 ∧ (b = d ∨ b = 0)) := by
  refine ⟨ext_trans h1.1 h2.1, fun x b => ?_⟩
  rw [h2.2, h1.2]
  constructor
  · rintro ((z | z) | z)
    · exact Or.inl z
    · exact Or.inr ⟨h0, z.1, Or.inl z.2⟩
    · exact Or.inr ⟨h0, z.1, Or.inr z.2⟩
  · rintro (z | ⟨_, z1, z2 | z2⟩)
    · exact Or.inl (Or.inl z)
    · exact Or.inl (Or.inr ⟨z1, z2⟩)
    · exact Or.inr ⟨z1, z2⟩
theorem begin_old {u : sU} {d : Nat} (h0 : u.1 0 (d * 7 + 6) d = true) : s_ext u u ∧ ∀ x b, u.1 0 x b = true ↔ u.1 0 x b = true ∨ (¬ u.1 0 (d * 7 + 6) d = true ∧ x = d * 7 + 6 ∧ (b = d ∨ b = 0)) :=
  ⟨ext_refl u, fun _ _ => ⟨Or.inl, fun z => z.elim id (fun z => absurd h0 z.1)⟩⟩
theorem tm_nx_gap {f g : Nat → Bool} {W fr r b : Nat} (hn : tm_nx (fun y => f y && !g y) W fr r) (h1 : fr ≤ b) (h2 : b < r) (h3 : b < W) (hf : f b = true) : g b = true := by
  have h : (f b && !g b) = false := hn.2.2.1 b h1 h2 h3
  rw [hf] at h
  simpa using h
theorem all_first {F : Nat → Nat → Bool} {T : Nat → Bool} {k r : Nat} (hn : tm_nx (fun y => T y && !F k y) 160 0 r) : ∀ y b, F y b = true ↔ F y b = true ∨ (y = k ∧ b < 160 ∧ b < r ∧ T b = true) := fun y b => by
  refine ⟨Or.inl, fun z => z.elim id (fun ⟨z1, z2, z3, z4⟩ => ?_)⟩
  rw [z1]
  exact tm_nx_gap hn (Nat.zero_le _) z3 z2 z4
theorem all_T {F : Nat → Nat → Bool} {T : Nat → Bool} {k r fr : Nat} (hn : tm_nx (fun y => T y && !F k y) 160 fr r) : r < 160 → T r = true := fun h => by
  have := hn.2.2.2 h
  simp only [Bool.and_eq_true] at this
  exact this.1
theorem all_step {F G G1 : Nat → Nat → Bool} {T T1 : Nat → Bool} {k r r2 : Nat} (hA : ∀ y b, G y b = true ↔ F y b = true ∨ (y = k ∧ b < 160 ∧ b < r ∧ T b = true)) (hTr : T r = true) (hr : r < 160) (h1 : ∀ y b, G1 y b = true ↔ G y b = true ∨ (y = k ∧ b = r)) (hT1 : ∀ b, T1 b = true ↔ T b = true) (hn : tm_nx (fun y => T1 y && !G1 k y) 160 (r + 1) r2) :
    ∀ y b, G1 y b = true ↔ F y b = true ∨ (y = k ∧ b < 160 ∧ b < r2 ∧ T b = true) := fun y b => by
  have hr2 := hn.1
  rw [h1, hA]
  constructor
  · rintro ((z | ⟨z1, z2, z3, z4⟩) | ⟨z1, z2⟩)
    · exact Or.inl z
    · exact Or.inr ⟨z1, z2, by omega, z4⟩
    · exact Or.inr ⟨z1, by omega, by omega, by rw [z2]; exact hTr⟩
  · rintro (z | ⟨z1, z2, z3, z4⟩)
    · exact Or.inl (Or.inl z)
    · rcases Nat.lt_trichotomy b r with q | q | q
      · exact Or.inl (Or.inr ⟨z1, z2, q, z4⟩)
      · exact Or.inr ⟨z1, q⟩
      · have h9 : G1 k b = true := tm_nx_gap hn (by omega) z3 z2 ((hT1 b).mpr z4)
        rw [z1]
        rcases (h1 k b).mp h9 with q2 | q2
        · exact Or.inl ((hA k b).mp q2)
        · exact Or.inr ⟨rfl, q2.2⟩
theorem all_T0 {F G : Nat → Nat → Bool} {k r t : Nat} (hA : ∀ y b, G y b = true ↔ F y b = true ∨ (y = k ∧ b < 160 ∧ b < r ∧ F t b = true)) (b : Nat) : G t b = true ↔ F t b = true := by
  rw [hA]
  exact ⟨fun z => z.elim id (fun z => z.2.2.2), Or.inl⟩
theorem all_end {F G : Nat → Nat → Bool} {T : Nat → Bool} {k r : Nat} (hr : 160 ≤ r) (hA : ∀ y b, G y b = true ↔ F y b = true ∨ (y = k ∧ b < 160 ∧ b < r ∧ T b = true)) : ∀ y b, G y b = true ↔ F y b = true ∨ (y = k ∧ b < 160 ∧ T b = true) := fun y b => by
  rw [hA]
  exact ⟨fun z => z.elim Or.inl (fun z => Or.inr ⟨z.1, z.2.1, z.2.2.2⟩), fun z => z.elim Or.inl (fun z => Or.inr ⟨z.1, z.2.1, by omega, z.2.2⟩)⟩
/-- facts to d from each one of a row of the sources -/
def s_from (u v : sU) (t i d r : Nat) : Prop := ∀ y b, v.1 0 y b = true ↔ u.1 0 y b = true ∨ (b = d ∧ ∃ z, z < 160 ∧ z < r ∧ y = z * 7 + i ∧ u.1 1 t z = true)
theorem from_first {u : sU} {t i d r : Nat} (htr : s_tr u) (hi : i < 7) (hd : d < 160) (hn : tm_nx (fun y => u.1 1 t y && !u.1 1 (d * 7 + i) y) 160 0 r) : s_from u u t i d r := fun y b => by
  refine ⟨Or.inl, fun z => z.elim id (fun ⟨z1, x, z2, z3, z4, z5⟩ => ?_)⟩
  have h9 : u.1 1 (d * 7 + i) x = true := tm_nx_gap hn (Nat.zero_le _) z3 z2 z5
  rw [z1, z4]
  exact (htr x i d hi z2 hd).mp h9
/-- the row t = y0 * 7 + q of the sources isn't touched, where it isn't the row that is added to -/
theorem from_row {u v : sU} {y0 q i d r : Nat} (hq : q < 7) (hi : i < 7) (hy : y0 < 160) (hx : s_ext u v) (hf : s_from u v (y0 * 7 + q) i d r) (hne : ¬ y0 * 7 + q = d * 7 + i) {z : Nat} (hz : z < 160) : v.1 1 (y0 * 7 + q) z = true ↔ u.1 1 (y0 * 7 + q) z = true := by
  rw [hx.2.2.2.2.1 z q y0 hq hz hy]
  refine ⟨fun w => w.elim id (fun w => ?_), Or.inl⟩
  rcases (hf _ _).mp w.1 with w2 | ⟨w2, x, w3, w4, w5, w6⟩
  · exact absurd w2 w.2
  · obtain ⟨e1, e2⟩ := row_inj hq hi w5
    exact absurd (by rw [w2, e2]) hne
theorem from_step {u v v1 : sU} {y0 q i d r r2 : Nat} (hq : q < 7) (hi : i < 7) (hd : d < 160) (hy : y0 < 160) (htr : s_tr u) (hx : s_ext u v) (hf : s_from u v (y0 * 7 + q) i d r) (hr : r < 160) (hS : u.1 1 (y0 * 7 + q) r = true) (hne : ¬ y0 * 7 + q = d * 7 + i) (h1 : s_fact v v1 r i d)
    (hn : tm_nx (fun y => v1.1 1 (y0 * 7 + q) y && !v1.1 1 (d * 7 + i) y) 160 (r + 1) r2) : s_from u v1 (y0 * 7 + q) i d r2 := by
  have hr2 := hn.1
  have hx1 := ext_trans hx h1.1
  have htr1 := tr_ext htr hx1
  have hw : s_from u v1 (y0 * 7 + q) i d (r + 1) := fun y b => by
    rw [h1.2, hf]
    constructor
    · rintro ((z | ⟨z1, x, z2, z3, z4, z5⟩) | ⟨z1, z2⟩)
      · exact Or.inl z
      · exact Or.inr ⟨z1, x, z2, by omega, z4, z5⟩
      · exact Or.inr ⟨z2, r, hr, by omega, z1, hS⟩
    · rintro (z | ⟨z1, x, z2, z3, z4, z5⟩)
      · exact Or.inl (Or.inl z)
      · rcases Nat.lt_or_ge x r with w | w
        · exact Or.inl (Or.inr ⟨z1, x, z2, w, z4, z5⟩)
        · have : x = r := by omega
          exact Or.inr ⟨by rw [z4, this], z1⟩
  intro y b
  rw [hw]
  constructor
  · rintro (z | ⟨z1, x, z2, z3, z4, z5⟩)
    · exact Or.inl z
    · exact Or.inr ⟨z1, x, z2, by omega, z4, z5⟩
  · rintro (z | ⟨z1, x, z2, z3, z4, z5⟩)
    · exact Or.inl z
    · rcases Nat.lt_or_ge x (r + 1) with w | w
      · exact Or.inr ⟨z1, x, z2, w, z4, z5⟩
      · have e2 : v1.1 1 (d * 7 + i) x = true := tm_nx_gap hn w z3 z2 ((from_row hq hi hy hx1 hw hne z2).mpr z5)
        have e3 := (htr1 x i d hi z2 hd).mp e2
        rw [z1, z4]
        exact (hw _ _).mp e3
theorem from_end {u v : sU} {t i d r : Nat} (hr : 160 ≤ r) (hf : s_from u v t i d r) : s_from u v t i d 160 := fun y b => by
  rw [hf]
  exact ⟨fun z => z.elim Or.inl (fun ⟨z1, x, z2, z3, z4⟩ => Or.inr ⟨z1, x, z2, z2, z4⟩), fun z => z.elim Or.inl (fun ⟨z1, x, z2, z3, z4⟩ => Or.inr ⟨z1, x, z2, by omega, z4⟩)⟩
theorem from_S {u : sU} {t k r fr : Nat} (hn : tm_nx (fun y => u.1 1 t y && !u.1 1 k y) 160 fr r) : r < 160 → u.1 1 t r = true ∧ ¬ t = k := fun h => by
  have := hn.2.2.2 h
  simp only [Bool.and_eq_true] at this
  refine ⟨this.1, fun e => ?_⟩
  rw [e] at this
  simp at this
end
section
/-! The contracts of Closure: its small methods, and those that add facts. Written by wip/whole/gen/genclos.py. -/
set_option maxHeartbeats 4000000 in
set_option maxRecDepth 100000 in
/-- Closure.row -/
theorem c_row (l : Launch) (x i : Nat) : Met l yC_row (wC_row :: wA) ({ frames := 0, cells := 0, slots := 0, locals := 0 }) (va_Pc [.int (nI x), .int (nI i)] (fun _ => True)) (va_Qi (fun r (_ : Unit) => r = nI (x * 7 + i)) (fun _ _ => True) (fun _ => False)) 0 0 (fun _ => False) := by
  refine Met.ofW (cc := bC_row) (maxL := 2) (ret := (some .int)) (by decide +kernel) rfl ?_
  intro p e s m args below meth c s₁ B1 hml hv
  obtain ⟨rfl, -⟩ := hv
  have hx := B1.exec
  have hb := B1.bytes
  have hr := B1.returns
  have hA : ∀ w ∈ wA, w.before ([.int (nI x), .int (nI i)] : List Value).toArray s = true := fun w h => atoms_spec (ws := wC_row :: wA) B1.pre w (List.mem_cons_of_mem _ h)
  have hown : s.vm.findClass RcC = some m.cls := findClass_of_methodNamed B1.named
  have hlocks := B1.notSynchronized
  have hS : va_S (fun _ => False) s.heap s.heap [] := va_S.rf
  have hl := lv_entry ([.int (nI x), .int (nI i)]) (n := 2) (Nat.le_of_ble_eq_true rfl)
  rw [lg_entry_eq]
  generalize (lg_sl ([.int (nI x), .int (nI i)]) ++ List.replicate (2 - (lg_sl ([.int (nI x), .int (nI i)])).length) Slot.unset).toArray = ls at hl ⊢
  have hl : lv_has ls 2 [(0, .int (nI x)), (1, .int (nI i))] := hl
  refine tq_gen (fun R Q hRe hQe => ?_)
  have hRf : 0 ≤ R.frames := by rw [hRe]; exact Nat.le_of_ble_eq_true rfl
  have hRl : 0 ≤ R.locals := by rw [hRe]; exact Nat.le_of_ble_eq_true rfl
  have hRc : 0 ≤ R.cells := by rw [hRe]; exact Nat.le_of_ble_eq_true rfl
  have hRs : 0 ≤ R.slots := by rw [hRe]; exact Nat.le_of_ble_eq_true rfl
  refine lv_iload_n hx hb dC_row_0 rfl (lv_at hl 0 rfl) ?_
  refine lv_bipush (v := nI 7) hx hb dC_row_1 (by decide +kernel) ?_
  refine tq_imul hx hb dC_row_3 ?_
  refine lv_iload_n hx hb dC_row_4 rfl (lv_at hl 1 rfl) ?_
  refine tq_iadd hx hb dC_row_5 ?_
  subst hQe
  exact W.iret (v := nI ((x * 7) + i)) hx hb hr (fun t ht hW => ⟨⟨_, (), rfl, rfl, trivial⟩, hS.F ht⟩) hS.2.2 dC_row_6
set_option maxHeartbeats 4000000 in
set_option maxRecDepth 100000 in
/-- c_isEmpty -/
theorem c_isEmpty (l : Launch) (D : va_G) (a : Nat → Nat) (kI kL kZ : ClassId) (u : sU) (d : Nat) (hd : d < 160) : Met l yC_isEmpty (wC_isEmpty :: wA) ({ frames := 1, cells := 0, slots := 0, locals := 22 }) (va_Pc [.ref (a 3), .int (nI d)] (tq_rB D vwA (sW a kI kL kZ u) (sT kI kL kZ))) (va_Qi (fun r (_ : Unit) => r = bI (u.1 0 (d * 7 + 6) 1)) (fun _ _ => True) (fun _ => False)) 0 0 (fun _ => False) := by
  refine Met.ofW (cc := bC_isEmpty) (maxL := 2) (ret := (some .boolean)) (by decide +kernel) rfl ?_
  intro p e s m args below meth c s₁ B1 hml hv
  obtain ⟨rfl, hP, hK⟩ := hv
  have hx := B1.exec
  have hb := B1.bytes
  have hr := B1.returns
  have hA : ∀ w ∈ wA, w.before ([.ref (a 3), .int (nI d)] : List Value).toArray s = true := fun w h => atoms_spec (ws := wC_isEmpty :: wA) B1.pre w (List.mem_cons_of_mem _ h)
  have hown : s.vm.findClass RcC = some m.cls := findClass_of_methodNamed B1.named
  have hlocks := B1.notSynchronized
  have hS : va_S (fun _ => False) s.heap s.heap [] := va_S.rf
  have hl := lv_entry ([.ref (a 3), .int (nI d)]) (n := 2) (Nat.le_of_ble_eq_true rfl)
  rw [lg_entry_eq]
  generalize (lg_sl ([.ref (a 3), .int (nI d)]) ++ List.replicate (2 - (lg_sl ([.ref (a 3), .int (nI d)])).length) Slot.unset).toArray = ls at hl ⊢
  have hl : lv_has ls 2 [(0, .ref (a 3)), (1, .int (nI d))] := hl
  refine tq_gen (fun R Q hRe hQe => ?_)
  have hRf : 1 ≤ R.frames := by rw [hRe]; exact Nat.le_of_ble_eq_true rfl
  have hRl : 22 ≤ R.locals := by rw [hRe]; exact Nat.le_of_ble_eq_true rfl
  have hRc : 0 ≤ R.cells := by rw [hRe]; exact Nat.le_of_ble_eq_true rfl
  have hRs : 0 ≤ R.slots := by rw [hRe]; exact Nat.le_of_ble_eq_true rfl
  refine lv_aload_n hx hb dC_isEmpty_0 rfl (lv_at hl 0 rfl) ?_
  refine gf_C_24 (v := .ref (a 14)) hx hb hA hown hK hP 3 rfl rfl dC_isEmpty_1 ?_
  refine lv_iload_n hx hb dC_isEmpty_4 rfl (lv_at hl 1 rfl) ?_
  refine lv_bipush (v := nI 6) hx hb dC_isEmpty_5 (by decide +kernel) ?_
  refine ks_s ⟨hx, hb, hml, hown, hA⟩ (c_row l d 6) (kw_C_57 hA rfl rfl ⟨Nat.le_trans (Nat.le_of_ble_eq_true rfl) hRf, Nat.le_trans (Nat.le_of_ble_eq_true rfl) hRl⟩) hP hS rfl hl.1 (Nat.le_of_ble_eq_true rfl) ⟨by omega, by omega⟩ dC_isEmpty_7 rfl (fun H locs hP hS => ?_)
  refine lv_iconst (v := nI 1) hx hb dC_isEmpty_10 (by decide +kernel) ?_
  refine k_holds ⟨hx, hb, hml, hown, hA⟩ (kw_C_61 hA rfl rfl ⟨Nat.le_trans (Nat.le_of_ble_eq_true rfl) hRf, Nat.le_trans (Nat.le_of_ble_eq_true rfl) hRl⟩) hK hP hS 14 15 1 rfl rfl rfl (by omega) (by omega) (by decide) (by decide) hl.1 (Nat.le_of_ble_eq_true rfl) ⟨by omega, by omega⟩ dC_isEmpty_11 (fun H locs hP hS => ?_)
  subst hQe
  exact W.zret (v := bI ((u.1 0) (d * 7 + 6) 1)) (ty := .boolean) hx hb hr (tq_nz _) (fun t ht hW => ⟨⟨_, (), rfl, rfl, trivial⟩, hS.F ht⟩) hS.2.2 dC_isEmpty_14
set_option maxHeartbeats 4000000 in
set_option maxRecDepth 100000 in
/-- c_covers -/
theorem c_covers (l : Launch) (D : va_G) (a : Nat → Nat) (kI kL kZ : ClassId) (u : sU) (d d2 : Nat) (hd : d < 160) (hd2 : d2 < 160) : Met l yC_covers (wC_covers :: wA) ({ frames := 2, cells := 0, slots := 0, locals := 43 }) (va_Pc [.ref (a 3), .int (nI d), .int (nI d2)] (tq_rB D vwA (sW a kI kL kZ u) (sT kI kL kZ))) (va_Qi (fun r (_ : Unit) => r = bI (u.1 0 (d * 7 + 6) 1 || u.1 0 (d * 7 + 6) d2)) (fun _ _ => True) (fun _ => False)) 0 0 (fun _ => False) := by
  refine Met.ofW (cc := bC_covers) (maxL := 3) (ret := (some .boolean)) (by decide +kernel) rfl ?_
  intro p e s m args below meth c s₁ B1 hml hv
  obtain ⟨rfl, hP, hK⟩ := hv
  have hx := B1.exec
  have hb := B1.bytes
  have hr := B1.returns
  have hA : ∀ w ∈ wA, w.before ([.ref (a 3), .int (nI d), .int (nI d2)] : List Value).toArray s = true := fun w h => atoms_spec (ws := wC_covers :: wA) B1.pre w (List.mem_cons_of_mem _ h)
  have hown : s.vm.findClass RcC = some m.cls := findClass_of_methodNamed B1.named
  have hlocks := B1.notSynchronized
  have hS : va_S (fun _ => False) s.heap s.heap [] := va_S.rf
  have hl := lv_entry ([.ref (a 3), .int (nI d), .int (nI d2)]) (n := 3) (Nat.le_of_ble_eq_true rfl)
  rw [lg_entry_eq]
  generalize (lg_sl ([.ref (a 3), .int (nI d), .int (nI d2)]) ++ List.replicate (3 - (lg_sl ([.ref (a 3), .int (nI d), .int (nI d2)])).length) Slot.unset).toArray = ls at hl ⊢
  have hl : lv_has ls 3 [(0, .ref (a 3)), (1, .int (nI d)), (2, .int (nI d2))] := hl
  refine tq_gen (fun R Q hRe hQe => ?_)
  have hRf : 2 ≤ R.frames := by rw [hRe]; exact Nat.le_of_ble_eq_true rfl
  have hRl : 43 ≤ R.locals := by rw [hRe]; exact Nat.le_of_ble_eq_true rfl
  have hRc : 0 ≤ R.cells := by rw [hRe]; exact Nat.le_of_ble_eq_true rfl
  have hRs : 0 ≤ R.slots := by rw [hRe]; exact Nat.le_of_ble_eq_true rfl
  refine lv_aload_n hx hb dC_covers_0 rfl (lv_at hl 0 rfl) ?_
  refine lv_iload_n hx hb dC_covers_1 rfl (lv_at hl 1 rfl) ?_
  refine ks_rv ⟨hx, hb, hml, hown, hA⟩ (c_isEmpty l D a kI kL kZ u d (by omega)) (kw_C_65 hA rfl rfl ⟨Nat.le_trans (Nat.le_of_ble_eq_true rfl) hRf, Nat.le_trans (Nat.le_of_ble_eq_true rfl) hRl⟩) hK hP hS 3 3 rfl rfl rfl hl.1 (Nat.le_of_ble_eq_true rfl) ⟨by omega, by omega⟩ dC_covers_2 rfl (fun H locs hP hS => ?_)
  refine tq_bt hx hb dC_covers_5 (tgt := 25) (by decide) (fun h5 => ?_) (fun h5 => ?_)
  · have hz : (u.1 0 (d * 7 + 6) 1 || u.1 0 (d * 7 + 6) d2) = true := by rw [h5]; rfl
    refine lv_iconst (v := nI 1) hx hb dC_covers_25 (by decide +kernel) ?_
    refine lv_goto hx hb dC_covers_26 (tgt := 30) (by decide) ?_
    subst hQe
    exact W.zret (v := nI 1) (ty := .boolean) hx hb hr rfl (fun t ht hW => ⟨⟨_, (), rfl, by rw [hz]; rfl, trivial⟩, hS.F ht⟩) hS.2.2 dC_covers_30
  · refine lv_aload_n hx hb dC_covers_8 rfl (lv_at hl 0 rfl) ?_
    refine gf_C_24 (v := .ref (a 14)) hx hb hA hown hK hP 3 rfl rfl dC_covers_9 ?_
    refine lv_iload_n hx hb dC_covers_12 rfl (lv_at hl 1 rfl) ?_
    refine lv_bipush (v := nI 6) hx hb dC_covers_13 (by decide +kernel) ?_
    refine ks_s ⟨hx, hb, hml, hown, hA⟩ (c_row l d 6) (kw_C_57 hA rfl rfl ⟨Nat.le_trans (Nat.le_of_ble_eq_true rfl) hRf, Nat.le_trans (Nat.le_of_ble_eq_true rfl) hRl⟩) hP hS rfl hl.1 (Nat.le_of_ble_eq_true rfl) ⟨by omega, by omega⟩ dC_covers_15 rfl (fun H locs hP hS => ?_)
    refine lv_iload_n hx hb dC_covers_18 rfl (lv_at hl 2 rfl) ?_
    refine k_holds ⟨hx, hb, hml, hown, hA⟩ (kw_C_61 hA rfl rfl ⟨Nat.le_trans (Nat.le_of_ble_eq_true rfl) hRf, Nat.le_trans (Nat.le_of_ble_eq_true rfl) hRl⟩) hK hP hS 14 15 1 rfl rfl rfl (by omega) (by omega) (by decide) (by decide) hl.1 (Nat.le_of_ble_eq_true rfl) ⟨by omega, by omega⟩ dC_covers_19 (fun H locs hP hS => ?_)
    refine tq_bf hx hb dC_covers_22 (tgt := 29) (by decide) (fun h22 => ?_) (fun h22 => ?_)
    · have hz : (u.1 0 (d * 7 + 6) 1 || u.1 0 (d * 7 + 6) d2) = false := by rw [h5, h22]; rfl
      refine lv_iconst (v := nI 0) hx hb dC_covers_29 (by decide +kernel) ?_
      subst hQe
      exact W.zret (v := nI 0) (ty := .boolean) hx hb hr rfl (fun t ht hW => ⟨⟨_, (), rfl, by rw [hz]; rfl, trivial⟩, hS.F ht⟩) hS.2.2 dC_covers_30
    · have hz : (u.1 0 (d * 7 + 6) 1 || u.1 0 (d * 7 + 6) d2) = true := by rw [h5, h22]; rfl
      refine lv_iconst (v := nI 1) hx hb dC_covers_25 (by decide +kernel) ?_
      refine lv_goto hx hb dC_covers_26 (tgt := 30) (by decide) ?_
      subst hQe
      exact W.zret (v := nI 1) (ty := .boolean) hx hb hr rfl (fun t ht hW => ⟨⟨_, (), rfl, by rw [hz]; rfl, trivial⟩, hS.F ht⟩) hS.2.2 dC_covers_30
set_option maxHeartbeats 4000000 in
set_option maxRecDepth 100000 in
/-- c_add -/
theorem c_add (l : Launch) (D : va_G) (a : Nat → Nat) (kI kL kZ : ClassId) (u : sU) (x i d : Nat) (hx1 : x < 160) (hi1 : i < 7) (hd1 : d < 160) : Met l yC_add (wC_add :: wA) ({ frames := 1, cells := 0, slots := 0, locals := 25 }) (va_Pc [.ref (a 3), .int (nI x), .int (nI i), .int (nI d)] (tq_wB D vwA (sW a kI kL kZ u) (sT kI kL kZ))) (va_Qv (fun (u' : sU) => s_fact u u' x i d) (fun u' t => va_P D vwA (sW a kI kL kZ u') t.heap) (sA a)) 0 0 (sA a) := by
  refine Met.ofW (cc := bC_add) (maxL := 5) (ret := none) (by decide +kernel) rfl ?_
  intro p e s m args below meth c s₁ B1 hml hv
  obtain ⟨rfl, hP, hK, hD0⟩ := hv
  have hx := B1.exec
  have hb := B1.bytes
  have hr := B1.returns
  have hA : ∀ w ∈ wA, w.before ([.ref (a 3), .int (nI x), .int (nI i), .int (nI d)] : List Value).toArray s = true := fun w h => atoms_spec (ws := wC_add :: wA) B1.pre w (List.mem_cons_of_mem _ h)
  have hown : s.vm.findClass RcC = some m.cls := findClass_of_methodNamed B1.named
  have hlocks := B1.notSynchronized
  have hS : va_S (sA a) s.heap s.heap [] := va_S.rf
  have hl := lv_entry ([.ref (a 3), .int (nI x), .int (nI i), .int (nI d)]) (n := 5) (Nat.le_of_ble_eq_true rfl)
  rw [lg_entry_eq]
  generalize (lg_sl ([.ref (a 3), .int (nI x), .int (nI i), .int (nI d)]) ++ List.replicate (5 - (lg_sl ([.ref (a 3), .int (nI x), .int (nI i), .int (nI d)])).length) Slot.unset).toArray = ls at hl ⊢
  have hl : lv_has ls 5 [(0, .ref (a 3)), (1, .int (nI x)), (2, .int (nI i)), (3, .int (nI d))] := hl
  refine tq_gen (fun R Q hRe hQe => ?_)
  have hRf : 1 ≤ R.frames := by rw [hRe]; exact Nat.le_of_ble_eq_true rfl
  have hRl : 25 ≤ R.locals := by rw [hRe]; exact Nat.le_of_ble_eq_true rfl
  have hRc : 0 ≤ R.cells := by rw [hRe]; exact Nat.le_of_ble_eq_true rfl
  have hRs : 0 ≤ R.slots := by rw [hRe]; exact Nat.le_of_ble_eq_true rfl
  have hD := sA_D hD0
  refine lv_iload_n hx hb dC_add_0 rfl (lv_at hl 1 rfl) ?_
  refine lv_iload_n hx hb dC_add_1 rfl (lv_at hl 2 rfl) ?_
  refine ks_s ⟨hx, hb, hml, hown, hA⟩ (c_row l x i) (kw_C_57 hA rfl rfl ⟨Nat.le_trans (Nat.le_of_ble_eq_true rfl) hRf, Nat.le_trans (Nat.le_of_ble_eq_true rfl) hRl⟩) hP hS rfl hl.1 (Nat.le_of_ble_eq_true rfl) ⟨by omega, by omega⟩ dC_add_2 rfl (fun H locs hP hS => ?_)
  refine lv_istore (lv' := [(4, .int (nI (x * 7 + i))), (0, .ref (a 3)), (1, .int (nI x)), (2, .int (nI i)), (3, .int (nI d))]) hx hb dC_add_5 hl (by decide) rfl (fun ls hl => ?_)
  refine lv_aload_n hx hb dC_add_7 rfl (lv_at hl 1 rfl) ?_
  refine gf_C_24 (v := .ref (a 14)) hx hb hA hown hK hP 3 rfl rfl dC_add_8 ?_
  refine lv_iload hx hb dC_add_11 (lv_at hl 0 rfl) ?_
  refine lv_iload_n hx hb dC_add_13 rfl (lv_at hl 4 rfl) ?_
  refine k_put ⟨hx, hb, hml, hown, hA⟩ (kw_C_110 hA rfl rfl ⟨Nat.le_trans (Nat.le_of_ble_eq_true rfl) hRf, Nat.le_trans (Nat.le_of_ble_eq_true rfl) hRl⟩) hK hP hD hS 14 15 1 rfl rfl (by decide) rfl (by omega) (by omega) (by decide) (by decide) hl.1 (Nat.le_of_ble_eq_true rfl) ⟨by omega, by omega⟩ dC_add_14 (fun H locs hP hD hS => ?_)
  have hP : va_P D vwA (sW a kI kL kZ (va_up u.1 0 (tm_put (u.1 0) (x * 7 + i) d), u.2.1, u.2.2)) H := hP
  have hD : va_D (sA a) (sW a kI kL kZ (va_up u.1 0 (tm_put (u.1 0) (x * 7 + i) d), u.2.1, u.2.2)) := hD
  refine tq_bf hx hb dC_add_17 (tgt := 56) (by decide) (fun h17 => ?_) (fun h17 => ?_)
  · subst hQe
    exact W.vret hx hb hr (fun t ht hW => ⟨⟨(va_up u.1 0 (tm_put (u.1 0) (x * 7 + i) d), u.2.1, u.2.2), rfl, fact_old (by simpa using h17), tq_hp ht hP⟩, hS.F ht⟩) hS.2.2 dC_add_56
  · refine lv_aload_n hx hb dC_add_20 rfl (lv_at hl 1 rfl) ?_
    refine gf_C_28 (v := .ref (a 16)) hx hb hA hown hK hP 3 rfl rfl dC_add_21 ?_
    refine lv_iload_n hx hb dC_add_24 rfl (lv_at hl 4 rfl) ?_
    refine lv_iload_n hx hb dC_add_25 rfl (lv_at hl 3 rfl) ?_
    refine ks_s ⟨hx, hb, hml, hown, hA⟩ (c_row l d i) (kw_C_57 hA rfl rfl ⟨Nat.le_trans (Nat.le_of_ble_eq_true rfl) hRf, Nat.le_trans (Nat.le_of_ble_eq_true rfl) hRl⟩) hP hS rfl hl.1 (Nat.le_of_ble_eq_true rfl) ⟨by omega, by omega⟩ dC_add_26 rfl (fun H locs hP hS => ?_)
    refine lv_iload_n hx hb dC_add_29 rfl (lv_at hl 2 rfl) ?_
    refine k_put ⟨hx, hb, hml, hown, hA⟩ (kw_C_110 hA rfl rfl ⟨Nat.le_trans (Nat.le_of_ble_eq_true rfl) hRf, Nat.le_trans (Nat.le_of_ble_eq_true rfl) hRl⟩) hK hP hD hS 16 17 1 rfl rfl (by decide) rfl (by omega) (by omega) (by decide) (by decide) hl.1 (Nat.le_of_ble_eq_true rfl) ⟨by omega, by omega⟩ dC_add_30 (fun H locs hP hD hS => ?_)
    have hP : va_P D vwA (sW a kI kL kZ (va_up (va_up u.1 0 (tm_put (u.1 0) (x * 7 + i) d)) 1 (tm_put (u.1 1) (d * 7 + i) x), u.2.1, u.2.2)) H := hP
    have hD : va_D (sA a) (sW a kI kL kZ (va_up (va_up u.1 0 (tm_put (u.1 0) (x * 7 + i) d)) 1 (tm_put (u.1 1) (d * 7 + i) x), u.2.1, u.2.2)) := hD
    refine lv_pop hx hb dC_add_33 rfl ?_
    refine lv_aload_n hx hb dC_add_34 rfl (lv_at hl 1 rfl) ?_
    refine gf_C_31 (v := .ref (a 18)) hx hb hA hown hK hP 3 rfl rfl dC_add_35 ?_
    refine lv_iload hx hb dC_add_38 (lv_at hl 0 rfl) ?_
    refine lv_iload_n hx hb dC_add_40 rfl (lv_at hl 4 rfl) ?_
    refine k_put ⟨hx, hb, hml, hown, hA⟩ (kw_C_110 hA rfl rfl ⟨Nat.le_trans (Nat.le_of_ble_eq_true rfl) hRf, Nat.le_trans (Nat.le_of_ble_eq_true rfl) hRl⟩) hK hP hD hS 18 19 1 rfl rfl (by decide) rfl (by omega) (by omega) (by decide) (by decide) hl.1 (Nat.le_of_ble_eq_true rfl) ⟨by omega, by omega⟩ dC_add_41 (fun H locs hP hD hS => ?_)
    have hP : va_P D vwA (sW a kI kL kZ (va_up (va_up (va_up u.1 0 (tm_put (u.1 0) (x * 7 + i) d)) 1 (tm_put (u.1 1) (d * 7 + i) x)) 2 (tm_put (u.1 2) (x * 7 + i) d), u.2.1, u.2.2)) H := hP
    have hD : va_D (sA a) (sW a kI kL kZ (va_up (va_up (va_up u.1 0 (tm_put (u.1 0) (x * 7 + i) d)) 1 (tm_put (u.1 1) (d * 7 + i) x)) 2 (tm_put (u.1 2) (x * 7 + i) d), u.2.1, u.2.2)) := hD
    refine lv_pop hx hb dC_add_44 rfl ?_
    refine lv_aload_n hx hb dC_add_45 rfl (lv_at hl 1 rfl) ?_
    refine gf_C_34 (v := .ref (a 20)) hx hb hA hown hK hP 3 rfl rfl dC_add_46 ?_
    refine lv_iconst (v := nI 0) hx hb dC_add_49 (by decide +kernel) ?_
    refine lv_iload hx hb dC_add_50 (lv_at hl 0 rfl) ?_
    refine k_put ⟨hx, hb, hml, hown, hA⟩ (kw_C_110 hA rfl rfl ⟨Nat.le_trans (Nat.le_of_ble_eq_true rfl) hRf, Nat.le_trans (Nat.le_of_ble_eq_true rfl) hRl⟩) hK hP hD hS 20 21 1 rfl rfl (by decide) rfl (by omega) (by omega) (by decide) (by decide) hl.1 (Nat.le_of_ble_eq_true rfl) ⟨by omega, by omega⟩ dC_add_52 (fun H locs hP hD hS => ?_)
    have hP : va_P D vwA (sW a kI kL kZ (va_up (va_up (va_up (va_up u.1 0 (tm_put (u.1 0) (x * 7 + i) d)) 1 (tm_put (u.1 1) (d * 7 + i) x)) 2 (tm_put (u.1 2) (x * 7 + i) d)) 3 (tm_put (u.1 3) 0 (x * 7 + i)), u.2.1, u.2.2)) H := hP
    have hD : va_D (sA a) (sW a kI kL kZ (va_up (va_up (va_up (va_up u.1 0 (tm_put (u.1 0) (x * 7 + i) d)) 1 (tm_put (u.1 1) (d * 7 + i) x)) 2 (tm_put (u.1 2) (x * 7 + i) d)) 3 (tm_put (u.1 3) 0 (x * 7 + i)), u.2.1, u.2.2)) := hD
    refine lv_pop hx hb dC_add_55 rfl ?_
    subst hQe
    exact W.vret hx hb hr (fun t ht hW => ⟨⟨(va_up (va_up (va_up (va_up u.1 0 (tm_put (u.1 0) (x * 7 + i) d)) 1 (tm_put (u.1 1) (d * 7 + i) x)) 2 (tm_put (u.1 2) (x * 7 + i) d)) 3 (tm_put (u.1 3) 0 (x * 7 + i)), u.2.1, u.2.2), rfl, fact_new hx1 hi1 hd1 (by simpa using h17), tq_hp ht hP⟩, hS.F ht⟩) hS.2.2 dC_add_56
set_option maxHeartbeats 4000000 in
set_option maxRecDepth 100000 in
/-- c_begin -/
theorem c_begin (l : Launch) (D : va_G) (a : Nat → Nat) (kI kL kZ : ClassId) (u : sU) (d : Nat) (hd : d < 160) : Met l yC_begin (wC_begin :: wA) ({ frames := 2, cells := 0, slots := 0, locals := 49 }) (va_Pc [.ref (a 3), .int (nI d)] (tq_wB D vwA (sW a kI kL kZ u) (sT kI kL kZ))) (va_Qv (fun (u' : sU) => s_ext u u' ∧ ∀ x b, u'.1 0 x b = true ↔ u.1 0 x b = true ∨ (¬ u.1 0 (d * 7 + 6) d = true ∧ x = d * 7 + 6 ∧ (b = d ∨ b = 0))) (fun u' t => va_P D vwA (sW a kI kL kZ u') t.heap) (sA a)) 0 0 (sA a) := by
  refine Met.ofW (cc := bC_begin) (maxL := 2) (ret := none) (by decide +kernel) rfl ?_
  intro p e s m args below meth c s₁ B1 hml hv
  obtain ⟨rfl, hP, hK, hD0⟩ := hv
  have hx := B1.exec
  have hb := B1.bytes
  have hr := B1.returns
  have hA : ∀ w ∈ wA, w.before ([.ref (a 3), .int (nI d)] : List Value).toArray s = true := fun w h => atoms_spec (ws := wC_begin :: wA) B1.pre w (List.mem_cons_of_mem _ h)
  have hown : s.vm.findClass RcC = some m.cls := findClass_of_methodNamed B1.named
  have hlocks := B1.notSynchronized
  have hS : va_S (sA a) s.heap s.heap [] := va_S.rf
  have hl := lv_entry ([.ref (a 3), .int (nI d)]) (n := 2) (Nat.le_of_ble_eq_true rfl)
  rw [lg_entry_eq]
  generalize (lg_sl ([.ref (a 3), .int (nI d)]) ++ List.replicate (2 - (lg_sl ([.ref (a 3), .int (nI d)])).length) Slot.unset).toArray = ls at hl ⊢
  have hl : lv_has ls 2 [(0, .ref (a 3)), (1, .int (nI d))] := hl
  refine tq_gen (fun R Q hRe hQe => ?_)
  have hRf : 2 ≤ R.frames := by rw [hRe]; exact Nat.le_of_ble_eq_true rfl
  have hRl : 49 ≤ R.locals := by rw [hRe]; exact Nat.le_of_ble_eq_true rfl
  have hRc : 0 ≤ R.cells := by rw [hRe]; exact Nat.le_of_ble_eq_true rfl
  have hRs : 0 ≤ R.slots := by rw [hRe]; exact Nat.le_of_ble_eq_true rfl
  have hD := sA_D hD0
  refine lv_aload_n hx hb dC_begin_0 rfl (lv_at hl 0 rfl) ?_
  refine gf_C_24 (v := .ref (a 14)) hx hb hA hown hK hP 3 rfl rfl dC_begin_1 ?_
  refine lv_iload_n hx hb dC_begin_4 rfl (lv_at hl 1 rfl) ?_
  refine lv_bipush (v := nI 6) hx hb dC_begin_5 (by decide +kernel) ?_
  refine ks_s ⟨hx, hb, hml, hown, hA⟩ (c_row l d 6) (kw_C_57 hA rfl rfl ⟨Nat.le_trans (Nat.le_of_ble_eq_true rfl) hRf, Nat.le_trans (Nat.le_of_ble_eq_true rfl) hRl⟩) hP hS rfl hl.1 (Nat.le_of_ble_eq_true rfl) ⟨by omega, by omega⟩ dC_begin_7 rfl (fun H locs hP hS => ?_)
  refine lv_iload_n hx hb dC_begin_10 rfl (lv_at hl 1 rfl) ?_
  refine k_holds ⟨hx, hb, hml, hown, hA⟩ (kw_C_61 hA rfl rfl ⟨Nat.le_trans (Nat.le_of_ble_eq_true rfl) hRf, Nat.le_trans (Nat.le_of_ble_eq_true rfl) hRl⟩) hK hP hS 14 15 1 rfl rfl rfl (by omega) (by omega) (by decide) (by decide) hl.1 (Nat.le_of_ble_eq_true rfl) ⟨by omega, by omega⟩ dC_begin_11 (fun H locs hP hS => ?_)
  refine tq_bt hx hb dC_begin_14 (tgt := 33) (by decide) (fun h14 => ?_) (fun h14 => ?_)
  · subst hQe
    exact W.vret hx hb hr (fun t ht hW => ⟨⟨u, rfl, begin_old h14, tq_hp ht hP⟩, hS.F ht⟩) hS.2.2 dC_begin_33
  · refine lv_aload_n hx hb dC_begin_17 rfl (lv_at hl 0 rfl) ?_
    refine lv_iload_n hx hb dC_begin_18 rfl (lv_at hl 1 rfl) ?_
    refine lv_bipush (v := nI 6) hx hb dC_begin_19 (by decide +kernel) ?_
    refine lv_iload_n hx hb dC_begin_21 rfl (lv_at hl 1 rfl) ?_
    refine ks_v (wf := sW a kI kL kZ) (u := u) ⟨hx, hb, hml, hown, hA⟩ (c_add l D a kI kL kZ u d 6 d (by omega) (by omega) (by omega)) (kw_C_94 hA rfl rfl ⟨Nat.le_trans (Nat.le_of_ble_eq_true rfl) hRf, Nat.le_trans (Nat.le_of_ble_eq_true rfl) hRl⟩) hK hP hD hS (fun _ h => h) (fun u' => sW_adr u') 3 3 rfl rfl rfl hl.1 (Nat.le_of_ble_eq_true rfl) ⟨by omega, by omega⟩ dC_begin_22 rfl (fun u1 H locs hu1 hP hD hS => ?_)
    refine lv_aload_n hx hb dC_begin_25 rfl (lv_at hl 0 rfl) ?_
    refine lv_iload_n hx hb dC_begin_26 rfl (lv_at hl 1 rfl) ?_
    refine lv_bipush (v := nI 6) hx hb dC_begin_27 (by decide +kernel) ?_
    refine lv_iconst (v := nI 0) hx hb dC_begin_29 (by decide +kernel) ?_
    refine ks_v (wf := sW a kI kL kZ) (u := u1) ⟨hx, hb, hml, hown, hA⟩ (c_add l D a kI kL kZ u1 d 6 0 (by omega) (by omega) (by omega)) (kw_C_94 hA rfl rfl ⟨Nat.le_trans (Nat.le_of_ble_eq_true rfl) hRf, Nat.le_trans (Nat.le_of_ble_eq_true rfl) hRl⟩) hK hP hD hS (fun _ h => h) (fun u' => sW_adr u') 3 3 rfl rfl rfl hl.1 (Nat.le_of_ble_eq_true rfl) ⟨by omega, by omega⟩ dC_begin_30 rfl (fun u2 H locs hu2 hP hD hS => ?_)
    subst hQe
    exact W.vret hx hb hr (fun t ht hW => ⟨⟨u2, rfl, begin_new (by rw [h14]; decide) hu1 hu2, tq_hp ht hP⟩, hS.F ht⟩) hS.2.2 dC_begin_33
set_option maxHeartbeats 4000000 in
set_option maxRecDepth 100000 in
/-- c_addAll4 -/
theorem c_addAll4 (l : Launch) (D : va_G) (a : Nat → Nat) (kI kL kZ : ClassId) (u : sU) (x i t : Nat) (hx1 : x < 160) (hi1 : i < 7) (ht1 : t < 160) : Met l yC_addAll (wC_addAll :: wA) ({ frames := 2, cells := 0, slots := 0, locals := 49 }) (va_Pc [.ref (a 3), .int (nI x), .int (nI i), .ref (a 22), .int (nI t)] (tq_wB D vwA (sW a kI kL kZ u) (sT kI kL kZ))) (va_Qv (fun (u' : sU) => s_ext u u' ∧ ∀ y b, u'.1 0 y b = true ↔ u.1 0 y b = true ∨ (y = x * 7 + i ∧ b < 160 ∧ u.1 4 t b = true)) (fun u' t => va_P D vwA (sW a kI kL kZ u') t.heap) (sA a)) 0 0 (sA a) := by
  refine Met.ofW (cc := bC_addAll) (maxL := 7) (ret := none) (by decide +kernel) rfl ?_
  intro p e s m args below meth c s₁ B1 hml hv
  obtain ⟨rfl, hP, hK, hD0⟩ := hv
  have hx := B1.exec
  have hb := B1.bytes
  have hr := B1.returns
  have hA : ∀ w ∈ wA, w.before ([.ref (a 3), .int (nI x), .int (nI i), .ref (a 22), .int (nI t)] : List Value).toArray s = true := fun w h => atoms_spec (ws := wC_addAll :: wA) B1.pre w (List.mem_cons_of_mem _ h)
  have hown : s.vm.findClass RcC = some m.cls := findClass_of_methodNamed B1.named
  have hlocks := B1.notSynchronized
  have hS : va_S (sA a) s.heap s.heap [] := va_S.rf
  have hl := lv_entry ([.ref (a 3), .int (nI x), .int (nI i), .ref (a 22), .int (nI t)]) (n := 7) (Nat.le_of_ble_eq_true rfl)
  rw [lg_entry_eq]
  generalize (lg_sl ([.ref (a 3), .int (nI x), .int (nI i), .ref (a 22), .int (nI t)]) ++ List.replicate (7 - (lg_sl ([.ref (a 3), .int (nI x), .int (nI i), .ref (a 22), .int (nI t)])).length) Slot.unset).toArray = ls at hl ⊢
  have hl : lv_has ls 7 [(0, .ref (a 3)), (1, .int (nI x)), (2, .int (nI i)), (3, .ref (a 22)), (4, .int (nI t))] := hl
  refine tq_gen (fun R Q hRe hQe => ?_)
  have hRf : 2 ≤ R.frames := by rw [hRe]; exact Nat.le_of_ble_eq_true rfl
  have hRl : 49 ≤ R.locals := by rw [hRe]; exact Nat.le_of_ble_eq_true rfl
  have hRc : 0 ≤ R.cells := by rw [hRe]; exact Nat.le_of_ble_eq_true rfl
  have hRs : 0 ≤ R.slots := by rw [hRe]; exact Nat.le_of_ble_eq_true rfl
  have hD := sA_D hD0
  refine lv_iload_n hx hb dC_addAll_0 rfl (lv_at hl 1 rfl) ?_
  refine lv_iload_n hx hb dC_addAll_1 rfl (lv_at hl 2 rfl) ?_
  refine ks_s ⟨hx, hb, hml, hown, hA⟩ (c_row l x i) (kw_C_57 hA rfl rfl ⟨Nat.le_trans (Nat.le_of_ble_eq_true rfl) hRf, Nat.le_trans (Nat.le_of_ble_eq_true rfl) hRl⟩) hP hS rfl hl.1 (Nat.le_of_ble_eq_true rfl) ⟨by omega, by omega⟩ dC_addAll_2 rfl (fun H locs hP hS => ?_)
  refine lv_istore (lv' := [(5, .int (nI (x * 7 + i))), (0, .ref (a 3)), (1, .int (nI x)), (2, .int (nI i)), (3, .ref (a 22)), (4, .int (nI t))]) hx hb dC_addAll_5 hl (by decide) rfl (fun ls hl => ?_)
  refine lv_aload_n hx hb dC_addAll_7 rfl (lv_at hl 4 rfl) ?_
  refine lv_iload hx hb dC_addAll_8 (lv_at hl 5 rfl) ?_
  refine lv_iconst (v := nI 0) hx hb dC_addAll_10 (by decide +kernel) ?_
  refine lv_aload_n hx hb dC_addAll_11 rfl (lv_at hl 1 rfl) ?_
  refine gf_C_24 (v := .ref (a 14)) hx hb hA hown hK hP 3 rfl rfl dC_addAll_12 ?_
  refine lv_iload hx hb dC_addAll_15 (lv_at hl 0 rfl) ?_
  refine k_nextBeyond ⟨hx, hb, hml, hown, hA⟩ (kw_C_182 hA rfl rfl ⟨Nat.le_trans (Nat.le_of_ble_eq_true rfl) hRf, Nat.le_trans (Nat.le_of_ble_eq_true rfl) hRl⟩) hK hP hS 22 23 14 15 1 rfl rfl rfl rfl rfl (by decide) (by omega) (by omega) (by decide) (by decide) (by decide) (by omega) hl.1 (Nat.le_of_ble_eq_true rfl) ⟨by omega, by omega⟩ dC_addAll_17 (fun r1 H locs hr1 hP hS => ?_)
  refine lv_istore (lv' := [(6, .int (nI r1)), (5, .int (nI (x * 7 + i))), (0, .ref (a 3)), (1, .int (nI x)), (2, .int (nI i)), (3, .ref (a 22)), (4, .int (nI t))]) hx hb dC_addAll_20 hl (by decide) rfl (fun ls hl => ?_)
  have lp : ∀ (fu : Nat) (r : Nat) (v : sU) (ls : Array Slot) (H : Heap) (locs : List Loc), s_ext u v → (∀ y b, v.1 0 y b = true ↔ u.1 0 y b = true ∨ (y = x * 7 + i ∧ b < 160 ∧ b < r ∧ u.1 4 t b = true)) → (r < 160 → u.1 4 t r = true) → r < 224 → va_P D vwA (sW a kI kL kZ v) H → va_D (sA a) (sW a kI kL kZ v) → va_S (sA a) s.heap H locs → 224 - r < fu → lv_has ls 7 [(6, .int (nI r)), (5, .int (nI (x * 7 + i))), (0, .ref (a 3)), (1, .int (nI x)), (2, .int (nI i)), (3, .ref (a 22)), (4, .int (nI t))] → W p l e R s m ([.ref (a 3), .int (nI x), .int (nI i), .ref (a 22), .int (nI t)] : List Value).toArray below meth c H locs 0 0 Q (F0 m 22 ls []) := by
    intro fu
    induction fu with
    | zero => intros; omega
    | succ fu ih22 =>
      intro r v ls H locs g1 g2 g3 g4 hP hD hS hfu hl
      refine lv_iload hx hb dC_addAll_22 (lv_at hl 0 rfl) ?_
      refine lv_sipush (v := nI 160) hx hb dC_addAll_24 (by decide +kernel) ?_
      refine tq_ge hx hb dC_addAll_27 (tgt := 59) (by decide) (by omega) (by omega) (fun h27 => ?_) (fun h27 => ?_)
      · subst hQe
        exact W.vret hx hb hr (fun t ht hW => ⟨⟨v, rfl, ⟨g1, all_end h27 g2⟩, tq_hp ht hP⟩, hS.F ht⟩) hS.2.2 dC_addAll_59
      · refine lv_aload_n hx hb dC_addAll_30 rfl (lv_at hl 2 rfl) ?_
        refine lv_iload_n hx hb dC_addAll_31 rfl (lv_at hl 3 rfl) ?_
        refine lv_iload_n hx hb dC_addAll_32 rfl (lv_at hl 4 rfl) ?_
        refine lv_iload hx hb dC_addAll_33 (lv_at hl 0 rfl) ?_
        refine ks_v (wf := sW a kI kL kZ) (u := v) ⟨hx, hb, hml, hown, hA⟩ (c_add l D a kI kL kZ v x i r (by omega) (by omega) (by omega)) (kw_C_94 hA rfl rfl ⟨Nat.le_trans (Nat.le_of_ble_eq_true rfl) hRf, Nat.le_trans (Nat.le_of_ble_eq_true rfl) hRl⟩) hK hP hD hS (fun _ h => h) (fun u' => sW_adr u') 3 3 rfl rfl rfl hl.1 (Nat.le_of_ble_eq_true rfl) ⟨by omega, by omega⟩ dC_addAll_35 rfl (fun u2 H locs hu2 hP hD hS => ?_)
        refine lv_aload_n hx hb dC_addAll_38 rfl (lv_at hl 5 rfl) ?_
        refine lv_iload hx hb dC_addAll_39 (lv_at hl 6 rfl) ?_
        refine lv_iload hx hb dC_addAll_41 (lv_at hl 0 rfl) ?_
        refine lv_iconst (v := nI 1) hx hb dC_addAll_43 (by decide +kernel) ?_
        refine tq_iadd hx hb dC_addAll_44 ?_
        refine lv_aload_n hx hb dC_addAll_45 rfl (lv_at hl 2 rfl) ?_
        refine gf_C_24 (v := .ref (a 14)) hx hb hA hown hK hP 3 rfl rfl dC_addAll_46 ?_
        refine lv_iload hx hb dC_addAll_49 (lv_at hl 1 rfl) ?_
        refine k_nextBeyond ⟨hx, hb, hml, hown, hA⟩ (kw_C_182 hA rfl rfl ⟨Nat.le_trans (Nat.le_of_ble_eq_true rfl) hRf, Nat.le_trans (Nat.le_of_ble_eq_true rfl) hRl⟩) hK hP hS 22 23 14 15 1 rfl rfl rfl rfl rfl (by decide) (by omega) (by omega) (by decide) (by decide) (by decide) (by omega) hl.1 (Nat.le_of_ble_eq_true rfl) ⟨by omega, by omega⟩ dC_addAll_51 (fun r3 H locs hr3 hP hS => ?_)
        refine lv_istore (lv' := [(6, .int (nI r3)), (5, .int (nI (x * 7 + i))), (0, .ref (a 3)), (1, .int (nI x)), (2, .int (nI i)), (3, .ref (a 22)), (4, .int (nI t))]) hx hb dC_addAll_54 hl (by decide) rfl (fun ls hl => ?_)
        refine lv_goto hx hb dC_addAll_56 (tgt := 22) (by decide) ?_
        have hT : ∀ b, u2.1 4 t b = true ↔ u.1 4 t b = true := fun b => by rw [hu2.1.2.2.2.2.2.1 4 (by decide), g1.2.2.2.2.2.1 4 (by decide)]
        have hge := hr3.1
        have hlt := hr3.2.1
        exact ih22 r3 u2 ls H locs (ext_trans g1 hu2.1) (all_step g2 (g3 h27) h27 hu2.2 hT hr3) (fun z => (hT _).mp (all_T hr3 z)) (by omega) hP hD hS (by omega) (lv_sub hl [0, 1, 2, 3, 4, 5, 6] rfl)
  exact lp _ r1 u ls _ _ (ext_refl u) (all_first hr1) (all_T hr1) (by have := hr1.2.1; omega) hP hD hS (Nat.lt_succ_self _) (lv_sub hl [0, 1, 2, 3, 4, 5, 6] rfl)
set_option maxHeartbeats 4000000 in
set_option maxRecDepth 100000 in
/-- c_addAll0 -/
theorem c_addAll0 (l : Launch) (D : va_G) (a : Nat → Nat) (kI kL kZ : ClassId) (u : sU) (x i t : Nat) (hx1 : x < 160) (hi1 : i < 7) (ht1 : t < 1120) : Met l yC_addAll (wC_addAll :: wA) ({ frames := 2, cells := 0, slots := 0, locals := 49 }) (va_Pc [.ref (a 3), .int (nI x), .int (nI i), .ref (a 14), .int (nI t)] (tq_wB D vwA (sW a kI kL kZ u) (sT kI kL kZ))) (va_Qv (fun (u' : sU) => s_ext u u' ∧ ∀ y b, u'.1 0 y b = true ↔ u.1 0 y b = true ∨ (y = x * 7 + i ∧ b < 160 ∧ u.1 0 t b = true)) (fun u' t => va_P D vwA (sW a kI kL kZ u') t.heap) (sA a)) 0 0 (sA a) := by
  refine Met.ofW (cc := bC_addAll) (maxL := 7) (ret := none) (by decide +kernel) rfl ?_
  intro p e s m args below meth c s₁ B1 hml hv
  obtain ⟨rfl, hP, hK, hD0⟩ := hv
  have hx := B1.exec
  have hb := B1.bytes
  have hr := B1.returns
  have hA : ∀ w ∈ wA, w.before ([.ref (a 3), .int (nI x), .int (nI i), .ref (a 14), .int (nI t)] : List Value).toArray s = true := fun w h => atoms_spec (ws := wC_addAll :: wA) B1.pre w (List.mem_cons_of_mem _ h)
  have hown : s.vm.findClass RcC = some m.cls := findClass_of_methodNamed B1.named
  have hlocks := B1.notSynchronized
  have hS : va_S (sA a) s.heap s.heap [] := va_S.rf
  have hl := lv_entry ([.ref (a 3), .int (nI x), .int (nI i), .ref (a 14), .int (nI t)]) (n := 7) (Nat.le_of_ble_eq_true rfl)
  rw [lg_entry_eq]
  generalize (lg_sl ([.ref (a 3), .int (nI x), .int (nI i), .ref (a 14), .int (nI t)]) ++ List.replicate (7 - (lg_sl ([.ref (a 3), .int (nI x), .int (nI i), .ref (a 14), .int (nI t)])).length) Slot.unset).toArray = ls at hl ⊢
  have hl : lv_has ls 7 [(0, .ref (a 3)), (1, .int (nI x)), (2, .int (nI i)), (3, .ref (a 14)), (4, .int (nI t))] := hl
  refine tq_gen (fun R Q hRe hQe => ?_)
  have hRf : 2 ≤ R.frames := by rw [hRe]; exact Nat.le_of_ble_eq_true rfl
  have hRl : 49 ≤ R.locals := by rw [hRe]; exact Nat.le_of_ble_eq_true rfl
  have hRc : 0 ≤ R.cells := by rw [hRe]; exact Nat.le_of_ble_eq_true rfl
  have hRs : 0 ≤ R.slots := by rw [hRe]; exact Nat.le_of_ble_eq_true rfl
  have hD := sA_D hD0
  refine lv_iload_n hx hb dC_addAll_0 rfl (lv_at hl 1 rfl) ?_
  refine lv_iload_n hx hb dC_addAll_1 rfl (lv_at hl 2 rfl) ?_
  refine ks_s ⟨hx, hb, hml, hown, hA⟩ (c_row l x i) (kw_C_57 hA rfl rfl ⟨Nat.le_trans (Nat.le_of_ble_eq_true rfl) hRf, Nat.le_trans (Nat.le_of_ble_eq_true rfl) hRl⟩) hP hS rfl hl.1 (Nat.le_of_ble_eq_true rfl) ⟨by omega, by omega⟩ dC_addAll_2 rfl (fun H locs hP hS => ?_)
  refine lv_istore (lv' := [(5, .int (nI (x * 7 + i))), (0, .ref (a 3)), (1, .int (nI x)), (2, .int (nI i)), (3, .ref (a 14)), (4, .int (nI t))]) hx hb dC_addAll_5 hl (by decide) rfl (fun ls hl => ?_)
  refine lv_aload_n hx hb dC_addAll_7 rfl (lv_at hl 4 rfl) ?_
  refine lv_iload hx hb dC_addAll_8 (lv_at hl 5 rfl) ?_
  refine lv_iconst (v := nI 0) hx hb dC_addAll_10 (by decide +kernel) ?_
  refine lv_aload_n hx hb dC_addAll_11 rfl (lv_at hl 1 rfl) ?_
  refine gf_C_24 (v := .ref (a 14)) hx hb hA hown hK hP 3 rfl rfl dC_addAll_12 ?_
  refine lv_iload hx hb dC_addAll_15 (lv_at hl 0 rfl) ?_
  refine k_nextBeyond ⟨hx, hb, hml, hown, hA⟩ (kw_C_182 hA rfl rfl ⟨Nat.le_trans (Nat.le_of_ble_eq_true rfl) hRf, Nat.le_trans (Nat.le_of_ble_eq_true rfl) hRl⟩) hK hP hS 14 15 14 15 1 rfl rfl rfl rfl rfl (by decide) (by omega) (by omega) (by decide) (by decide) (by decide) (by omega) hl.1 (Nat.le_of_ble_eq_true rfl) ⟨by omega, by omega⟩ dC_addAll_17 (fun r1 H locs hr1 hP hS => ?_)
  refine lv_istore (lv' := [(6, .int (nI r1)), (5, .int (nI (x * 7 + i))), (0, .ref (a 3)), (1, .int (nI x)), (2, .int (nI i)), (3, .ref (a 14)), (4, .int (nI t))]) hx hb dC_addAll_20 hl (by decide) rfl (fun ls hl => ?_)
  have lp : ∀ (fu : Nat) (r : Nat) (v : sU) (ls : Array Slot) (H : Heap) (locs : List Loc), s_ext u v → (∀ y b, v.1 0 y b = true ↔ u.1 0 y b = true ∨ (y = x * 7 + i ∧ b < 160 ∧ b < r ∧ u.1 0 t b = true)) → (r < 160 → u.1 0 t r = true) → r < 224 → va_P D vwA (sW a kI kL kZ v) H → va_D (sA a) (sW a kI kL kZ v) → va_S (sA a) s.heap H locs → 224 - r < fu → lv_has ls 7 [(6, .int (nI r)), (5, .int (nI (x * 7 + i))), (0, .ref (a 3)), (1, .int (nI x)), (2, .int (nI i)), (3, .ref (a 14)), (4, .int (nI t))] → W p l e R s m ([.ref (a 3), .int (nI x), .int (nI i), .ref (a 14), .int (nI t)] : List Value).toArray below meth c H locs 0 0 Q (F0 m 22 ls []) := by
    intro fu
    induction fu with
    | zero => intros; omega
    | succ fu ih22 =>
      intro r v ls H locs g1 g2 g3 g4 hP hD hS hfu hl
      refine lv_iload hx hb dC_addAll_22 (lv_at hl 0 rfl) ?_
      refine lv_sipush (v := nI 160) hx hb dC_addAll_24 (by decide +kernel) ?_
      refine tq_ge hx hb dC_addAll_27 (tgt := 59) (by decide) (by omega) (by omega) (fun h27 => ?_) (fun h27 => ?_)
      · subst hQe
        exact W.vret hx hb hr (fun t ht hW => ⟨⟨v, rfl, ⟨g1, all_end h27 g2⟩, tq_hp ht hP⟩, hS.F ht⟩) hS.2.2 dC_addAll_59
      · refine lv_aload_n hx hb dC_addAll_30 rfl (lv_at hl 2 rfl) ?_
        refine lv_iload_n hx hb dC_addAll_31 rfl (lv_at hl 3 rfl) ?_
        refine lv_iload_n hx hb dC_addAll_32 rfl (lv_at hl 4 rfl) ?_
        refine lv_iload hx hb dC_addAll_33 (lv_at hl 0 rfl) ?_
        refine ks_v (wf := sW a kI kL kZ) (u := v) ⟨hx, hb, hml, hown, hA⟩ (c_add l D a kI kL kZ v x i r (by omega) (by omega) (by omega)) (kw_C_94 hA rfl rfl ⟨Nat.le_trans (Nat.le_of_ble_eq_true rfl) hRf, Nat.le_trans (Nat.le_of_ble_eq_true rfl) hRl⟩) hK hP hD hS (fun _ h => h) (fun u' => sW_adr u') 3 3 rfl rfl rfl hl.1 (Nat.le_of_ble_eq_true rfl) ⟨by omega, by omega⟩ dC_addAll_35 rfl (fun u2 H locs hu2 hP hD hS => ?_)
        refine lv_aload_n hx hb dC_addAll_38 rfl (lv_at hl 5 rfl) ?_
        refine lv_iload hx hb dC_addAll_39 (lv_at hl 6 rfl) ?_
        refine lv_iload hx hb dC_addAll_41 (lv_at hl 0 rfl) ?_
        refine lv_iconst (v := nI 1) hx hb dC_addAll_43 (by decide +kernel) ?_
        refine tq_iadd hx hb dC_addAll_44 ?_
        refine lv_aload_n hx hb dC_addAll_45 rfl (lv_at hl 2 rfl) ?_
        refine gf_C_24 (v := .ref (a 14)) hx hb hA hown hK hP 3 rfl rfl dC_addAll_46 ?_
        refine lv_iload hx hb dC_addAll_49 (lv_at hl 1 rfl) ?_
        refine k_nextBeyond ⟨hx, hb, hml, hown, hA⟩ (kw_C_182 hA rfl rfl ⟨Nat.le_trans (Nat.le_of_ble_eq_true rfl) hRf, Nat.le_trans (Nat.le_of_ble_eq_true rfl) hRl⟩) hK hP hS 14 15 14 15 1 rfl rfl rfl rfl rfl (by decide) (by omega) (by omega) (by decide) (by decide) (by decide) (by omega) hl.1 (Nat.le_of_ble_eq_true rfl) ⟨by omega, by omega⟩ dC_addAll_51 (fun r3 H locs hr3 hP hS => ?_)
        refine lv_istore (lv' := [(6, .int (nI r3)), (5, .int (nI (x * 7 + i))), (0, .ref (a 3)), (1, .int (nI x)), (2, .int (nI i)), (3, .ref (a 14)), (4, .int (nI t))]) hx hb dC_addAll_54 hl (by decide) rfl (fun ls hl => ?_)
        refine lv_goto hx hb dC_addAll_56 (tgt := 22) (by decide) ?_
        have hT : ∀ b, u2.1 0 t b = true ↔ u.1 0 t b = true := fun b => by rw [hu2.2, all_T0 g2 b]; exact ⟨fun z => z.elim id (fun z => by have h9 := g3 h27; rw [z.2]; exact h9), Or.inl⟩
        have hge := hr3.1
        have hlt := hr3.2.1
        exact ih22 r3 u2 ls H locs (ext_trans g1 hu2.1) (all_step g2 (g3 h27) h27 hu2.2 hT hr3) (fun z => (hT _).mp (all_T hr3 z)) (by omega) hP hD hS (by omega) (lv_sub hl [0, 1, 2, 3, 4, 5, 6] rfl)
  exact lp _ r1 u ls _ _ (ext_refl u) (all_first hr1) (all_T hr1) (by have := hr1.2.1; omega) hP hD hS (Nat.lt_succ_self _) (lv_sub hl [0, 1, 2, 3, 4, 5, 6] rfl)
set_option maxHeartbeats 4000000 in
set_option maxRecDepth 100000 in
/-- c_addFromAll -/
theorem c_addFromAll (l : Launch) (D : va_G) (a : Nat → Nat) (kI kL kZ : ClassId) (u : sU) (y0 q0 i d : Nat) (htr : s_tr u) (hy1 : y0 < 160) (hq1 : q0 < 7) (hi1 : i < 7) (hd1 : d < 160) : Met l yC_addFromAll (wC_addFromAll :: wA) ({ frames := 2, cells := 0, slots := 0, locals := 49 }) (va_Pc [.ref (a 3), .int (nI (y0 * 7 + q0)), .int (nI i), .int (nI d)] (tq_wB D vwA (sW a kI kL kZ u) (sT kI kL kZ))) (va_Qv (fun (u' : sU) => s_ext u u' ∧ s_from u u' (y0 * 7 + q0) i d 160) (fun u' t => va_P D vwA (sW a kI kL kZ u') t.heap) (sA a)) 0 0 (sA a) := by
  refine Met.ofW (cc := bC_addFromAll) (maxL := 6) (ret := none) (by decide +kernel) rfl ?_
  intro p e s m args below meth c s₁ B1 hml hv
  obtain ⟨rfl, hP, hK, hD0⟩ := hv
  have hx := B1.exec
  have hb := B1.bytes
  have hr := B1.returns
  have hA : ∀ w ∈ wA, w.before ([.ref (a 3), .int (nI (y0 * 7 + q0)), .int (nI i), .int (nI d)] : List Value).toArray s = true := fun w h => atoms_spec (ws := wC_addFromAll :: wA) B1.pre w (List.mem_cons_of_mem _ h)
  have hown : s.vm.findClass RcC = some m.cls := findClass_of_methodNamed B1.named
  have hlocks := B1.notSynchronized
  have hS : va_S (sA a) s.heap s.heap [] := va_S.rf
  have hl := lv_entry ([.ref (a 3), .int (nI (y0 * 7 + q0)), .int (nI i), .int (nI d)]) (n := 6) (Nat.le_of_ble_eq_true rfl)
  rw [lg_entry_eq]
  generalize (lg_sl ([.ref (a 3), .int (nI (y0 * 7 + q0)), .int (nI i), .int (nI d)]) ++ List.replicate (6 - (lg_sl ([.ref (a 3), .int (nI (y0 * 7 + q0)), .int (nI i), .int (nI d)])).length) Slot.unset).toArray = ls at hl ⊢
  have hl : lv_has ls 6 [(0, .ref (a 3)), (1, .int (nI (y0 * 7 + q0))), (2, .int (nI i)), (3, .int (nI d))] := hl
  refine tq_gen (fun R Q hRe hQe => ?_)
  have hRf : 2 ≤ R.frames := by rw [hRe]; exact Nat.le_of_ble_eq_true rfl
  have hRl : 49 ≤ R.locals := by rw [hRe]; exact Nat.le_of_ble_eq_true rfl
  have hRc : 0 ≤ R.cells := by rw [hRe]; exact Nat.le_of_ble_eq_true rfl
  have hRs : 0 ≤ R.slots := by rw [hRe]; exact Nat.le_of_ble_eq_true rfl
  have hD := sA_D hD0
  refine lv_iload_n hx hb dC_addFromAll_0 rfl (lv_at hl 3 rfl) ?_
  refine lv_iload_n hx hb dC_addFromAll_1 rfl (lv_at hl 2 rfl) ?_
  refine ks_s ⟨hx, hb, hml, hown, hA⟩ (c_row l d i) (kw_C_57 hA rfl rfl ⟨Nat.le_trans (Nat.le_of_ble_eq_true rfl) hRf, Nat.le_trans (Nat.le_of_ble_eq_true rfl) hRl⟩) hP hS rfl hl.1 (Nat.le_of_ble_eq_true rfl) ⟨by omega, by omega⟩ dC_addFromAll_2 rfl (fun H locs hP hS => ?_)
  refine lv_istore (lv' := [(4, .int (nI (d * 7 + i))), (0, .ref (a 3)), (1, .int (nI (y0 * 7 + q0))), (2, .int (nI i)), (3, .int (nI d))]) hx hb dC_addFromAll_5 hl (by decide) rfl (fun ls hl => ?_)
  refine lv_aload_n hx hb dC_addFromAll_7 rfl (lv_at hl 1 rfl) ?_
  refine gf_C_28 (v := .ref (a 16)) hx hb hA hown hK hP 3 rfl rfl dC_addFromAll_8 ?_
  refine lv_iload_n hx hb dC_addFromAll_11 rfl (lv_at hl 2 rfl) ?_
  refine lv_iconst (v := nI 0) hx hb dC_addFromAll_12 (by decide +kernel) ?_
  refine lv_aload_n hx hb dC_addFromAll_13 rfl (lv_at hl 1 rfl) ?_
  refine gf_C_28 (v := .ref (a 16)) hx hb hA hown hK hP 3 rfl rfl dC_addFromAll_14 ?_
  refine lv_iload hx hb dC_addFromAll_17 (lv_at hl 0 rfl) ?_
  refine k_nextBeyond ⟨hx, hb, hml, hown, hA⟩ (kw_C_182 hA rfl rfl ⟨Nat.le_trans (Nat.le_of_ble_eq_true rfl) hRf, Nat.le_trans (Nat.le_of_ble_eq_true rfl) hRl⟩) hK hP hS 16 17 16 17 1 rfl rfl rfl rfl rfl (by decide) (by omega) (by omega) (by decide) (by decide) (by decide) (by omega) hl.1 (Nat.le_of_ble_eq_true rfl) ⟨by omega, by omega⟩ dC_addFromAll_19 (fun r1 H locs hr1 hP hS => ?_)
  refine lv_istore (lv' := [(5, .int (nI r1)), (4, .int (nI (d * 7 + i))), (0, .ref (a 3)), (1, .int (nI (y0 * 7 + q0))), (2, .int (nI i)), (3, .int (nI d))]) hx hb dC_addFromAll_22 hl (by decide) rfl (fun ls hl => ?_)
  have lp : ∀ (fu : Nat) (r : Nat) (v : sU) (ls : Array Slot) (H : Heap) (locs : List Loc), s_ext u v → s_from u v (y0 * 7 + q0) i d r → (r < 160 → u.1 1 (y0 * 7 + q0) r = true ∧ ¬ y0 * 7 + q0 = d * 7 + i) → r < 224 → va_P D vwA (sW a kI kL kZ v) H → va_D (sA a) (sW a kI kL kZ v) → va_S (sA a) s.heap H locs → 224 - r < fu → lv_has ls 6 [(5, .int (nI r)), (4, .int (nI (d * 7 + i))), (0, .ref (a 3)), (1, .int (nI (y0 * 7 + q0))), (2, .int (nI i)), (3, .int (nI d))] → W p l e R s m ([.ref (a 3), .int (nI (y0 * 7 + q0)), .int (nI i), .int (nI d)] : List Value).toArray below meth c H locs 0 0 Q (F0 m 24 ls []) := by
    intro fu
    induction fu with
    | zero => intros; omega
    | succ fu ih24 =>
      intro r v ls H locs g1 g2 g3 g4 hP hD hS hfu hl
      refine lv_iload hx hb dC_addFromAll_24 (lv_at hl 0 rfl) ?_
      refine lv_sipush (v := nI 160) hx hb dC_addFromAll_26 (by decide +kernel) ?_
      refine tq_ge hx hb dC_addFromAll_29 (tgt := 63) (by decide) (by omega) (by omega) (fun h29 => ?_) (fun h29 => ?_)
      · subst hQe
        exact W.vret hx hb hr (fun t ht hW => ⟨⟨v, rfl, ⟨g1, from_end h29 g2⟩, tq_hp ht hP⟩, hS.F ht⟩) hS.2.2 dC_addFromAll_63
      · refine lv_aload_n hx hb dC_addFromAll_32 rfl (lv_at hl 2 rfl) ?_
        refine lv_iload hx hb dC_addFromAll_33 (lv_at hl 0 rfl) ?_
        refine lv_iload_n hx hb dC_addFromAll_35 rfl (lv_at hl 4 rfl) ?_
        refine lv_iload_n hx hb dC_addFromAll_36 rfl (lv_at hl 5 rfl) ?_
        refine ks_v (wf := sW a kI kL kZ) (u := v) ⟨hx, hb, hml, hown, hA⟩ (c_add l D a kI kL kZ v r i d (by omega) (by omega) (by omega)) (kw_C_94 hA rfl rfl ⟨Nat.le_trans (Nat.le_of_ble_eq_true rfl) hRf, Nat.le_trans (Nat.le_of_ble_eq_true rfl) hRl⟩) hK hP hD hS (fun _ h => h) (fun u' => sW_adr u') 3 3 rfl rfl rfl hl.1 (Nat.le_of_ble_eq_true rfl) ⟨by omega, by omega⟩ dC_addFromAll_37 rfl (fun u2 H locs hu2 hP hD hS => ?_)
        refine lv_aload_n hx hb dC_addFromAll_40 rfl (lv_at hl 2 rfl) ?_
        refine gf_C_28 (v := .ref (a 16)) hx hb hA hown hK hP 3 rfl rfl dC_addFromAll_41 ?_
        refine lv_iload_n hx hb dC_addFromAll_44 rfl (lv_at hl 3 rfl) ?_
        refine lv_iload hx hb dC_addFromAll_45 (lv_at hl 0 rfl) ?_
        refine lv_iconst (v := nI 1) hx hb dC_addFromAll_47 (by decide +kernel) ?_
        refine tq_iadd hx hb dC_addFromAll_48 ?_
        refine lv_aload_n hx hb dC_addFromAll_49 rfl (lv_at hl 2 rfl) ?_
        refine gf_C_28 (v := .ref (a 16)) hx hb hA hown hK hP 3 rfl rfl dC_addFromAll_50 ?_
        refine lv_iload hx hb dC_addFromAll_53 (lv_at hl 1 rfl) ?_
        refine k_nextBeyond ⟨hx, hb, hml, hown, hA⟩ (kw_C_182 hA rfl rfl ⟨Nat.le_trans (Nat.le_of_ble_eq_true rfl) hRf, Nat.le_trans (Nat.le_of_ble_eq_true rfl) hRl⟩) hK hP hS 16 17 16 17 1 rfl rfl rfl rfl rfl (by decide) (by omega) (by omega) (by decide) (by decide) (by decide) (by omega) hl.1 (Nat.le_of_ble_eq_true rfl) ⟨by omega, by omega⟩ dC_addFromAll_55 (fun r3 H locs hr3 hP hS => ?_)
        refine lv_istore (lv' := [(5, .int (nI r3)), (4, .int (nI (d * 7 + i))), (0, .ref (a 3)), (1, .int (nI (y0 * 7 + q0))), (2, .int (nI i)), (3, .int (nI d))]) hx hb dC_addFromAll_58 hl (by decide) rfl (fun ls hl => ?_)
        refine lv_goto hx hb dC_addFromAll_60 (tgt := 24) (by decide) ?_
        have hge := hr3.1
        have hlt := hr3.2.1
        exact ih24 r3 u2 ls H locs (ext_trans g1 hu2.1) (from_step hq1 hi1 hd1 hy1 htr g1 g2 h29 (g3 h29).1 (g3 h29).2 hu2 hr3) (fun z => ⟨(from_row hq1 hi1 hy1 (ext_trans g1 hu2.1) (from_step hq1 hi1 hd1 hy1 htr g1 g2 h29 (g3 h29).1 (g3 h29).2 hu2 hr3) (from_S hr3 z).2 z).mp (from_S hr3 z).1, (from_S hr3 z).2⟩) (by have := hr3.2.1; omega) hP hD hS (by omega) (lv_sub hl [0, 1, 2, 3, 4, 5] rfl)
  exact lp _ r1 u ls _ _ (ext_refl u) (from_first htr hi1 hd1 hr1) (from_S hr1) (by have := hr1.2.1; omega) hP hD hS (Nat.lt_succ_self _) (lv_sub hl [0, 1, 2, 3, 4, 5] rfl)
end
section
/-! The table of descriptions: N of them, kinds kd (0 fixed, 1 a name, 2 BOTH, 3 SOME), parts fa, fb. -/
def s_tm (u : sU) (N : Nat) (kd fa fb : Nat → Nat) : Prop :=
  u.2.2 0 = N ∧ 2 ≤ N ∧ N ≤ 160 ∧
  (∀ k, k < N → u.2.1 0 k = nI (kd k) ∧ kd k ≤ 3) ∧
  (∀ k, k < N → kd k = 2 → u.2.1 1 k = nI (fa k) ∧ u.2.1 2 k = nI (fb k) ∧ fa k < N ∧ fb k < N) ∧
  (∀ k, k < N → kd k = 3 → u.2.1 1 k = nI (fa k) ∧ u.2.1 2 k = nI (fb k) ∧ fa k < 6 ∧ fb k < N) ∧
  (∀ d b, d < 160 → b < 160 → (u.1 7 d b = true ↔ b < N ∧ kd b = 2 ∧ (fa b = d ∨ fb b = d))) ∧
  (∀ i d, i < 6 → d < 160 → ((u.2.1 3 (i * 160 + d) = -1 ∧ ∀ k, k < N → kd k = 3 → ¬ (fa k = i ∧ fb k = d)) ∨ ∃ k, k < N ∧ kd k = 3 ∧ fa k = i ∧ fb k = d ∧ u.2.1 3 (i * 160 + d) = nI k)) ∧
  (∀ i d, i < 6 → d < 160 → (u.1 8 i d = true ↔ ∃ k, k < N ∧ kd k = 3 ∧ fa k = i ∧ fb k = d)) ∧
  (∀ k j, k < N → j < N → kd k = kd j → 2 ≤ kd k → fa k = fa j → fb k = fb j → k = j)
theorem tm_ext {u v : sU} {N : Nat} {kd fa fb : Nat → Nat} (h : s_tm u N kd fa fb) (k : s_ext u v) : s_tm v N kd fa fb := by
  unfold s_tm
  rw [k.2.2.2.2.2.2, k.2.2.2.2.2.1 7 (by decide), k.2.2.2.2.2.1 8 (by decide)]
  exact h
section TMS
variable {u : sU} {N : Nat} {kd fa fb : Nat → Nat}
theorem tm_N (h : s_tm u N kd fa fb) : u.2.2 0 = N ∧ 2 ≤ N ∧ N ≤ 160 := ⟨h.1, h.2.1, h.2.2.1⟩
theorem tm_k (h : s_tm u N kd fa fb) {k j : Nat} (hk : k < N) (hj : j ≤ 3) : u.2.1 0 k = nI j ↔ kd k = j := by
  obtain ⟨e, h3⟩ := h.2.2.2.1 k hk
  rw [e]
  exact nI_eq (by omega) (by omega)
theorem tm_2 (h : s_tm u N kd fa fb) {k : Nat} (hk : k < N) (h2 : kd k = 2) : u.2.1 1 k = nI (fa k) ∧ u.2.1 2 k = nI (fb k) ∧ fa k < N ∧ fb k < N := h.2.2.2.2.1 k hk h2
theorem tm_3 (h : s_tm u N kd fa fb) {k : Nat} (hk : k < N) (h2 : kd k = 3) : u.2.1 1 k = nI (fa k) ∧ u.2.1 2 k = nI (fb k) ∧ fa k < 6 ∧ fb k < N := h.2.2.2.2.2.1 k hk h2
theorem tm_b (h : s_tm u N kd fa fb) {d b : Nat} (hd : d < 160) (hb : b < 160) : u.1 7 d b = true ↔ b < N ∧ kd b = 2 ∧ (fa b = d ∨ fb b = d) := h.2.2.2.2.2.2.1 d b hd hb
theorem tm_s (h : s_tm u N kd fa fb) {i d : Nat} (hi : i < 6) (hd : d < 160) : (u.2.1 3 (i * 160 + d) = -1 ∧ ∀ k, k < N → kd k = 3 → ¬ (fa k = i ∧ fb k = d)) ∨ ∃ k, k < N ∧ kd k = 3 ∧ fa k = i ∧ fb k = d ∧ u.2.1 3 (i * 160 + d) = nI k := h.2.2.2.2.2.2.2.1 i d hi hd
theorem tm_f (h : s_tm u N kd fa fb) {i d : Nat} (hi : i < 6) (hd : d < 160) : u.1 8 i d = true ↔ ∃ k, k < N ∧ kd k = 3 ∧ fa k = i ∧ fb k = d := h.2.2.2.2.2.2.2.2.1 i d hi hd
theorem tm_u (h : s_tm u N kd fa fb) {k j : Nat} (hk : k < N) (hj : j < N) (e1 : kd k = kd j) (e2 : 2 ≤ kd k) (e3 : fa k = fa j) (e4 : fb k = fb j) : k = j := h.2.2.2.2.2.2.2.2.2 k j hk hj e1 e2 e3 e4
theorem tm_m1 {k : Nat} (h : k < 2 ^ 31) : ¬ nI k = (-1 : Int32) := fun e => by
  have := congrArg Int32.toInt e
  rw [nI_toInt h] at this
  have h2 : (-1 : Int32).toInt = -1 := by decide
  rw [h2] at this
  omega
/-- the other part of a BOTH -/
theorem tm_o (h : s_tm u N kd fa fb) {b d : Nat} (hb : b < N) (h2 : kd b = 2) (hd : d < 160) : (if u.2.1 1 b = nI d then u.2.1 2 b else u.2.1 1 b) = nI (if fa b = d then fb b else fa b) := by
  obtain ⟨e1, e2, e3, e4⟩ := tm_2 h hb h2
  have hN := (tm_N h).2.2
  rw [e1, e2]
  by_cases q : fa b = d
  · rw [if_pos q, if_pos ((nI_eq (by omega) (by omega)).mpr q)]
  · rw [if_neg q, if_neg (fun z => q ((nI_eq (by omega) (by omega)).mp z))]
end TMS
/-- every set of facts that has those of u, and that the rule asks for, has those of v -/
def s_snd (u v : sU) (rule : (Nat → Nat → Prop) → Prop) : Prop := ∀ G : Nat → Nat → Prop, (∀ y b, u.1 0 y b = true → G y b) → rule G → ∀ y b, v.1 0 y b = true → G y b
theorem snd_refl {u : sU} {rule : (Nat → Nat → Prop) → Prop} : s_snd u u rule := fun _ h _ => h
theorem snd_trans {u v w : sU} {rule : (Nat → Nat → Prop) → Prop} (h : s_snd u v rule) (k : s_snd v w rule) : s_snd u w rule := fun G h1 h2 => k G (h G h1 h2) h2
theorem snd_fact {u v w : sU} {x i d : Nat} {rule : (Nat → Nat → Prop) → Prop} (h : s_snd u v rule) (k : s_fact v w x i d) (hr : ∀ G : Nat → Nat → Prop, (∀ y b, v.1 0 y b = true → G y b) → rule G → G (x * 7 + i) d) : s_snd u w rule := fun G h1 h2 y b z => by
  rcases (k.2 y b).mp z with z | z
  · exact h G h1 h2 y b z
  · rw [z.1, z.2]
    exact hr G (h G h1 h2) h2
/-- emptySources -/
def s_empt (u v : sU) (d n : Nat) : Prop := ∀ y b, v.1 0 y b = true ↔ u.1 0 y b = true ∨ (b = 1 ∧ ∃ z, z < 160 ∧ y = z * 7 + 6 ∧ ∃ q, q < n ∧ u.1 1 (d * 7 + q) z = true)
theorem empt_0 (u : sU) (d : Nat) : s_empt u u d 0 := fun y b => ⟨Or.inl, fun z => z.elim id (fun ⟨_, _, _, _, q, h, _⟩ => absurd h (Nat.not_lt_zero q))⟩
/-- rows of links aren't touched where facts of 'above' come in -/
theorem src_6 {u v : sU} {d q z : Nat} (hx : s_ext u v) (h6 : ∀ y b, v.1 0 y b = true → u.1 0 y b = true ∨ ∃ x, y = x * 7 + 6) (hd : d < 160) (hq : q < 6) (hz : z < 160) : v.1 1 (d * 7 + q) z = true ↔ u.1 1 (d * 7 + q) z = true := by
  rw [hx.2.2.2.2.1 z q d (by omega) hz hd]
  refine ⟨fun w => w.elim id (fun w => ?_), Or.inl⟩
  rcases h6 _ _ w.1 with w2 | ⟨x, w2⟩
  · exact absurd w2 w.2
  · omega
theorem empt_s {u v w : sU} {d n : Nat} (hd : d < 160) (hn : n < 6) (hx : s_ext u v) (h : s_empt u v d n) (k : s_from v w (d * 7 + n) 6 1 160) : s_empt u w d (n + 1) := by
  have e : ∀ z, z < 160 → (v.1 1 (d * 7 + n) z = true ↔ u.1 1 (d * 7 + n) z = true) := fun z hz => src_6 hx (fun y b z => ((h y b).mp z).elim Or.inl (fun ⟨_, x, _, e, _⟩ => Or.inr ⟨x, e⟩)) hd hn hz
  intro y b
  rw [k, h]
  constructor
  · rintro ((z | ⟨z1, x, z2, z3, q, z4, z5⟩) | ⟨z1, x, z2, _, z3, z4⟩)
    · exact Or.inl z
    · exact Or.inr ⟨z1, x, z2, z3, q, by omega, z5⟩
    · exact Or.inr ⟨z1, x, z2, z3, n, by omega, (e x z2).mp z4⟩
  · rintro (z | ⟨z1, x, z2, z3, q, z4, z5⟩)
    · exact Or.inl (Or.inl z)
    · by_cases hq : q = n
      · subst hq
        exact Or.inr ⟨z1, x, z2, z2, z3, (e x z2).mpr z5⟩
      · exact Or.inl (Or.inr ⟨z1, x, z2, z3, q, by omega, z5⟩)
/-- drawParts -/
def s_parts (u v : sU) (kd fa fb : Nat → Nat) (x d : Nat) : Prop := ∀ y b, v.1 0 y b = true ↔ u.1 0 y b = true ∨ (kd d = 2 ∧ y = x * 7 + 6 ∧ (b = fa d ∨ b = fb d)) ∨ (kd d = 3 ∧ y = x * 7 + fa d ∧ b = fb d)
theorem parts_2 {u v w : sU} {kd fa fb : Nat → Nat} {x d : Nat} (h2 : kd d = 2) (h : s_fact u v x 6 (fa d)) (k : s_fact v w x 6 (fb d)) : s_ext u w ∧ s_parts u w kd fa fb x d := by
  refine ⟨ext_trans h.1 k.1, fun y b => ?_⟩
  rw [k.2, h.2]
  constructor
  · rintro ((z | z) | z)
    · exact Or.inl z
    · exact Or.inr (Or.inl ⟨h2, z.1, Or.inl z.2⟩)
    · exact Or.inr (Or.inl ⟨h2, z.1, Or.inr z.2⟩)
  · rintro (z | ⟨_, z1, z2 | z2⟩ | ⟨z, _⟩)
    · exact Or.inl (Or.inl z)
    · exact Or.inl (Or.inr ⟨z1, z2⟩)
    · exact Or.inr ⟨z1, z2⟩
    · omega
theorem parts_3 {u v : sU} {kd fa fb : Nat → Nat} {x d : Nat} (h3 : kd d = 3) (h : s_fact u v x (fa d) (fb d)) : s_ext u v ∧ s_parts u v kd fa fb x d := by
  refine ⟨h.1, fun y b => ?_⟩
  rw [h.2]
  constructor
  · rintro (z | z)
    · exact Or.inl z
    · exact Or.inr (Or.inr ⟨h3, z⟩)
  · rintro (z | ⟨z, _⟩ | ⟨_, z⟩)
    · exact Or.inl z
    · omega
    · exact Or.inr z
theorem parts_0 {u : sU} {kd fa fb : Nat → Nat} {x d : Nat} (h2 : ¬ kd d = 2) (h3 : ¬ kd d = 3) : s_ext u u ∧ s_parts u u kd fa fb x d :=
  ⟨ext_refl u, fun _ _ => ⟨Or.inl, fun z => z.elim id (fun z => z.elim (fun z => absurd z.1 h2) (fun z => absurd z.1 h3))⟩⟩
/-- drawBoths: what it draws follows; all BOTH below r, of which the other part was there, are there -/
def s_bothR (N : Nat) (kd fa fb : Nat → Nat) (x d : Nat) (G : Nat → Nat → Prop) : Prop := ∀ b, b < N → kd b = 2 → ((fa b = d ∧ G (x * 7 + 6) (fb b)) ∨ (fb b = d ∧ G (x * 7 + 6) (fa b))) → G (x * 7 + 6) b
def s_bothC (u v : sU) (kd fa fb : Nat → Nat) (x d b : Nat) : Prop := (kd b = 2 → fa b = d → u.1 0 (x * 7 + 6) (fb b) = true → v.1 0 (x * 7 + 6) b = true) ∧ (kd b = 2 → fb b = d → u.1 0 (x * 7 + 6) (fa b) = true → v.1 0 (x * 7 + 6) b = true)
theorem bothC_mono {u v w : sU} {kd fa fb : Nat → Nat} {x d b : Nat} (h : s_bothC u v kd fa fb x d b) (k : s_ext v w) : s_bothC u w kd fa fb x d b := ⟨fun a1 a2 a3 => k.1 _ _ (h.1 a1 a2 a3), fun a1 a2 a3 => k.1 _ _ (h.2 a1 a2 a3)⟩
end
section
/-! Pure rows for drawBoths, drawSomes, drawFromLink, drawFromChains. -/
theorem bothC_no {u v : sU} {kd fa fb : Nat → Nat} {x d r : Nat} (hx : s_ext u v) (h : v.1 0 (x * 7 + 6) (if fa r = d then fb r else fa r) = false) : s_bothC u v kd fa fb x d r := by
  constructor
  · intro _ a2 a3
    rw [if_pos a2] at h
    rw [hx.1 _ _ a3] at h
    cases h
  · intro _ a2 a3
    by_cases q : fa r = d
    · rw [if_pos q, a2, ← q, hx.1 _ _ a3] at h
      cases h
    · rw [if_neg q, hx.1 _ _ a3] at h
      cases h
theorem bothC_yes {u v : sU} {kd fa fb : Nat → Nat} {x d r : Nat} (h : v.1 0 (x * 7 + 6) r = true) : s_bothC u v kd fa fb x d r := ⟨fun _ _ _ => h, fun _ _ _ => h⟩
theorem both_G {fa fb : Nat → Nat} {d r : Nat} {G : Nat → Prop} (h3 : fa r = d ∨ fb r = d) (hG : G (if fa r = d then fb r else fa r)) : (fa r = d ∧ G (fb r)) ∨ (fb r = d ∧ G (fa r)) := by
  by_cases q : fa r = d
  · rw [if_pos q] at hG
    exact Or.inl ⟨q, hG⟩
  · rw [if_neg q] at hG
    exact Or.inr ⟨h3.elim (fun z => absurd z q) id, hG⟩
def s_somes (u v : sU) (N : Nat) (kd fa fb : Nat → Nat) (x d n : Nat) : Prop := ∀ y b, v.1 0 y b = true ↔ u.1 0 y b = true ∨ (b < N ∧ kd b = 3 ∧ fa b < n ∧ fb b = d ∧ ∃ z, z < 160 ∧ y = z * 7 + 6 ∧ u.1 1 (x * 7 + fa b) z = true)
theorem somes_0 (u : sU) (N : Nat) (kd fa fb : Nat → Nat) (x d : Nat) : s_somes u u N kd fa fb x d 0 := fun _ _ => ⟨Or.inl, fun z => z.elim id (fun z => absurd z.2.2.1 (Nat.not_lt_zero _))⟩
theorem somes_no {u v : sU} {N : Nat} {kd fa fb : Nat → Nat} {x d n : Nat} (h : s_somes u v N kd fa fb x d n) (k : ∀ b, b < N → kd b = 3 → ¬ (fa b = n ∧ fb b = d)) : s_somes u v N kd fa fb x d (n + 1) := fun y b => by
  rw [h]
  constructor
  · rintro (z | ⟨z1, z2, z3, z4⟩)
    · exact Or.inl z
    · exact Or.inr ⟨z1, z2, by omega, z4⟩
  · rintro (z | ⟨z1, z2, z3, z4, z5⟩)
    · exact Or.inl z
    · have : ¬ fa b = n := fun e => k b z1 z2 ⟨e, z4⟩
      exact Or.inr ⟨z1, z2, by omega, z4, z5⟩
theorem somes_s {u v w : sU} {N : Nat} {kd fa fb : Nat → Nat} {x d n j : Nat} (htm : s_tm u N kd fa fb) (hx1 : x < 160) (hn : n < 6) (hx : s_ext u v) (h : s_somes u v N kd fa fb x d n) (hj : j < N) (h3 : kd j = 3) (ha : fa j = n) (hb : fb j = d) (k : s_from v w (x * 7 + n) 6 j 160) : s_somes u w N kd fa fb x d (n + 1) := by
  have e : ∀ z, z < 160 → (v.1 1 (x * 7 + n) z = true ↔ u.1 1 (x * 7 + n) z = true) := fun z hz => src_6 hx (fun y b z => ((h y b).mp z).elim Or.inl (fun ⟨_, _, _, _, x, _, e, _⟩ => Or.inr ⟨x, e⟩)) hx1 hn hz
  intro y b
  rw [k, h]
  constructor
  · rintro ((z | ⟨z1, z2, z3, z4⟩) | ⟨z1, z, z2, _, z3, z4⟩)
    · exact Or.inl z
    · exact Or.inr ⟨z1, z2, by omega, z4⟩
    · subst z1
      exact Or.inr ⟨hj, h3, by omega, hb, z, z2, z3, by rw [ha]; exact (e z z2).mp z4⟩
  · rintro (z | ⟨z1, z2, z3, z4, z, z5, z6, z7⟩)
    · exact Or.inl (Or.inl z)
    · by_cases q : fa b = n
      · have e2 : b = j := tm_u htm z1 hj (z2.trans h3.symm) (by omega) (q.trans ha.symm) (z4.trans hb.symm)
        rw [q] at z7
        exact Or.inr ⟨e2, z, z5, z5, z6, (e z z5).mpr z7⟩
      · exact Or.inl (Or.inr ⟨z1, z2, by omega, z4, z, z5, z6, z7⟩)
end
section
/-! The contracts of Closure: what is drawn from one fact. Written by wip/whole/gen/genclos2.py. -/
set_option maxHeartbeats 4000000 in
set_option maxRecDepth 100000 in
/-- c_emptySources -/
theorem c_emptySources (l : Launch) (D : va_G) (a : Nat → Nat) (kI kL kZ : ClassId) (u : sU) (d : Nat) (htr : s_tr u) (hd : d < 160) : Met l yC_emptySources (wC_emptySources :: wA) ({ frames := 3, cells := 0, slots := 0, locals := 74 }) (va_Pc [.ref (a 3), .int (nI d)] (tq_wB D vwA (sW a kI kL kZ u) (sT kI kL kZ))) (va_Qv (fun (u' : sU) => s_ext u u' ∧ s_empt u u' d 6) (fun u' t => va_P D vwA (sW a kI kL kZ u') t.heap) (sA a)) 0 0 (sA a) := by
  refine Met.ofW (cc := bC_emptySources) (maxL := 3) (ret := none) (by decide +kernel) rfl ?_
  intro p e s m args below meth c s₁ B1 hml hv
  obtain ⟨rfl, hP, hK, hD0⟩ := hv
  have hx := B1.exec
  have hb := B1.bytes
  have hr := B1.returns
  have hA : ∀ w ∈ wA, w.before ([.ref (a 3), .int (nI d)] : List Value).toArray s = true := fun w h => atoms_spec (ws := wC_emptySources :: wA) B1.pre w (List.mem_cons_of_mem _ h)
  have hown : s.vm.findClass RcC = some m.cls := findClass_of_methodNamed B1.named
  have hlocks := B1.notSynchronized
  have hS : va_S (sA a) s.heap s.heap [] := va_S.rf
  have hl := lv_entry ([.ref (a 3), .int (nI d)]) (n := 3) (Nat.le_of_ble_eq_true rfl)
  rw [lg_entry_eq]
  generalize (lg_sl ([.ref (a 3), .int (nI d)]) ++ List.replicate (3 - (lg_sl ([.ref (a 3), .int (nI d)])).length) Slot.unset).toArray = ls at hl ⊢
  have hl : lv_has ls 3 [(0, .ref (a 3)), (1, .int (nI d))] := hl
  refine tq_gen (fun R Q hRe hQe => ?_)
  have hRf : 3 ≤ R.frames := by rw [hRe]; exact Nat.le_of_ble_eq_true rfl
  have hRl : 74 ≤ R.locals := by rw [hRe]; exact Nat.le_of_ble_eq_true rfl
  have hRc : 0 ≤ R.cells := by rw [hRe]; exact Nat.le_of_ble_eq_true rfl
  have hRs : 0 ≤ R.slots := by rw [hRe]; exact Nat.le_of_ble_eq_true rfl
  have hD := sA_D hD0
  refine lv_iconst (v := nI 0) hx hb dC_emptySources_0 (by decide +kernel) ?_
  refine lv_istore_n (lv' := [(2, .int (nI 0)), (0, .ref (a 3)), (1, .int (nI d))]) hx hb dC_emptySources_1 rfl hl (by decide) rfl (fun ls hl => ?_)
  have lp : ∀ (fu : Nat) (n : Nat) (v : sU) (ls : Array Slot) (H : Heap) (locs : List Loc), s_ext u v → s_empt u v d n → n ≤ 6 → va_P D vwA (sW a kI kL kZ v) H → va_D (sA a) (sW a kI kL kZ v) → va_S (sA a) s.heap H locs → 6 - n < fu → lv_has ls 3 [(2, .int (nI n)), (0, .ref (a 3)), (1, .int (nI d))] → W p l e R s m ([.ref (a 3), .int (nI d)] : List Value).toArray below meth c H locs 0 0 Q (F0 m 2 ls []) := by
    intro fu
    induction fu with
    | zero => intros; omega
    | succ fu ih2 =>
      intro n v ls H locs g1 g2 g3 hP hD hS hfu hl
      refine lv_iload_n hx hb dC_emptySources_2 rfl (lv_at hl 0 rfl) ?_
      refine lv_bipush (v := nI 6) hx hb dC_emptySources_3 (by decide +kernel) ?_
      refine tq_ge hx hb dC_emptySources_5 (tgt := 26) (by decide) (by omega) (by omega) (fun h5 => ?_) (fun h5 => ?_)
      · subst hQe
        exact W.vret hx hb hr (fun t ht hW => ⟨⟨v, rfl, by rw [show 6 = n by omega]; exact ⟨g1, g2⟩, tq_hp ht hP⟩, hS.F ht⟩) hS.2.2 dC_emptySources_26
      · refine lv_aload_n hx hb dC_emptySources_8 rfl (lv_at hl 1 rfl) ?_
        refine lv_iload_n hx hb dC_emptySources_9 rfl (lv_at hl 2 rfl) ?_
        refine lv_iload_n hx hb dC_emptySources_10 rfl (lv_at hl 0 rfl) ?_
        refine ks_s ⟨hx, hb, hml, hown, hA⟩ (c_row l d n) (kw_C_57 hA rfl rfl ⟨Nat.le_trans (Nat.le_of_ble_eq_true rfl) hRf, Nat.le_trans (Nat.le_of_ble_eq_true rfl) hRl⟩) hP hS rfl hl.1 (Nat.le_of_ble_eq_true rfl) ⟨by omega, by omega⟩ dC_emptySources_11 rfl (fun H locs hP hS => ?_)
        refine lv_bipush (v := nI 6) hx hb dC_emptySources_14 (by decide +kernel) ?_
        refine lv_iconst (v := nI 1) hx hb dC_emptySources_16 (by decide +kernel) ?_
        refine ks_v (wf := sW a kI kL kZ) (u := v) ⟨hx, hb, hml, hown, hA⟩ (c_addFromAll l D a kI kL kZ v d n 6 1 (tr_ext htr g1) (by omega) (by omega) (by omega) (by omega)) (kw_C_113 hA rfl rfl ⟨Nat.le_trans (Nat.le_of_ble_eq_true rfl) hRf, Nat.le_trans (Nat.le_of_ble_eq_true rfl) hRl⟩) hK hP hD hS (fun _ h => h) (fun u' => sW_adr u') 3 3 rfl rfl rfl hl.1 (Nat.le_of_ble_eq_true rfl) ⟨by omega, by omega⟩ dC_emptySources_17 rfl (fun u1 H locs hu1 hP hD hS => ?_)
        refine lv_iinc (k := 0) (lv' := [(2, .int (nI (n + 1))), (0, .ref (a 3)), (1, .int (nI d))]) hx hb dC_emptySources_20 hl rfl (nI_1 _) (by decide) rfl (fun ls hl => ?_)
        refine lv_goto hx hb dC_emptySources_23 (tgt := 2) (by decide) ?_
        exact ih2 (n + 1) u1 ls H locs (ext_trans g1 hu1.1) (empt_s hd (by omega) g1 g2 hu1.2) (by omega) hP hD hS (by omega) (lv_sub hl [0, 1, 2] rfl)
  exact lp _ 0 u ls _ _ (ext_refl u) (empt_0 u d) (by omega) hP hD hS (Nat.lt_succ_self _) (lv_sub hl [0, 1, 2] rfl)
set_option maxHeartbeats 4000000 in
set_option maxRecDepth 100000 in
/-- c_drawParts -/
theorem c_drawParts (l : Launch) (D : va_G) (a : Nat → Nat) (kI kL kZ : ClassId) (u : sU) (N : Nat) (kd fa fb : Nat → Nat) (htm : s_tm u N kd fa fb) (htr : s_tr u) (x d : Nat) (hx1 : x < 160) (hd : d < N) : Met l yC_drawParts (wC_drawParts :: wA) ({ frames := 2, cells := 0, slots := 0, locals := 49 }) (va_Pc [.ref (a 3), .int (nI x), .int (nI d)] (tq_wB D vwA (sW a kI kL kZ u) (sT kI kL kZ))) (va_Qv (fun (u' : sU) => s_ext u u' ∧ s_parts u u' kd fa fb x d) (fun u' t => va_P D vwA (sW a kI kL kZ u') t.heap) (sA a)) 0 0 (sA a) := by
  refine Met.ofW (cc := bC_drawParts) (maxL := 3) (ret := none) (by decide +kernel) rfl ?_
  intro p e s m args below meth c s₁ B1 hml hv
  obtain ⟨rfl, hP, hK, hD0⟩ := hv
  have hx := B1.exec
  have hb := B1.bytes
  have hr := B1.returns
  have hA : ∀ w ∈ wA, w.before ([.ref (a 3), .int (nI x), .int (nI d)] : List Value).toArray s = true := fun w h => atoms_spec (ws := wC_drawParts :: wA) B1.pre w (List.mem_cons_of_mem _ h)
  have hown : s.vm.findClass RcC = some m.cls := findClass_of_methodNamed B1.named
  have hlocks := B1.notSynchronized
  have hS : va_S (sA a) s.heap s.heap [] := va_S.rf
  have hl := lv_entry ([.ref (a 3), .int (nI x), .int (nI d)]) (n := 3) (Nat.le_of_ble_eq_true rfl)
  rw [lg_entry_eq]
  generalize (lg_sl ([.ref (a 3), .int (nI x), .int (nI d)]) ++ List.replicate (3 - (lg_sl ([.ref (a 3), .int (nI x), .int (nI d)])).length) Slot.unset).toArray = ls at hl ⊢
  have hl : lv_has ls 3 [(0, .ref (a 3)), (1, .int (nI x)), (2, .int (nI d))] := hl
  refine tq_gen (fun R Q hRe hQe => ?_)
  have hRf : 2 ≤ R.frames := by rw [hRe]; exact Nat.le_of_ble_eq_true rfl
  have hRl : 49 ≤ R.locals := by rw [hRe]; exact Nat.le_of_ble_eq_true rfl
  have hRc : 0 ≤ R.cells := by rw [hRe]; exact Nat.le_of_ble_eq_true rfl
  have hRs : 0 ≤ R.slots := by rw [hRe]; exact Nat.le_of_ble_eq_true rfl
  have hD := sA_D hD0
  have hN := tm_N htm
  refine lv_aload_n hx hb dC_drawParts_0 rfl (lv_at hl 0 rfl) ?_
  refine gf_C_11 (v := .ref (a 1)) hx hb hA hown hK hP 3 rfl rfl dC_drawParts_1 ?_
  refine lv_iload_n hx hb dC_drawParts_4 rfl (lv_at hl 2 rfl) ?_
  refine ks_rv ⟨hx, hb, hml, hown, hA⟩ (c_kind l D a kI kL kZ u d (by omega)) (kw_C_148 hA rfl rfl ⟨Nat.le_trans (Nat.le_of_ble_eq_true rfl) hRf, Nat.le_trans (Nat.le_of_ble_eq_true rfl) hRl⟩) hK hP hS 1 1 rfl rfl rfl hl.1 (Nat.le_of_ble_eq_true rfl) ⟨by omega, by omega⟩ dC_drawParts_5 rfl (fun H locs hP hS => ?_)
  refine lv_iconst (v := nI 2) hx hb dC_drawParts_8 (by decide +kernel) ?_
  refine lv_icmp_ne hx hb dC_drawParts_9 (tgt := 45) (by decide) (fun h9 => ?_) (fun h9 => ?_)
  · have hk2 : ¬ kd d = 2 := fun z => h9 ((tm_k htm hd (by decide)).mpr z)
    refine lv_aload_n hx hb dC_drawParts_45 rfl (lv_at hl 0 rfl) ?_
    refine gf_C_11 (v := .ref (a 1)) hx hb hA hown hK hP 3 rfl rfl dC_drawParts_46 ?_
    refine lv_iload_n hx hb dC_drawParts_49 rfl (lv_at hl 2 rfl) ?_
    refine ks_rv ⟨hx, hb, hml, hown, hA⟩ (c_kind l D a kI kL kZ u d (by omega)) (kw_C_148 hA rfl rfl ⟨Nat.le_trans (Nat.le_of_ble_eq_true rfl) hRf, Nat.le_trans (Nat.le_of_ble_eq_true rfl) hRl⟩) hK hP hS 1 1 rfl rfl rfl hl.1 (Nat.le_of_ble_eq_true rfl) ⟨by omega, by omega⟩ dC_drawParts_50 rfl (fun H locs hP hS => ?_)
    refine lv_iconst (v := nI 3) hx hb dC_drawParts_53 (by decide +kernel) ?_
    refine lv_icmp_ne hx hb dC_drawParts_54 (tgt := 78) (by decide) (fun h54 => ?_) (fun h54 => ?_)
    · have hk3 : ¬ kd d = 3 := fun z => h54 ((tm_k htm hd (by decide)).mpr z)
      subst hQe
      exact W.vret hx hb hr (fun t ht hW => ⟨⟨u, rfl, parts_0 hk2 hk3, tq_hp ht hP⟩, hS.F ht⟩) hS.2.2 dC_drawParts_78
    · have hk := (tm_k htm hd (by decide)).mp h54
      have hb3 := tm_3 htm hd hk
      refine lv_aload_n hx hb dC_drawParts_57 rfl (lv_at hl 0 rfl) ?_
      refine lv_iload_n hx hb dC_drawParts_58 rfl (lv_at hl 1 rfl) ?_
      refine lv_aload_n hx hb dC_drawParts_59 rfl (lv_at hl 0 rfl) ?_
      refine gf_C_11 (v := .ref (a 1)) hx hb hA hown hK hP 3 rfl rfl dC_drawParts_60 ?_
      refine lv_iload_n hx hb dC_drawParts_63 rfl (lv_at hl 2 rfl) ?_
      refine ks_rv ⟨hx, hb, hml, hown, hA⟩ (c_left l D a kI kL kZ u d (by omega)) (kw_C_164 hA rfl rfl ⟨Nat.le_trans (Nat.le_of_ble_eq_true rfl) hRf, Nat.le_trans (Nat.le_of_ble_eq_true rfl) hRl⟩) hK hP hS 1 1 rfl rfl rfl hl.1 (Nat.le_of_ble_eq_true rfl) ⟨by omega, by omega⟩ dC_drawParts_64 rfl (fun H locs hP hS => ?_)
      refine tq_i ((tm_3 htm hd hk).1) ?_
      refine lv_aload_n hx hb dC_drawParts_67 rfl (lv_at hl 0 rfl) ?_
      refine gf_C_11 (v := .ref (a 1)) hx hb hA hown hK hP 3 rfl rfl dC_drawParts_68 ?_
      refine lv_iload_n hx hb dC_drawParts_71 rfl (lv_at hl 2 rfl) ?_
      refine ks_rv ⟨hx, hb, hml, hown, hA⟩ (c_right l D a kI kL kZ u d (by omega)) (kw_C_167 hA rfl rfl ⟨Nat.le_trans (Nat.le_of_ble_eq_true rfl) hRf, Nat.le_trans (Nat.le_of_ble_eq_true rfl) hRl⟩) hK hP hS 1 1 rfl rfl rfl hl.1 (Nat.le_of_ble_eq_true rfl) ⟨by omega, by omega⟩ dC_drawParts_72 rfl (fun H locs hP hS => ?_)
      refine tq_i ((tm_3 htm hd hk).2.1) ?_
      refine ks_v (wf := sW a kI kL kZ) (u := u) ⟨hx, hb, hml, hown, hA⟩ (c_add l D a kI kL kZ u x (fa d) (fb d) (by omega) (by omega) (by omega)) (kw_C_94 hA rfl rfl ⟨Nat.le_trans (Nat.le_of_ble_eq_true rfl) hRf, Nat.le_trans (Nat.le_of_ble_eq_true rfl) hRl⟩) hK hP hD hS (fun _ h => h) (fun u' => sW_adr u') 3 3 rfl rfl rfl hl.1 (Nat.le_of_ble_eq_true rfl) ⟨by omega, by omega⟩ dC_drawParts_75 rfl (fun u1 H locs hu1 hP hD hS => ?_)
      subst hQe
      exact W.vret hx hb hr (fun t ht hW => ⟨⟨u1, rfl, parts_3 hk hu1, tq_hp ht hP⟩, hS.F ht⟩) hS.2.2 dC_drawParts_78
  · have hk := (tm_k htm hd (by decide)).mp h9
    have hb2 := tm_2 htm hd hk
    refine lv_aload_n hx hb dC_drawParts_12 rfl (lv_at hl 0 rfl) ?_
    refine lv_iload_n hx hb dC_drawParts_13 rfl (lv_at hl 1 rfl) ?_
    refine lv_bipush (v := nI 6) hx hb dC_drawParts_14 (by decide +kernel) ?_
    refine lv_aload_n hx hb dC_drawParts_16 rfl (lv_at hl 0 rfl) ?_
    refine gf_C_11 (v := .ref (a 1)) hx hb hA hown hK hP 3 rfl rfl dC_drawParts_17 ?_
    refine lv_iload_n hx hb dC_drawParts_20 rfl (lv_at hl 2 rfl) ?_
    refine ks_rv ⟨hx, hb, hml, hown, hA⟩ (c_left l D a kI kL kZ u d (by omega)) (kw_C_164 hA rfl rfl ⟨Nat.le_trans (Nat.le_of_ble_eq_true rfl) hRf, Nat.le_trans (Nat.le_of_ble_eq_true rfl) hRl⟩) hK hP hS 1 1 rfl rfl rfl hl.1 (Nat.le_of_ble_eq_true rfl) ⟨by omega, by omega⟩ dC_drawParts_21 rfl (fun H locs hP hS => ?_)
    refine tq_i ((tm_2 htm hd hk).1) ?_
    refine ks_v (wf := sW a kI kL kZ) (u := u) ⟨hx, hb, hml, hown, hA⟩ (c_add l D a kI kL kZ u x 6 (fa d) (by omega) (by omega) (by omega)) (kw_C_94 hA rfl rfl ⟨Nat.le_trans (Nat.le_of_ble_eq_true rfl) hRf, Nat.le_trans (Nat.le_of_ble_eq_true rfl) hRl⟩) hK hP hD hS (fun _ h => h) (fun u' => sW_adr u') 3 3 rfl rfl rfl hl.1 (Nat.le_of_ble_eq_true rfl) ⟨by omega, by omega⟩ dC_drawParts_24 rfl (fun u2 H locs hu2 hP hD hS => ?_)
    refine lv_aload_n hx hb dC_drawParts_27 rfl (lv_at hl 0 rfl) ?_
    refine lv_iload_n hx hb dC_drawParts_28 rfl (lv_at hl 1 rfl) ?_
    refine lv_bipush (v := nI 6) hx hb dC_drawParts_29 (by decide +kernel) ?_
    refine lv_aload_n hx hb dC_drawParts_31 rfl (lv_at hl 0 rfl) ?_
    refine gf_C_11 (v := .ref (a 1)) hx hb hA hown hK hP 3 rfl rfl dC_drawParts_32 ?_
    refine lv_iload_n hx hb dC_drawParts_35 rfl (lv_at hl 2 rfl) ?_
    refine ks_rv ⟨hx, hb, hml, hown, hA⟩ (c_right l D a kI kL kZ u2 d (by omega)) (kw_C_167 hA rfl rfl ⟨Nat.le_trans (Nat.le_of_ble_eq_true rfl) hRf, Nat.le_trans (Nat.le_of_ble_eq_true rfl) hRl⟩) hK hP hS 1 1 rfl rfl rfl hl.1 (Nat.le_of_ble_eq_true rfl) ⟨by omega, by omega⟩ dC_drawParts_36 rfl (fun H locs hP hS => ?_)
    refine tq_i ((tm_2 (tm_ext htm hu2.1) hd hk).2.1) ?_
    refine ks_v (wf := sW a kI kL kZ) (u := u2) ⟨hx, hb, hml, hown, hA⟩ (c_add l D a kI kL kZ u2 x 6 (fb d) (by omega) (by omega) (by omega)) (kw_C_94 hA rfl rfl ⟨Nat.le_trans (Nat.le_of_ble_eq_true rfl) hRf, Nat.le_trans (Nat.le_of_ble_eq_true rfl) hRl⟩) hK hP hD hS (fun _ h => h) (fun u' => sW_adr u') 3 3 rfl rfl rfl hl.1 (Nat.le_of_ble_eq_true rfl) ⟨by omega, by omega⟩ dC_drawParts_39 rfl (fun u3 H locs hu3 hP hD hS => ?_)
    refine lv_goto hx hb dC_drawParts_42 (tgt := 78) (by decide) ?_
    subst hQe
    exact W.vret hx hb hr (fun t ht hW => ⟨⟨u3, rfl, parts_2 hk hu2 hu3, tq_hp ht hP⟩, hS.F ht⟩) hS.2.2 dC_drawParts_78
set_option maxHeartbeats 4000000 in
set_option maxRecDepth 100000 in
/-- c_drawBoths -/
theorem c_drawBoths (l : Launch) (D : va_G) (a : Nat → Nat) (kI kL kZ : ClassId) (u : sU) (N : Nat) (kd fa fb : Nat → Nat) (htm : s_tm u N kd fa fb) (htr : s_tr u) (x d : Nat) (hx1 : x < 160) (hd : d < N) : Met l yC_drawBoths (wC_drawBoths :: wA) ({ frames := 2, cells := 0, slots := 0, locals := 49 }) (va_Pc [.ref (a 3), .int (nI x), .int (nI d)] (tq_wB D vwA (sW a kI kL kZ u) (sT kI kL kZ))) (va_Qv (fun (u' : sU) => s_ext u u' ∧ s_snd u u' (s_bothR N kd fa fb x d) ∧ ∀ b, b < N → s_bothC u u' kd fa fb x d b) (fun u' t => va_P D vwA (sW a kI kL kZ u') t.heap) (sA a)) 0 0 (sA a) := by
  refine Met.ofW (cc := bC_drawBoths) (maxL := 5) (ret := none) (by decide +kernel) rfl ?_
  intro p e s m args below meth c s₁ B1 hml hv
  obtain ⟨rfl, hP, hK, hD0⟩ := hv
  have hx := B1.exec
  have hb := B1.bytes
  have hr := B1.returns
  have hA : ∀ w ∈ wA, w.before ([.ref (a 3), .int (nI x), .int (nI d)] : List Value).toArray s = true := fun w h => atoms_spec (ws := wC_drawBoths :: wA) B1.pre w (List.mem_cons_of_mem _ h)
  have hown : s.vm.findClass RcC = some m.cls := findClass_of_methodNamed B1.named
  have hlocks := B1.notSynchronized
  have hS : va_S (sA a) s.heap s.heap [] := va_S.rf
  have hl := lv_entry ([.ref (a 3), .int (nI x), .int (nI d)]) (n := 5) (Nat.le_of_ble_eq_true rfl)
  rw [lg_entry_eq]
  generalize (lg_sl ([.ref (a 3), .int (nI x), .int (nI d)]) ++ List.replicate (5 - (lg_sl ([.ref (a 3), .int (nI x), .int (nI d)])).length) Slot.unset).toArray = ls at hl ⊢
  have hl : lv_has ls 5 [(0, .ref (a 3)), (1, .int (nI x)), (2, .int (nI d))] := hl
  refine tq_gen (fun R Q hRe hQe => ?_)
  have hRf : 2 ≤ R.frames := by rw [hRe]; exact Nat.le_of_ble_eq_true rfl
  have hRl : 49 ≤ R.locals := by rw [hRe]; exact Nat.le_of_ble_eq_true rfl
  have hRc : 0 ≤ R.cells := by rw [hRe]; exact Nat.le_of_ble_eq_true rfl
  have hRs : 0 ≤ R.slots := by rw [hRe]; exact Nat.le_of_ble_eq_true rfl
  have hD := sA_D hD0
  have hN := tm_N htm
  refine lv_aload_n hx hb dC_drawBoths_0 rfl (lv_at hl 0 rfl) ?_
  refine gf_C_11 (v := .ref (a 1)) hx hb hA hown hK hP 3 rfl rfl dC_drawBoths_1 ?_
  refine gf_C_170 (v := .ref (a 28)) hx hb hA hown hK hP 1 rfl rfl dC_drawBoths_4 ?_
  refine lv_astore_n (lv' := [(3, .ref (a 28)), (0, .ref (a 3)), (1, .int (nI x)), (2, .int (nI d))]) hx hb dC_drawBoths_7 rfl hl (by decide) rfl (fun ls hl => ?_)
  refine lv_aload_n hx hb dC_drawBoths_8 rfl (lv_at hl 0 rfl) ?_
  refine lv_iload_n hx hb dC_drawBoths_9 rfl (lv_at hl 3 rfl) ?_
  refine lv_iconst (v := nI 0) hx hb dC_drawBoths_10 (by decide +kernel) ?_
  refine k_next ⟨hx, hb, hml, hown, hA⟩ (kw_C_69 hA rfl rfl ⟨Nat.le_trans (Nat.le_of_ble_eq_true rfl) hRf, Nat.le_trans (Nat.le_of_ble_eq_true rfl) hRl⟩) hK hP hS 28 29 1 rfl rfl rfl (by decide) (by omega) (by decide) (by decide) (by omega) (by omega) hl.1 (Nat.le_of_ble_eq_true rfl) ⟨by omega, by omega⟩ dC_drawBoths_11 (fun r1 H locs hr1 hP hS => ?_)
  refine lv_istore (lv' := [(4, .int (nI r1)), (3, .ref (a 28)), (0, .ref (a 3)), (1, .int (nI x)), (2, .int (nI d))]) hx hb dC_drawBoths_14 hl (by decide) rfl (fun ls hl => ?_)
  have lp : ∀ (fu : Nat) (r : Nat) (v : sU) (ls : Array Slot) (H : Heap) (locs : List Loc), s_ext u v → s_snd u v (s_bothR N kd fa fb x d) → (∀ b, b < r → b < 160 → u.1 7 d b = true → s_bothC u v kd fa fb x d b) → (r < 160 → u.1 7 d r = true) → r < 224 → va_P D vwA (sW a kI kL kZ v) H → va_D (sA a) (sW a kI kL kZ v) → va_S (sA a) s.heap H locs → 224 - r < fu → lv_has ls 5 [(4, .int (nI r)), (3, .ref (a 28)), (0, .ref (a 3)), (1, .int (nI x)), (2, .int (nI d))] → W p l e R s m ([.ref (a 3), .int (nI x), .int (nI d)] : List Value).toArray below meth c H locs 0 0 Q (F0 m 16 ls []) := by
    intro fu
    induction fu with
    | zero => intros; omega
    | succ fu ih16 =>
      intro r v ls H locs g1 g2 g3 g4 g5 hP hD hS hfu hl
      refine lv_iload hx hb dC_drawBoths_16 (lv_at hl 0 rfl) ?_
      refine lv_sipush (v := nI 160) hx hb dC_drawBoths_18 (by decide +kernel) ?_
      refine tq_ge hx hb dC_drawBoths_21 (tgt := 73) (by decide) (by omega) (by omega) (fun h21 => ?_) (fun h21 => ?_)
      · subst hQe
        exact W.vret hx hb hr (fun t ht hW => ⟨⟨v, rfl, ⟨g1, g2, fun b hb9 => ⟨fun a1 a2 a3 => (g3 b (by omega) (by omega) ((tm_b htm (by omega) (by omega)).mpr ⟨hb9, a1, Or.inl a2⟩)).1 a1 a2 a3, fun a1 a2 a3 => (g3 b (by omega) (by omega) ((tm_b htm (by omega) (by omega)).mpr ⟨hb9, a1, Or.inr a2⟩)).2 a1 a2 a3⟩⟩, tq_hp ht hP⟩, hS.F ht⟩) hS.2.2 dC_drawBoths_73
      · obtain ⟨hrN, hr2, hr3⟩ := (tm_b htm (by omega) h21).mp (g4 h21)
        have hb2 := tm_2 htm hrN hr2
        have hob : (if fa r = d then fb r else fa r) < 160 := by split <;> omega
        refine lv_aload_n hx hb dC_drawBoths_24 rfl (lv_at hl 2 rfl) ?_
        refine gf_C_24 (v := .ref (a 14)) hx hb hA hown hK hP 3 rfl rfl dC_drawBoths_25 ?_
        refine lv_iload_n hx hb dC_drawBoths_28 rfl (lv_at hl 3 rfl) ?_
        refine lv_bipush (v := nI 6) hx hb dC_drawBoths_29 (by decide +kernel) ?_
        refine ks_s ⟨hx, hb, hml, hown, hA⟩ (c_row l x 6) (kw_C_57 hA rfl rfl ⟨Nat.le_trans (Nat.le_of_ble_eq_true rfl) hRf, Nat.le_trans (Nat.le_of_ble_eq_true rfl) hRl⟩) hP hS rfl hl.1 (Nat.le_of_ble_eq_true rfl) ⟨by omega, by omega⟩ dC_drawBoths_31 rfl (fun H locs hP hS => ?_)
        refine lv_aload_n hx hb dC_drawBoths_34 rfl (lv_at hl 2 rfl) ?_
        refine gf_C_11 (v := .ref (a 1)) hx hb hA hown hK hP 3 rfl rfl dC_drawBoths_35 ?_
        refine lv_iload hx hb dC_drawBoths_38 (lv_at hl 0 rfl) ?_
        refine lv_iload_n hx hb dC_drawBoths_40 rfl (lv_at hl 4 rfl) ?_
        refine ks_rv ⟨hx, hb, hml, hown, hA⟩ (c_otherPart l D a kI kL kZ v r d (by omega)) (kw_C_173 hA rfl rfl ⟨Nat.le_trans (Nat.le_of_ble_eq_true rfl) hRf, Nat.le_trans (Nat.le_of_ble_eq_true rfl) hRl⟩) hK hP hS 1 1 rfl rfl rfl hl.1 (Nat.le_of_ble_eq_true rfl) ⟨by omega, by omega⟩ dC_drawBoths_41 rfl (fun H locs hP hS => ?_)
        refine tq_i (tm_o (tm_ext htm g1) hrN hr2 (by omega)) ?_
        refine k_holds ⟨hx, hb, hml, hown, hA⟩ (kw_C_61 hA rfl rfl ⟨Nat.le_trans (Nat.le_of_ble_eq_true rfl) hRf, Nat.le_trans (Nat.le_of_ble_eq_true rfl) hRl⟩) hK hP hS 14 15 1 rfl rfl rfl (by omega) (by omega) (by decide) (by decide) hl.1 (Nat.le_of_ble_eq_true rfl) ⟨by omega, by omega⟩ dC_drawBoths_44 (fun H locs hP hS => ?_)
        refine tq_bf hx hb dC_drawBoths_47 (tgt := 59) (by decide) (fun h47 => ?_) (fun h47 => ?_)
        · refine lv_aload_n hx hb dC_drawBoths_59 rfl (lv_at hl 1 rfl) ?_
          refine lv_iload_n hx hb dC_drawBoths_60 rfl (lv_at hl 4 rfl) ?_
          refine lv_iload hx hb dC_drawBoths_61 (lv_at hl 0 rfl) ?_
          refine lv_iconst (v := nI 1) hx hb dC_drawBoths_63 (by decide +kernel) ?_
          refine tq_iadd hx hb dC_drawBoths_64 ?_
          refine k_next ⟨hx, hb, hml, hown, hA⟩ (kw_C_69 hA rfl rfl ⟨Nat.le_trans (Nat.le_of_ble_eq_true rfl) hRf, Nat.le_trans (Nat.le_of_ble_eq_true rfl) hRl⟩) hK hP hS 28 29 1 rfl rfl rfl (by decide) (by omega) (by decide) (by decide) (by omega) (by omega) hl.1 (Nat.le_of_ble_eq_true rfl) ⟨by omega, by omega⟩ dC_drawBoths_65 (fun r2 H locs hr2 hP hS => ?_)
          refine lv_istore (lv' := [(4, .int (nI r2)), (3, .ref (a 28)), (0, .ref (a 3)), (1, .int (nI x)), (2, .int (nI d))]) hx hb dC_drawBoths_68 hl (by decide) rfl (fun ls hl => ?_)
          refine lv_goto hx hb dC_drawBoths_70 (tgt := 16) (by decide) ?_
          rw [g1.2.2.2.2.2.1 7 (by decide)] at hr2
          have hge := hr2.1
          have hlt := hr2.2.1
          exact ih16 r2 v ls H locs g1 g2 (tm_nx_step g3 (bothC_no g1 h47) hr2) hr2.2.2.2 (by omega) hP hD hS (by omega) (lv_sub hl [0, 1, 2, 3, 4] rfl)
        · refine lv_aload_n hx hb dC_drawBoths_50 rfl (lv_at hl 2 rfl) ?_
          refine lv_iload_n hx hb dC_drawBoths_51 rfl (lv_at hl 3 rfl) ?_
          refine lv_bipush (v := nI 6) hx hb dC_drawBoths_52 (by decide +kernel) ?_
          refine lv_iload hx hb dC_drawBoths_54 (lv_at hl 0 rfl) ?_
          refine ks_v (wf := sW a kI kL kZ) (u := v) ⟨hx, hb, hml, hown, hA⟩ (c_add l D a kI kL kZ v x 6 r (by omega) (by omega) (by omega)) (kw_C_94 hA rfl rfl ⟨Nat.le_trans (Nat.le_of_ble_eq_true rfl) hRf, Nat.le_trans (Nat.le_of_ble_eq_true rfl) hRl⟩) hK hP hD hS (fun _ h => h) (fun u' => sW_adr u') 3 3 rfl rfl rfl hl.1 (Nat.le_of_ble_eq_true rfl) ⟨by omega, by omega⟩ dC_drawBoths_56 rfl (fun u3 H locs hu3 hP hD hS => ?_)
          refine lv_aload_n hx hb dC_drawBoths_59 rfl (lv_at hl 1 rfl) ?_
          refine lv_iload_n hx hb dC_drawBoths_60 rfl (lv_at hl 4 rfl) ?_
          refine lv_iload hx hb dC_drawBoths_61 (lv_at hl 0 rfl) ?_
          refine lv_iconst (v := nI 1) hx hb dC_drawBoths_63 (by decide +kernel) ?_
          refine tq_iadd hx hb dC_drawBoths_64 ?_
          refine k_next ⟨hx, hb, hml, hown, hA⟩ (kw_C_69 hA rfl rfl ⟨Nat.le_trans (Nat.le_of_ble_eq_true rfl) hRf, Nat.le_trans (Nat.le_of_ble_eq_true rfl) hRl⟩) hK hP hS 28 29 1 rfl rfl rfl (by decide) (by omega) (by decide) (by decide) (by omega) (by omega) hl.1 (Nat.le_of_ble_eq_true rfl) ⟨by omega, by omega⟩ dC_drawBoths_65 (fun r4 H locs hr4 hP hS => ?_)
          refine lv_istore (lv' := [(4, .int (nI r4)), (3, .ref (a 28)), (0, .ref (a 3)), (1, .int (nI x)), (2, .int (nI d))]) hx hb dC_drawBoths_68 hl (by decide) rfl (fun ls hl => ?_)
          refine lv_goto hx hb dC_drawBoths_70 (tgt := 16) (by decide) ?_
          rw [(ext_trans g1 hu3.1).2.2.2.2.2.1 7 (by decide)] at hr4
          have hge := hr4.1
          have hlt := hr4.2.1
          exact ih16 r4 u3 ls H locs (ext_trans g1 hu3.1) (snd_fact g2 hu3 (fun G h1 h2 => h2 r hrN hr2 (both_G hr3 (h1 _ _ h47)))) (tm_nx_step (fun b a1 a2 a3 => bothC_mono (g3 b a1 a2 a3) hu3.1) (bothC_yes ((hu3.2 _ _).mpr (Or.inr ⟨rfl, rfl⟩))) hr4) hr4.2.2.2 (by omega) hP hD hS (by omega) (lv_sub hl [0, 1, 2, 3, 4] rfl)
  exact lp _ r1 u ls _ _ (ext_refl u) snd_refl (tm_nx_first hr1) hr1.2.2.2 (by have := hr1.2.1; omega) hP hD hS (Nat.lt_succ_self _) (lv_sub hl [0, 1, 2, 3, 4] rfl)
set_option maxHeartbeats 4000000 in
set_option maxRecDepth 100000 in
/-- c_drawSomes -/
theorem c_drawSomes (l : Launch) (D : va_G) (a : Nat → Nat) (kI kL kZ : ClassId) (u : sU) (N : Nat) (kd fa fb : Nat → Nat) (htm : s_tm u N kd fa fb) (htr : s_tr u) (x d : Nat) (hx1 : x < 160) (hd : d < N) : Met l yC_drawSomes (wC_drawSomes :: wA) ({ frames := 3, cells := 0, slots := 0, locals := 74 }) (va_Pc [.ref (a 3), .int (nI x), .int (nI d)] (tq_wB D vwA (sW a kI kL kZ u) (sT kI kL kZ))) (va_Qv (fun (u' : sU) => s_ext u u' ∧ s_somes u u' N kd fa fb x d 6) (fun u' t => va_P D vwA (sW a kI kL kZ u') t.heap) (sA a)) 0 0 (sA a) := by
  refine Met.ofW (cc := bC_drawSomes) (maxL := 5) (ret := none) (by decide +kernel) rfl ?_
  intro p e s m args below meth c s₁ B1 hml hv
  obtain ⟨rfl, hP, hK, hD0⟩ := hv
  have hx := B1.exec
  have hb := B1.bytes
  have hr := B1.returns
  have hA : ∀ w ∈ wA, w.before ([.ref (a 3), .int (nI x), .int (nI d)] : List Value).toArray s = true := fun w h => atoms_spec (ws := wC_drawSomes :: wA) B1.pre w (List.mem_cons_of_mem _ h)
  have hown : s.vm.findClass RcC = some m.cls := findClass_of_methodNamed B1.named
  have hlocks := B1.notSynchronized
  have hS : va_S (sA a) s.heap s.heap [] := va_S.rf
  have hl := lv_entry ([.ref (a 3), .int (nI x), .int (nI d)]) (n := 5) (Nat.le_of_ble_eq_true rfl)
  rw [lg_entry_eq]
  generalize (lg_sl ([.ref (a 3), .int (nI x), .int (nI d)]) ++ List.replicate (5 - (lg_sl ([.ref (a 3), .int (nI x), .int (nI d)])).length) Slot.unset).toArray = ls at hl ⊢
  have hl : lv_has ls 5 [(0, .ref (a 3)), (1, .int (nI x)), (2, .int (nI d))] := hl
  refine tq_gen (fun R Q hRe hQe => ?_)
  have hRf : 3 ≤ R.frames := by rw [hRe]; exact Nat.le_of_ble_eq_true rfl
  have hRl : 74 ≤ R.locals := by rw [hRe]; exact Nat.le_of_ble_eq_true rfl
  have hRc : 0 ≤ R.cells := by rw [hRe]; exact Nat.le_of_ble_eq_true rfl
  have hRs : 0 ≤ R.slots := by rw [hRe]; exact Nat.le_of_ble_eq_true rfl
  have hD := sA_D hD0
  have hN := tm_N htm
  refine lv_iconst (v := nI 0) hx hb dC_drawSomes_0 (by decide +kernel) ?_
  refine lv_istore_n (lv' := [(3, .int (nI 0)), (0, .ref (a 3)), (1, .int (nI x)), (2, .int (nI d))]) hx hb dC_drawSomes_1 rfl hl (by decide) rfl (fun ls hl => ?_)
  have lp : ∀ (fu : Nat) (n : Nat) (v : sU) (ls : Array Slot) (H : Heap) (locs : List Loc), s_ext u v → s_somes u v N kd fa fb x d n → n ≤ 6 → va_P D vwA (sW a kI kL kZ v) H → va_D (sA a) (sW a kI kL kZ v) → va_S (sA a) s.heap H locs → 6 - n < fu → lv_has ls 5 [(3, .int (nI n)), (0, .ref (a 3)), (1, .int (nI x)), (2, .int (nI d))] → W p l e R s m ([.ref (a 3), .int (nI x), .int (nI d)] : List Value).toArray below meth c H locs 0 0 Q (F0 m 2 ls []) := by
    intro fu
    induction fu with
    | zero => intros; omega
    | succ fu ih2 =>
      intro n v ls H locs g1 g2 g3 hP hD hS hfu hl
      refine lv_iload_n hx hb dC_drawSomes_2 rfl (lv_at hl 0 rfl) ?_
      refine lv_bipush (v := nI 6) hx hb dC_drawSomes_3 (by decide +kernel) ?_
      refine tq_ge hx hb dC_drawSomes_5 (tgt := 44) (by decide) (by omega) (by omega) (fun h5 => ?_) (fun h5 => ?_)
      · subst hQe
        exact W.vret hx hb hr (fun t ht hW => ⟨⟨v, rfl, by rw [show 6 = n by omega]; exact ⟨g1, g2⟩, tq_hp ht hP⟩, hS.F ht⟩) hS.2.2 dC_drawSomes_44
      · refine lv_aload_n hx hb dC_drawSomes_8 rfl (lv_at hl 1 rfl) ?_
        refine gf_C_11 (v := .ref (a 1)) hx hb hA hown hK hP 3 rfl rfl dC_drawSomes_9 ?_
        refine lv_iload_n hx hb dC_drawSomes_12 rfl (lv_at hl 0 rfl) ?_
        refine lv_iload_n hx hb dC_drawSomes_13 rfl (lv_at hl 3 rfl) ?_
        refine ks_rv ⟨hx, hb, hml, hown, hA⟩ (c_findSome l D a kI kL kZ v n d (by omega) (by omega)) (kw_C_176 hA rfl rfl ⟨Nat.le_trans (Nat.le_of_ble_eq_true rfl) hRf, Nat.le_trans (Nat.le_of_ble_eq_true rfl) hRl⟩) hK hP hS 1 1 rfl rfl rfl hl.1 (Nat.le_of_ble_eq_true rfl) ⟨by omega, by omega⟩ dC_drawSomes_14 rfl (fun H locs hP hS => ?_)
        refine lv_istore (lv' := [(4, .int ((v.2.1 3) (n * 160 + d))), (3, .int (nI n)), (0, .ref (a 3)), (1, .int (nI x)), (2, .int (nI d))]) hx hb dC_drawSomes_17 hl (by decide) rfl (fun ls hl => ?_)
        refine lv_iload hx hb dC_drawSomes_19 (lv_at hl 0 rfl) ?_
        refine lv_iconst (v := (-1)) hx hb dC_drawSomes_21 (by decide +kernel) ?_
        refine lv_icmp_eq hx hb dC_drawSomes_22 (tgt := 38) (by decide) (fun h22 => ?_) (fun h22 => ?_)
        · refine lv_iinc (k := 1) (lv' := [(3, .int (nI (n + 1))), (4, .int ((v.2.1 3) (n * 160 + d))), (0, .ref (a 3)), (1, .int (nI x)), (2, .int (nI d))]) hx hb dC_drawSomes_38 hl rfl (nI_1 _) (by decide) rfl (fun ls hl => ?_)
          refine lv_goto hx hb dC_drawSomes_41 (tgt := 2) (by decide) ?_
          rcases tm_s (tm_ext htm g1) h5 (show d < 160 by omega) with ⟨_, z2⟩ | ⟨k, hkN, _, _, _, hke⟩
          · exact ih2 (n + 1) v ls H locs g1 (somes_no g2 z2) (by omega) hP hD hS (by omega) (lv_sub hl [0, 2, 3, 4] rfl)
          exact ih2 (n + 1) v ls H locs g1 (absurd (hke.symm.trans h22) (tm_m1 (by omega))) (by omega) hP hD hS (by omega) (lv_sub hl [0, 2, 3, 4] rfl)
        · rcases tm_s (tm_ext htm g1) h5 (show d < 160 by omega) with ⟨z1, _⟩ | ⟨k, hkN, hk3, hka, hkb, hke⟩
          · exact absurd z1 h22
          rw [hke] at hl
          refine lv_aload_n hx hb dC_drawSomes_25 rfl (lv_at hl 2 rfl) ?_
          refine lv_iload_n hx hb dC_drawSomes_26 rfl (lv_at hl 3 rfl) ?_
          refine lv_iload_n hx hb dC_drawSomes_27 rfl (lv_at hl 1 rfl) ?_
          refine ks_s ⟨hx, hb, hml, hown, hA⟩ (c_row l x n) (kw_C_57 hA rfl rfl ⟨Nat.le_trans (Nat.le_of_ble_eq_true rfl) hRf, Nat.le_trans (Nat.le_of_ble_eq_true rfl) hRl⟩) hP hS rfl hl.1 (Nat.le_of_ble_eq_true rfl) ⟨by omega, by omega⟩ dC_drawSomes_28 rfl (fun H locs hP hS => ?_)
          refine lv_bipush (v := nI 6) hx hb dC_drawSomes_31 (by decide +kernel) ?_
          refine lv_iload hx hb dC_drawSomes_33 (lv_at hl 0 rfl) ?_
          refine ks_v (wf := sW a kI kL kZ) (u := v) ⟨hx, hb, hml, hown, hA⟩ (c_addFromAll l D a kI kL kZ v x n 6 k (tr_ext htr g1) (by omega) (by omega) (by omega) (by omega)) (kw_C_113 hA rfl rfl ⟨Nat.le_trans (Nat.le_of_ble_eq_true rfl) hRf, Nat.le_trans (Nat.le_of_ble_eq_true rfl) hRl⟩) hK hP hD hS (fun _ h => h) (fun u' => sW_adr u') 3 3 rfl rfl rfl hl.1 (Nat.le_of_ble_eq_true rfl) ⟨by omega, by omega⟩ dC_drawSomes_35 rfl (fun u1 H locs hu1 hP hD hS => ?_)
          refine lv_iinc (k := 1) (lv' := [(3, .int (nI (n + 1))), (4, .int (nI k)), (0, .ref (a 3)), (1, .int (nI x)), (2, .int (nI d))]) hx hb dC_drawSomes_38 hl rfl (nI_1 _) (by decide) rfl (fun ls hl => ?_)
          refine lv_goto hx hb dC_drawSomes_41 (tgt := 2) (by decide) ?_
          exact ih2 (n + 1) u1 ls H locs (ext_trans g1 hu1.1) (somes_s htm hx1 h5 g1 g2 hkN hk3 hka hkb hu1.2) (by omega) hP hD hS (by omega) (lv_sub hl [0, 2, 3, 4] rfl)
  exact lp _ 0 u ls _ _ (ext_refl u) (somes_0 u N kd fa fb x d) (by omega) hP hD hS (Nat.lt_succ_self _) (lv_sub hl [0, 1, 2, 3] rfl)
end
section
/-! Pure rows for drawFromLink, drawFromChains, admitBoth, admitSome. -/
theorem tm_sf {u : sU} {N : Nat} {kd fa fb : Nat → Nat} (h : s_tm u N kd fa fb) {k : Nat} (hk : k < N) (h3 : kd k = 3) : u.2.1 3 (fa k * 160 + fb k) = nI k := by
  obtain ⟨_, _, h6, hf⟩ := tm_3 h hk h3
  have hN := (tm_N h).2.2
  rcases tm_s h h6 (show fb k < 160 by omega) with ⟨_, z⟩ | ⟨j, z1, z2, z3, z4, z5⟩
  · exact absurd ⟨rfl, rfl⟩ (z k hk h3)
  · rw [z5, tm_u h z1 hk (z2.trans h3.symm) (by omega) z3 z4]
def s_linkR (u : sU) (N : Nat) (kd fa fb : Nat → Nat) (x i d : Nat) (G : Nat → Nat → Prop) : Prop :=
  G (d * 7 + 6) d ∧ G (d * 7 + 6) 0 ∧ (G (d * 7 + 6) 1 → G (x * 7 + 6) 1) ∧ (∀ t, t < 6 → u.1 5 i t = true → G (x * 7 + t) d) ∧ (∀ k, k < N → kd k = 3 → fa k = i → G (d * 7 + 6) (fb k) → G (x * 7 + 6) k)
def s_linkC (u v : sU) (N : Nat) (kd fa fb : Nat → Nat) (x i d : Nat) : Prop :=
  (v.1 0 (d * 7 + 6) d = true ∧ v.1 0 (d * 7 + 6) 0 = true) ∧ (v.1 0 (x * 7 + 6) 1 = true ∨ (¬ u.1 0 (d * 7 + 6) 1 = true ∧ (∀ t, t < 6 → u.1 5 i t = true → v.1 0 (x * 7 + t) d = true) ∧ ∀ k, k < N → kd k = 3 → fa k = i → u.1 0 (d * 7 + 6) (fb k) = true → v.1 0 (x * 7 + 6) k = true))
theorem begin_d {u v : sU} {d : Nat} (h : ∀ x b, v.1 0 x b = true ↔ u.1 0 x b = true ∨ (¬ u.1 0 (d * 7 + 6) d = true ∧ x = d * 7 + 6 ∧ (b = d ∨ b = 0))) : v.1 0 (d * 7 + 6) d = true := by
  by_cases q : u.1 0 (d * 7 + 6) d = true
  · exact (h _ _).mpr (Or.inl q)
  · exact (h _ _).mpr (Or.inr ⟨q, rfl, Or.inl rfl⟩)
theorem begin_0 {u v : sU} {d : Nat} (h : ∀ x b, v.1 0 x b = true ↔ u.1 0 x b = true ∨ (¬ u.1 0 (d * 7 + 6) d = true ∧ x = d * 7 + 6 ∧ (b = d ∨ b = 0))) (h0 : u.1 0 (d * 7 + 6) d = true → u.1 0 (d * 7 + 6) 0 = true) : v.1 0 (d * 7 + 6) d = true ∧ v.1 0 (d * 7 + 6) 0 = true := by
  refine ⟨begin_d h, ?_⟩
  by_cases q : u.1 0 (d * 7 + 6) d = true
  · exact (h _ _).mpr (Or.inl (h0 q))
  · exact (h _ _).mpr (Or.inr ⟨q, rfl, Or.inr rfl⟩)
theorem begin_snd {u v : sU} {d : Nat} {rule : (Nat → Nat → Prop) → Prop} (h : ∀ x b, v.1 0 x b = true ↔ u.1 0 x b = true ∨ (¬ u.1 0 (d * 7 + 6) d = true ∧ x = d * 7 + 6 ∧ (b = d ∨ b = 0))) (hr : ∀ G : Nat → Nat → Prop, rule G → G (d * 7 + 6) d ∧ G (d * 7 + 6) 0) : s_snd u v rule := fun G h1 h2 y b z => by
  rcases (h y b).mp z with z | ⟨_, z1, z2 | z2⟩
  · exact h1 y b z
  · rw [z1, z2]; exact (hr G h2).1
  · rw [z1, z2]; exact (hr G h2).2
/-- chains -/
def s_ch1 (u v : sU) (x i d q t : Nat) : Prop := u.1 6 (i * 6 + q) t = true → ∀ b, b < 160 → u.1 0 (d * 7 + q) b = true → v.1 0 (x * 7 + t) b = true
def s_ch2 (u v : sU) (x i d q t : Nat) : Prop := u.1 6 (q * 6 + i) t = true → ∀ z, z < 160 → u.1 0 (z * 7 + q) x = true → v.1 0 (z * 7 + t) d = true
def s_chR (u : sU) (x i d : Nat) (G : Nat → Nat → Prop) : Prop := ∀ q, q < 6 → ∀ t, t < 6 → (u.1 6 (i * 6 + q) t = true → ∀ b, G (d * 7 + q) b → G (x * 7 + t) b) ∧ (u.1 6 (q * 6 + i) t = true → ∀ z, z < 160 → G (z * 7 + q) x → G (z * 7 + t) d)
theorem ch1_mono {u v w : sU} {x i d q t : Nat} (h : s_ch1 u v x i d q t) (k : s_ext v w) : s_ch1 u w x i d q t := fun a1 b a2 a3 => k.1 _ _ (h a1 b a2 a3)
theorem ch2_mono {u v w : sU} {x i d q t : Nat} (h : s_ch2 u v x i d q t) (k : s_ext v w) : s_ch2 u w x i d q t := fun a1 b a2 a3 => k.1 _ _ (h a1 b a2 a3)
theorem ch1_snd {u0 u v w : sU} {x i d q t : Nat} (hq : q < 6) (ht : t < 6) (hT : u0.1 6 (i * 6 + q) t = true) (h : s_snd u v (s_chR u0 x i d)) (k : ∀ y b, w.1 0 y b = true ↔ v.1 0 y b = true ∨ (y = x * 7 + t ∧ b < 160 ∧ v.1 0 (d * 7 + q) b = true)) : s_snd u w (s_chR u0 x i d) := fun G h1 h2 y b z => by
  have hv := h G h1 h2
  rcases (k y b).mp z with z | ⟨z1, _, z3⟩
  · exact hv y b z
  · rw [z1]
    exact (h2 q hq t ht).1 hT b (hv _ _ z3)
theorem ch1_yes {u v w : sU} {x i d q t : Nat} (hx : s_ext u v) (k : ∀ y b, w.1 0 y b = true ↔ v.1 0 y b = true ∨ (y = x * 7 + t ∧ b < 160 ∧ v.1 0 (d * 7 + q) b = true)) : s_ch1 u w x i d q t := fun _ b a2 a3 => (k _ _).mpr (Or.inr ⟨rfl, a2, hx.1 _ _ a3⟩)
theorem ch2_snd {u0 u v w : sU} {x i d q t : Nat} (hq : q < 6) (ht : t < 6) (hx1 : x < 160) (htr : s_tr v) (hT : u0.1 6 (q * 6 + i) t = true) (h : s_snd u v (s_chR u0 x i d)) (k : s_from v w (x * 7 + q) t d 160) : s_snd u w (s_chR u0 x i d) := fun G h1 h2 y b z => by
  have hv := h G h1 h2
  rcases (k y b).mp z with z | ⟨z1, z, z2, _, z3, z4⟩
  · exact hv y b z
  · rw [z1, z3]
    exact (h2 q hq t ht).2 hT z z2 (hv _ _ ((htr z q x (by omega) z2 hx1).mp z4))
theorem ch2_yes {u v w : sU} {x i d q t : Nat} (hq : q < 6) (hx1 : x < 160) (htr : s_tr v) (hx : s_ext u v) (k : s_from v w (x * 7 + q) t d 160) : s_ch2 u w x i d q t := fun _ z a2 a3 => (k _ _).mpr (Or.inr ⟨rfl, z, a2, a2, rfl, (htr z q x (by omega) a2 hx1).mpr (hx.1 _ _ a3)⟩)
end
section
/-! The contracts of Closure: what is drawn from a link; what a new description takes in. Written by wip/whole/gen/genclos3.py. -/
set_option maxHeartbeats 4000000 in
set_option maxRecDepth 100000 in
/-- c_drawFromLink -/
theorem c_drawFromLink (l : Launch) (D : va_G) (a : Nat → Nat) (kI kL kZ : ClassId) (u : sU) (N : Nat) (kd fa fb : Nat → Nat) (htm : s_tm u N kd fa fb) (htr : s_tr u) (x i d : Nat) (hx1 : x < 160) (hi : i < 6) (hd : d < N) (hb0 : u.1 0 (d * 7 + 6) d = true → u.1 0 (d * 7 + 6) 0 = true) : Met l yC_drawFromLink (wC_drawFromLink :: wA) ({ frames := 3, cells := 0, slots := 0, locals := 70 }) (va_Pc [.ref (a 3), .int (nI x), .int (nI i), .int (nI d)] (tq_wB D vwA (sW a kI kL kZ u) (sT kI kL kZ))) (va_Qv (fun (u' : sU) => s_ext u u' ∧ s_snd u u' (s_linkR u N kd fa fb x i d) ∧ s_linkC u u' N kd fa fb x i d) (fun u' t => va_P D vwA (sW a kI kL kZ u') t.heap) (sA a)) 0 0 (sA a) := by
  refine Met.ofW (cc := bC_drawFromLink) (maxL := 7) (ret := none) (by decide +kernel) rfl ?_
  intro p e s m args below meth c s₁ B1 hml hv
  obtain ⟨rfl, hP, hK, hD0⟩ := hv
  have hx := B1.exec
  have hb := B1.bytes
  have hr := B1.returns
  have hA : ∀ w ∈ wA, w.before ([.ref (a 3), .int (nI x), .int (nI i), .int (nI d)] : List Value).toArray s = true := fun w h => atoms_spec (ws := wC_drawFromLink :: wA) B1.pre w (List.mem_cons_of_mem _ h)
  have hown : s.vm.findClass RcC = some m.cls := findClass_of_methodNamed B1.named
  have hlocks := B1.notSynchronized
  have hS : va_S (sA a) s.heap s.heap [] := va_S.rf
  have hl := lv_entry ([.ref (a 3), .int (nI x), .int (nI i), .int (nI d)]) (n := 7) (Nat.le_of_ble_eq_true rfl)
  rw [lg_entry_eq]
  generalize (lg_sl ([.ref (a 3), .int (nI x), .int (nI i), .int (nI d)]) ++ List.replicate (7 - (lg_sl ([.ref (a 3), .int (nI x), .int (nI i), .int (nI d)])).length) Slot.unset).toArray = ls at hl ⊢
  have hl : lv_has ls 7 [(0, .ref (a 3)), (1, .int (nI x)), (2, .int (nI i)), (3, .int (nI d))] := hl
  refine tq_gen (fun R Q hRe hQe => ?_)
  have hRf : 3 ≤ R.frames := by rw [hRe]; exact Nat.le_of_ble_eq_true rfl
  have hRl : 70 ≤ R.locals := by rw [hRe]; exact Nat.le_of_ble_eq_true rfl
  have hRc : 0 ≤ R.cells := by rw [hRe]; exact Nat.le_of_ble_eq_true rfl
  have hRs : 0 ≤ R.slots := by rw [hRe]; exact Nat.le_of_ble_eq_true rfl
  have hD := sA_D hD0
  have hN := tm_N htm
  refine lv_aload_n hx hb dC_drawFromLink_0 rfl (lv_at hl 0 rfl) ?_
  refine lv_iload_n hx hb dC_drawFromLink_1 rfl (lv_at hl 3 rfl) ?_
  refine ks_v (wf := sW a kI kL kZ) (u := u) ⟨hx, hb, hml, hown, hA⟩ (c_begin l D a kI kL kZ u d (by omega)) (kw_C_75 hA rfl rfl ⟨Nat.le_trans (Nat.le_of_ble_eq_true rfl) hRf, Nat.le_trans (Nat.le_of_ble_eq_true rfl) hRl⟩) hK hP hD hS (fun _ h => h) (fun u' => sW_adr u') 3 3 rfl rfl rfl hl.1 (Nat.le_of_ble_eq_true rfl) ⟨by omega, by omega⟩ dC_drawFromLink_2 rfl (fun u1 H locs hu1 hP hD hS => ?_)
  refine lv_aload_n hx hb dC_drawFromLink_5 rfl (lv_at hl 0 rfl) ?_
  refine lv_iload_n hx hb dC_drawFromLink_6 rfl (lv_at hl 3 rfl) ?_
  refine ks_rv ⟨hx, hb, hml, hown, hA⟩ (c_isEmpty l D a kI kL kZ u1 d (by omega)) (kw_C_65 hA rfl rfl ⟨Nat.le_trans (Nat.le_of_ble_eq_true rfl) hRf, Nat.le_trans (Nat.le_of_ble_eq_true rfl) hRl⟩) hK hP hS 3 3 rfl rfl rfl hl.1 (Nat.le_of_ble_eq_true rfl) ⟨by omega, by omega⟩ dC_drawFromLink_7 rfl (fun H locs hP hS => ?_)
  refine tq_bf hx hb dC_drawFromLink_10 (tgt := 22) (by decide) (fun h10 => ?_) (fun h10 => ?_)
  · refine lv_aload_n hx hb dC_drawFromLink_22 rfl (lv_at hl 0 rfl) ?_
    refine gf_C_40 (v := .ref (a 24)) hx hb hA hown hK hP 3 rfl rfl dC_drawFromLink_23 ?_
    refine lv_iload_n hx hb dC_drawFromLink_26 rfl (lv_at hl 2 rfl) ?_
    refine lv_iconst (v := nI 0) hx hb dC_drawFromLink_27 (by decide +kernel) ?_
    refine k_next ⟨hx, hb, hml, hown, hA⟩ (kw_C_69 hA rfl rfl ⟨Nat.le_trans (Nat.le_of_ble_eq_true rfl) hRf, Nat.le_trans (Nat.le_of_ble_eq_true rfl) hRl⟩) hK hP hS 24 25 1 rfl rfl rfl (by decide) (by omega) (by decide) (by decide) (by omega) (by omega) hl.1 (Nat.le_of_ble_eq_true rfl) ⟨by omega, by omega⟩ dC_drawFromLink_28 (fun r2 H locs hr2 hP hS => ?_)
    refine lv_istore (lv' := [(4, .int (nI r2)), (0, .ref (a 3)), (1, .int (nI x)), (2, .int (nI i)), (3, .int (nI d))]) hx hb dC_drawFromLink_31 hl (by decide) rfl (fun ls hl => ?_)
    have lp : ∀ (fu : Nat) (r : Nat) (v : sU) (ls : Array Slot) (H : Heap) (locs : List Loc), s_ext u v → s_snd u v (s_linkR u N kd fa fb x i d) → (v.1 0 (d * 7 + 6) d = true ∧ v.1 0 (d * 7 + 6) 0 = true) → (∀ t, t < r → t < 6 → u.1 5 i t = true → v.1 0 (x * 7 + t) d = true) → (r < 6 → u.1 5 i r = true) → r < 70 → va_P D vwA (sW a kI kL kZ v) H → va_D (sA a) (sW a kI kL kZ v) → va_S (sA a) s.heap H locs → 70 - r < fu → lv_has ls 7 [(4, .int (nI r)), (0, .ref (a 3)), (1, .int (nI x)), (2, .int (nI i)), (3, .int (nI d))] → W p l e R s m ([.ref (a 3), .int (nI x), .int (nI i), .int (nI d)] : List Value).toArray below meth c H locs 0 0 Q (F0 m 33 ls []) := by
      intro fu
      induction fu with
      | zero => intros; omega
      | succ fu ih33 =>
        intro r v ls H locs g1 g2 g3 g4 g5 g6 hP hD hS hfu hl
        refine lv_iload hx hb dC_drawFromLink_33 (lv_at hl 0 rfl) ?_
        refine lv_bipush (v := nI 6) hx hb dC_drawFromLink_35 (by decide +kernel) ?_
        refine tq_ge hx hb dC_drawFromLink_37 (tgt := 65) (by decide) (by omega) (by omega) (fun h37 => ?_) (fun h37 => ?_)
        · refine lv_iload_n hx hb dC_drawFromLink_65 rfl (lv_at hl 4 rfl) ?_
          refine lv_bipush (v := nI 6) hx hb dC_drawFromLink_66 (by decide +kernel) ?_
          refine ks_s ⟨hx, hb, hml, hown, hA⟩ (c_row l d 6) (kw_C_57 hA rfl rfl ⟨Nat.le_trans (Nat.le_of_ble_eq_true rfl) hRf, Nat.le_trans (Nat.le_of_ble_eq_true rfl) hRl⟩) hP hS rfl hl.1 (Nat.le_of_ble_eq_true rfl) ⟨by omega, by omega⟩ dC_drawFromLink_68 rfl (fun H locs hP hS => ?_)
          refine lv_istore (lv' := [(4, .int (nI (d * 7 + 6))), (0, .ref (a 3)), (1, .int (nI x)), (2, .int (nI i)), (3, .int (nI d))]) hx hb dC_drawFromLink_71 hl (by decide) rfl (fun ls hl => ?_)
          refine lv_aload_n hx hb dC_drawFromLink_73 rfl (lv_at hl 1 rfl) ?_
          refine gf_C_11 (v := .ref (a 1)) hx hb hA hown hK hP 3 rfl rfl dC_drawFromLink_74 ?_
          refine gf_C_179 (v := .ref (a 30)) hx hb hA hown hK hP 1 rfl rfl dC_drawFromLink_77 ?_
          refine lv_astore (lv' := [(5, .ref (a 30)), (4, .int (nI (d * 7 + 6))), (0, .ref (a 3)), (1, .int (nI x)), (2, .int (nI i)), (3, .int (nI d))]) hx hb dC_drawFromLink_80 hl (by decide) rfl (fun ls hl => ?_)
          refine lv_aload hx hb dC_drawFromLink_82 (lv_at hl 0 rfl) ?_
          refine lv_iload_n hx hb dC_drawFromLink_84 rfl (lv_at hl 4 rfl) ?_
          refine lv_iconst (v := nI 0) hx hb dC_drawFromLink_85 (by decide +kernel) ?_
          refine k_next ⟨hx, hb, hml, hown, hA⟩ (kw_C_69 hA rfl rfl ⟨Nat.le_trans (Nat.le_of_ble_eq_true rfl) hRf, Nat.le_trans (Nat.le_of_ble_eq_true rfl) hRl⟩) hK hP hS 30 31 1 rfl rfl rfl (by decide) (by omega) (by decide) (by decide) (by omega) (by omega) hl.1 (Nat.le_of_ble_eq_true rfl) ⟨by omega, by omega⟩ dC_drawFromLink_86 (fun r3 H locs hr3 hP hS => ?_)
          refine lv_istore (lv' := [(6, .int (nI r3)), (5, .ref (a 30)), (4, .int (nI (d * 7 + 6))), (0, .ref (a 3)), (1, .int (nI x)), (2, .int (nI i)), (3, .int (nI d))]) hx hb dC_drawFromLink_89 hl (by decide) rfl (fun ls hl => ?_)
          have lp : ∀ (fu : Nat) (q : Nat) (v2 : sU) (ls : Array Slot) (H : Heap) (locs : List Loc), s_ext u v2 → s_snd u v2 (s_linkR u N kd fa fb x i d) → (v2.1 0 (d * 7 + 6) d = true ∧ v2.1 0 (d * 7 + 6) 0 = true) → (∀ t, t < 6 → u.1 5 i t = true → v2.1 0 (x * 7 + t) d = true) → (∀ b, b < q → b < 160 → u.1 8 i b = true → ∀ k, k < N → kd k = 3 → fa k = i → fb k = b → u.1 0 (d * 7 + 6) b = true → v2.1 0 (x * 7 + 6) k = true) → (q < 160 → u.1 8 i q = true) → q < 224 → va_P D vwA (sW a kI kL kZ v2) H → va_D (sA a) (sW a kI kL kZ v2) → va_S (sA a) s.heap H locs → 224 - q < fu → lv_has ls 7 [(6, .int (nI q)), (5, .ref (a 30)), (4, .int (nI (d * 7 + 6))), (0, .ref (a 3)), (1, .int (nI x)), (2, .int (nI i)), (3, .int (nI d))] → W p l e R s m ([.ref (a 3), .int (nI x), .int (nI i), .int (nI d)] : List Value).toArray below meth c H locs 0 0 Q (F0 m 91 ls []) := by
            intro fu
            induction fu with
            | zero => intros; omega
            | succ fu ih91 =>
              intro q v2 ls H locs k1 k2 k3 k4 k5 k6 k7 hP hD hS hfu hl
              refine lv_iload hx hb dC_drawFromLink_91 (lv_at hl 0 rfl) ?_
              refine lv_sipush (v := nI 160) hx hb dC_drawFromLink_93 (by decide +kernel) ?_
              refine tq_ge hx hb dC_drawFromLink_96 (tgt := 145) (by decide) (by omega) (by omega) (fun h96 => ?_) (fun h96 => ?_)
              · subst hQe
                exact W.vret hx hb hr (fun t ht hW => ⟨⟨v2, rfl, ⟨k1, k2, k3, Or.inr ⟨fun z => (by rw [hu1.1.1 _ _ z] at h10; cases h10), k4, fun j a1 a2 a3 a4 => k5 (fb j) (by have := tm_3 htm a1 a2; omega) (by have := tm_3 htm a1 a2; omega) ((tm_f htm hi (by have := tm_3 htm a1 a2; omega)).mpr ⟨j, a1, a2, a3, rfl⟩) j a1 a2 a3 rfl a4⟩⟩, tq_hp ht hP⟩, hS.F ht⟩) hS.2.2 dC_drawFromLink_145
              · obtain ⟨k, hkN, hk3, hka, hkb⟩ := (tm_f htm hi h96).mp (k6 h96)
                refine lv_aload_n hx hb dC_drawFromLink_99 rfl (lv_at hl 3 rfl) ?_
                refine gf_C_24 (v := .ref (a 14)) hx hb hA hown hK hP 3 rfl rfl dC_drawFromLink_100 ?_
                refine lv_iload hx hb dC_drawFromLink_103 (lv_at hl 2 rfl) ?_
                refine lv_iload hx hb dC_drawFromLink_105 (lv_at hl 0 rfl) ?_
                refine k_holds ⟨hx, hb, hml, hown, hA⟩ (kw_C_61 hA rfl rfl ⟨Nat.le_trans (Nat.le_of_ble_eq_true rfl) hRf, Nat.le_trans (Nat.le_of_ble_eq_true rfl) hRl⟩) hK hP hS 14 15 1 rfl rfl rfl (by omega) (by omega) (by decide) (by decide) hl.1 (Nat.le_of_ble_eq_true rfl) ⟨by omega, by omega⟩ dC_drawFromLink_107 (fun H locs hP hS => ?_)
                refine tq_bf hx hb dC_drawFromLink_110 (tgt := 130) (by decide) (fun h110 => ?_) (fun h110 => ?_)
                · refine lv_aload hx hb dC_drawFromLink_130 (lv_at hl 1 rfl) ?_
                  refine lv_iload_n hx hb dC_drawFromLink_132 rfl (lv_at hl 5 rfl) ?_
                  refine lv_iload hx hb dC_drawFromLink_133 (lv_at hl 0 rfl) ?_
                  refine lv_iconst (v := nI 1) hx hb dC_drawFromLink_135 (by decide +kernel) ?_
                  refine tq_iadd hx hb dC_drawFromLink_136 ?_
                  refine k_next ⟨hx, hb, hml, hown, hA⟩ (kw_C_69 hA rfl rfl ⟨Nat.le_trans (Nat.le_of_ble_eq_true rfl) hRf, Nat.le_trans (Nat.le_of_ble_eq_true rfl) hRl⟩) hK hP hS 30 31 1 rfl rfl rfl (by decide) (by omega) (by decide) (by decide) (by omega) (by omega) hl.1 (Nat.le_of_ble_eq_true rfl) ⟨by omega, by omega⟩ dC_drawFromLink_137 (fun r4 H locs hr4 hP hS => ?_)
                  refine lv_istore (lv' := [(6, .int (nI r4)), (5, .ref (a 30)), (4, .int (nI (d * 7 + 6))), (0, .ref (a 3)), (1, .int (nI x)), (2, .int (nI i)), (3, .int (nI d))]) hx hb dC_drawFromLink_140 hl (by decide) rfl (fun ls hl => ?_)
                  refine lv_goto hx hb dC_drawFromLink_142 (tgt := 91) (by decide) ?_
                  rw [k1.2.2.2.2.2.1 8 (by decide)] at hr4
                  have hge := hr4.1
                  have hlt := hr4.2.1
                  exact ih91 r4 v2 ls H locs k1 k2 k3 k4 (tm_nx_step k5 (fun k a1 a2 a3 a4 a5 => (by rw [k1.1 _ _ a5] at h110; cases h110)) hr4) hr4.2.2.2 (by omega) hP hD hS (by omega) (lv_sub hl [0, 1, 2, 3, 4, 5, 6] rfl)
                · refine lv_aload_n hx hb dC_drawFromLink_113 rfl (lv_at hl 3 rfl) ?_
                  refine lv_iload_n hx hb dC_drawFromLink_114 rfl (lv_at hl 4 rfl) ?_
                  refine lv_bipush (v := nI 6) hx hb dC_drawFromLink_115 (by decide +kernel) ?_
                  refine lv_aload_n hx hb dC_drawFromLink_117 rfl (lv_at hl 3 rfl) ?_
                  refine gf_C_11 (v := .ref (a 1)) hx hb hA hown hK hP 3 rfl rfl dC_drawFromLink_118 ?_
                  refine lv_iload_n hx hb dC_drawFromLink_121 rfl (lv_at hl 5 rfl) ?_
                  refine lv_iload hx hb dC_drawFromLink_122 (lv_at hl 0 rfl) ?_
                  refine ks_rv ⟨hx, hb, hml, hown, hA⟩ (c_findSome l D a kI kL kZ v2 i q (by omega) (by omega)) (kw_C_176 hA rfl rfl ⟨Nat.le_trans (Nat.le_of_ble_eq_true rfl) hRf, Nat.le_trans (Nat.le_of_ble_eq_true rfl) hRl⟩) hK hP hS 1 1 rfl rfl rfl hl.1 (Nat.le_of_ble_eq_true rfl) ⟨by omega, by omega⟩ dC_drawFromLink_124 rfl (fun H locs hP hS => ?_)
                  refine tq_i (show v2.2.1 3 (i * 160 + q) = nI k from (by have h9 := tm_sf (tm_ext htm k1) hkN hk3; rw [hka, hkb] at h9; exact h9)) ?_
                  refine ks_v (wf := sW a kI kL kZ) (u := v2) ⟨hx, hb, hml, hown, hA⟩ (c_add l D a kI kL kZ v2 x 6 k (by omega) (by omega) (by omega)) (kw_C_94 hA rfl rfl ⟨Nat.le_trans (Nat.le_of_ble_eq_true rfl) hRf, Nat.le_trans (Nat.le_of_ble_eq_true rfl) hRl⟩) hK hP hD hS (fun _ h => h) (fun u' => sW_adr u') 3 3 rfl rfl rfl hl.1 (Nat.le_of_ble_eq_true rfl) ⟨by omega, by omega⟩ dC_drawFromLink_127 rfl (fun u5 H locs hu5 hP hD hS => ?_)
                  refine lv_aload hx hb dC_drawFromLink_130 (lv_at hl 1 rfl) ?_
                  refine lv_iload_n hx hb dC_drawFromLink_132 rfl (lv_at hl 5 rfl) ?_
                  refine lv_iload hx hb dC_drawFromLink_133 (lv_at hl 0 rfl) ?_
                  refine lv_iconst (v := nI 1) hx hb dC_drawFromLink_135 (by decide +kernel) ?_
                  refine tq_iadd hx hb dC_drawFromLink_136 ?_
                  refine k_next ⟨hx, hb, hml, hown, hA⟩ (kw_C_69 hA rfl rfl ⟨Nat.le_trans (Nat.le_of_ble_eq_true rfl) hRf, Nat.le_trans (Nat.le_of_ble_eq_true rfl) hRl⟩) hK hP hS 30 31 1 rfl rfl rfl (by decide) (by omega) (by decide) (by decide) (by omega) (by omega) hl.1 (Nat.le_of_ble_eq_true rfl) ⟨by omega, by omega⟩ dC_drawFromLink_137 (fun r6 H locs hr6 hP hS => ?_)
                  refine lv_istore (lv' := [(6, .int (nI r6)), (5, .ref (a 30)), (4, .int (nI (d * 7 + 6))), (0, .ref (a 3)), (1, .int (nI x)), (2, .int (nI i)), (3, .int (nI d))]) hx hb dC_drawFromLink_140 hl (by decide) rfl (fun ls hl => ?_)
                  refine lv_goto hx hb dC_drawFromLink_142 (tgt := 91) (by decide) ?_
                  rw [(ext_trans k1 hu5.1).2.2.2.2.2.1 8 (by decide)] at hr6
                  have hge := hr6.1
                  have hlt := hr6.2.1
                  exact ih91 r6 u5 ls H locs (ext_trans k1 hu5.1) (snd_fact k2 hu5 (fun G h1 h2 => h2.2.2.2.2 k hkN hk3 hka (h1 _ _ (by rw [hkb]; exact h110)))) ⟨hu5.1.1 _ _ k3.1, hu5.1.1 _ _ k3.2⟩ (fun t a1 a2 => hu5.1.1 _ _ (k4 t a1 a2)) (tm_nx_step (fun b a1 a2 a3 k a4 a5 a6 a7 a8 => hu5.1.1 _ _ (k5 b a1 a2 a3 k a4 a5 a6 a7 a8)) (fun j a1 a2 a3 a4 a5 => (hu5.2 _ _).mpr (Or.inr ⟨rfl, tm_u htm a1 hkN (a2.trans hk3.symm) (by omega) (a3.trans hka.symm) (a4.trans hkb.symm)⟩)) hr6) hr6.2.2.2 (by omega) hP hD hS (by omega) (lv_sub hl [0, 1, 2, 3, 4, 5, 6] rfl)
          rw [g1.2.2.2.2.2.1 8 (by decide)] at hr3
          have hlt := hr3.2.1
          exact lp _ r3 v ls _ _ g1 g2 g3 (fun t a1 a2 => g4 t (by omega) a1 a2) (tm_nx_first hr3) hr3.2.2.2 (by omega) hP hD hS (Nat.lt_succ_self _) (lv_sub hl [0, 1, 2, 3, 4, 5, 6] rfl)
        · refine lv_aload_n hx hb dC_drawFromLink_40 rfl (lv_at hl 1 rfl) ?_
          refine lv_iload_n hx hb dC_drawFromLink_41 rfl (lv_at hl 2 rfl) ?_
          refine lv_iload hx hb dC_drawFromLink_42 (lv_at hl 0 rfl) ?_
          refine lv_iload_n hx hb dC_drawFromLink_44 rfl (lv_at hl 4 rfl) ?_
          refine ks_v (wf := sW a kI kL kZ) (u := v) ⟨hx, hb, hml, hown, hA⟩ (c_add l D a kI kL kZ v x r d (by omega) (by omega) (by omega)) (kw_C_94 hA rfl rfl ⟨Nat.le_trans (Nat.le_of_ble_eq_true rfl) hRf, Nat.le_trans (Nat.le_of_ble_eq_true rfl) hRl⟩) hK hP hD hS (fun _ h => h) (fun u' => sW_adr u') 3 3 rfl rfl rfl hl.1 (Nat.le_of_ble_eq_true rfl) ⟨by omega, by omega⟩ dC_drawFromLink_45 rfl (fun u7 H locs hu7 hP hD hS => ?_)
          refine lv_aload_n hx hb dC_drawFromLink_48 rfl (lv_at hl 1 rfl) ?_
          refine gf_C_40 (v := .ref (a 24)) hx hb hA hown hK hP 3 rfl rfl dC_drawFromLink_49 ?_
          refine lv_iload_n hx hb dC_drawFromLink_52 rfl (lv_at hl 3 rfl) ?_
          refine lv_iload hx hb dC_drawFromLink_53 (lv_at hl 0 rfl) ?_
          refine lv_iconst (v := nI 1) hx hb dC_drawFromLink_55 (by decide +kernel) ?_
          refine tq_iadd hx hb dC_drawFromLink_56 ?_
          refine k_next ⟨hx, hb, hml, hown, hA⟩ (kw_C_69 hA rfl rfl ⟨Nat.le_trans (Nat.le_of_ble_eq_true rfl) hRf, Nat.le_trans (Nat.le_of_ble_eq_true rfl) hRl⟩) hK hP hS 24 25 1 rfl rfl rfl (by decide) (by omega) (by decide) (by decide) (by omega) (by omega) hl.1 (Nat.le_of_ble_eq_true rfl) ⟨by omega, by omega⟩ dC_drawFromLink_57 (fun r8 H locs hr8 hP hS => ?_)
          refine lv_istore (lv' := [(4, .int (nI r8)), (0, .ref (a 3)), (1, .int (nI x)), (2, .int (nI i)), (3, .int (nI d))]) hx hb dC_drawFromLink_60 hl (by decide) rfl (fun ls hl => ?_)
          refine lv_goto hx hb dC_drawFromLink_62 (tgt := 33) (by decide) ?_
          rw [(ext_trans g1 hu7.1).2.2.2.2.2.1 5 (by decide)] at hr8
          have hge := hr8.1
          have hlt := hr8.2.1
          exact ih33 r8 u7 ls H locs (ext_trans g1 hu7.1) (snd_fact g2 hu7 (fun G h1 h2 => h2.2.2.2.1 r h37 (g5 h37))) ⟨hu7.1.1 _ _ g3.1, hu7.1.1 _ _ g3.2⟩ (tm_nx_step (P := fun t => u7.1 0 (x * 7 + t) d = true) (fun b a1 a2 a3 => hu7.1.1 _ _ (g4 b a1 a2 a3)) ((hu7.2 _ _).mpr (Or.inr ⟨rfl, rfl⟩)) hr8) hr8.2.2.2 (by omega) hP hD hS (by omega) (lv_sub hl [0, 1, 2, 3, 4] rfl)
    rw [(ext_trans (ext_refl u) hu1.1).2.2.2.2.2.1 5 (by decide)] at hr2
    have hlt := hr2.2.1
    exact lp _ r2 u1 ls _ _ (ext_trans (ext_refl u) hu1.1) (begin_snd hu1.2 (fun G z => ⟨z.1, z.2.1⟩)) (begin_0 hu1.2 hb0) (fun t a1 a2 a3 => tm_nx_first (P := fun t => u1.1 0 (x * 7 + t) d = true) hr2 t a1 a2 a3) hr2.2.2.2 (by omega) hP hD hS (Nat.lt_succ_self _) (lv_sub hl [0, 1, 2, 3, 4] rfl)
  · refine lv_aload_n hx hb dC_drawFromLink_13 rfl (lv_at hl 0 rfl) ?_
    refine lv_iload_n hx hb dC_drawFromLink_14 rfl (lv_at hl 1 rfl) ?_
    refine lv_bipush (v := nI 6) hx hb dC_drawFromLink_15 (by decide +kernel) ?_
    refine lv_iconst (v := nI 1) hx hb dC_drawFromLink_17 (by decide +kernel) ?_
    refine ks_v (wf := sW a kI kL kZ) (u := u1) ⟨hx, hb, hml, hown, hA⟩ (c_add l D a kI kL kZ u1 x 6 1 (by omega) (by omega) (by omega)) (kw_C_94 hA rfl rfl ⟨Nat.le_trans (Nat.le_of_ble_eq_true rfl) hRf, Nat.le_trans (Nat.le_of_ble_eq_true rfl) hRl⟩) hK hP hD hS (fun _ h => h) (fun u' => sW_adr u') 3 3 rfl rfl rfl hl.1 (Nat.le_of_ble_eq_true rfl) ⟨by omega, by omega⟩ dC_drawFromLink_18 rfl (fun u9 H locs hu9 hP hD hS => ?_)
    subst hQe
    exact W.vret hx hb hr (fun t ht hW => ⟨⟨u9, rfl, ⟨(ext_trans (ext_trans (ext_refl u) hu1.1) hu9.1), snd_fact (begin_snd hu1.2 (fun G z => ⟨z.1, z.2.1⟩)) hu9 (fun G h1 h2 => h2.2.2.1 (h1 _ _ h10)), ⟨hu9.1.1 _ _ (begin_d hu1.2), hu9.1.1 _ _ (begin_0 hu1.2 hb0).2⟩, Or.inl ((hu9.2 _ _).mpr (Or.inr ⟨rfl, rfl⟩))⟩, tq_hp ht hP⟩, hS.F ht⟩) hS.2.2 dC_drawFromLink_21
set_option maxHeartbeats 4000000 in
set_option maxRecDepth 100000 in
/-- c_drawFromChains -/
theorem c_drawFromChains (l : Launch) (D : va_G) (a : Nat → Nat) (kI kL kZ : ClassId) (u : sU) (x i d : Nat) (htr : s_tr u) (hx1 : x < 160) (hi : i < 6) (hd : d < 160) : Met l yC_drawFromChains (wC_drawFromChains :: wA) ({ frames := 3, cells := 0, slots := 0, locals := 75 }) (va_Pc [.ref (a 3), .int (nI x), .int (nI i), .int (nI d)] (tq_wB D vwA (sW a kI kL kZ u) (sT kI kL kZ))) (va_Qv (fun (u' : sU) => s_ext u u' ∧ s_snd u u' (s_chR u x i d) ∧ ∀ q, q < 6 → ∀ t, t < 6 → s_ch1 u u' x i d q t ∧ s_ch2 u u' x i d q t) (fun u' t => va_P D vwA (sW a kI kL kZ u') t.heap) (sA a)) 0 0 (sA a) := by
  refine Met.ofW (cc := bC_drawFromChains) (maxL := 8) (ret := none) (by decide +kernel) rfl ?_
  intro p e s m args below meth c s₁ B1 hml hv
  obtain ⟨rfl, hP, hK, hD0⟩ := hv
  have hx := B1.exec
  have hb := B1.bytes
  have hr := B1.returns
  have hA : ∀ w ∈ wA, w.before ([.ref (a 3), .int (nI x), .int (nI i), .int (nI d)] : List Value).toArray s = true := fun w h => atoms_spec (ws := wC_drawFromChains :: wA) B1.pre w (List.mem_cons_of_mem _ h)
  have hown : s.vm.findClass RcC = some m.cls := findClass_of_methodNamed B1.named
  have hlocks := B1.notSynchronized
  have hS : va_S (sA a) s.heap s.heap [] := va_S.rf
  have hl := lv_entry ([.ref (a 3), .int (nI x), .int (nI i), .int (nI d)]) (n := 8) (Nat.le_of_ble_eq_true rfl)
  rw [lg_entry_eq]
  generalize (lg_sl ([.ref (a 3), .int (nI x), .int (nI i), .int (nI d)]) ++ List.replicate (8 - (lg_sl ([.ref (a 3), .int (nI x), .int (nI i), .int (nI d)])).length) Slot.unset).toArray = ls at hl ⊢
  have hl : lv_has ls 8 [(0, .ref (a 3)), (1, .int (nI x)), (2, .int (nI i)), (3, .int (nI d))] := hl
  refine tq_gen (fun R Q hRe hQe => ?_)
  have hRf : 3 ≤ R.frames := by rw [hRe]; exact Nat.le_of_ble_eq_true rfl
  have hRl : 75 ≤ R.locals := by rw [hRe]; exact Nat.le_of_ble_eq_true rfl
  have hRc : 0 ≤ R.cells := by rw [hRe]; exact Nat.le_of_ble_eq_true rfl
  have hRs : 0 ≤ R.slots := by rw [hRe]; exact Nat.le_of_ble_eq_true rfl
  have hD := sA_D hD0
  refine lv_iconst (v := nI 0) hx hb dC_drawFromChains_0 (by decide +kernel) ?_
  refine lv_istore (lv' := [(4, .int (nI 0)), (0, .ref (a 3)), (1, .int (nI x)), (2, .int (nI i)), (3, .int (nI d))]) hx hb dC_drawFromChains_1 hl (by decide) rfl (fun ls hl => ?_)
  have lp : ∀ (fu : Nat) (n : Nat) (v : sU) (ls : Array Slot) (H : Heap) (locs : List Loc), s_ext u v → s_snd u v (s_chR u x i d) → (∀ q, q < n → ∀ t, t < 6 → s_ch1 u v x i d q t ∧ s_ch2 u v x i d q t) → n ≤ 6 → va_P D vwA (sW a kI kL kZ v) H → va_D (sA a) (sW a kI kL kZ v) → va_S (sA a) s.heap H locs → 6 - n < fu → lv_has ls 8 [(4, .int (nI n)), (0, .ref (a 3)), (1, .int (nI x)), (2, .int (nI i)), (3, .int (nI d))] → W p l e R s m ([.ref (a 3), .int (nI x), .int (nI i), .int (nI d)] : List Value).toArray below meth c H locs 0 0 Q (F0 m 3 ls []) := by
    intro fu
    induction fu with
    | zero => intros; omega
    | succ fu ih3 =>
      intro n v ls H locs g1 g2 g3 g4 hP hD hS hfu hl
      refine lv_iload hx hb dC_drawFromChains_3 (lv_at hl 0 rfl) ?_
      refine lv_bipush (v := nI 6) hx hb dC_drawFromChains_5 (by decide +kernel) ?_
      refine tq_ge hx hb dC_drawFromChains_7 (tgt := 138) (by decide) (by omega) (by omega) (fun h7 => ?_) (fun h7 => ?_)
      · subst hQe
        exact W.vret hx hb hr (fun t ht hW => ⟨⟨v, rfl, ⟨g1, g2, fun q a1 t a2 => g3 q (by omega) t a2⟩, tq_hp ht hP⟩, hS.F ht⟩) hS.2.2 dC_drawFromChains_138
      · refine lv_iload_n hx hb dC_drawFromChains_10 rfl (lv_at hl 3 rfl) ?_
        refine lv_bipush (v := nI 6) hx hb dC_drawFromChains_11 (by decide +kernel) ?_
        refine tq_imul hx hb dC_drawFromChains_13 ?_
        refine lv_iload hx hb dC_drawFromChains_14 (lv_at hl 0 rfl) ?_
        refine tq_iadd hx hb dC_drawFromChains_16 ?_
        refine lv_istore (lv' := [(5, .int (nI ((i * 6) + n))), (4, .int (nI n)), (0, .ref (a 3)), (1, .int (nI x)), (2, .int (nI i)), (3, .int (nI d))]) hx hb dC_drawFromChains_17 hl (by decide) rfl (fun ls hl => ?_)
        refine lv_aload_n hx hb dC_drawFromChains_19 rfl (lv_at hl 2 rfl) ?_
        refine gf_C_43 (v := .ref (a 26)) hx hb hA hown hK hP 3 rfl rfl dC_drawFromChains_20 ?_
        refine lv_iload hx hb dC_drawFromChains_23 (lv_at hl 0 rfl) ?_
        refine lv_iconst (v := nI 0) hx hb dC_drawFromChains_25 (by decide +kernel) ?_
        refine k_next ⟨hx, hb, hml, hown, hA⟩ (kw_C_69 hA rfl rfl ⟨Nat.le_trans (Nat.le_of_ble_eq_true rfl) hRf, Nat.le_trans (Nat.le_of_ble_eq_true rfl) hRl⟩) hK hP hS 26 27 1 rfl rfl rfl (by decide) (by omega) (by decide) (by decide) (by omega) (by omega) hl.1 (Nat.le_of_ble_eq_true rfl) ⟨by omega, by omega⟩ dC_drawFromChains_26 (fun r1 H locs hr1 hP hS => ?_)
        refine lv_istore (lv' := [(6, .int (nI r1)), (5, .int (nI ((i * 6) + n))), (4, .int (nI n)), (0, .ref (a 3)), (1, .int (nI x)), (2, .int (nI i)), (3, .int (nI d))]) hx hb dC_drawFromChains_29 hl (by decide) rfl (fun ls hl => ?_)
        have lp : ∀ (fu : Nat) (r : Nat) (v2 : sU) (ls : Array Slot) (H : Heap) (locs : List Loc), s_ext u v2 → s_snd u v2 (s_chR u x i d) → (∀ q, q < n → ∀ t, t < 6 → s_ch1 u v2 x i d q t ∧ s_ch2 u v2 x i d q t) → (∀ t, t < r → t < 6 → u.1 6 (i * 6 + n) t = true → s_ch1 u v2 x i d n t) → (r < 6 → u.1 6 (i * 6 + n) r = true) → r < 70 → va_P D vwA (sW a kI kL kZ v2) H → va_D (sA a) (sW a kI kL kZ v2) → va_S (sA a) s.heap H locs → 70 - r < fu → lv_has ls 8 [(6, .int (nI r)), (5, .int (nI ((i * 6) + n))), (4, .int (nI n)), (0, .ref (a 3)), (1, .int (nI x)), (2, .int (nI i)), (3, .int (nI d))] → W p l e R s m ([.ref (a 3), .int (nI x), .int (nI i), .int (nI d)] : List Value).toArray below meth c H locs 0 0 Q (F0 m 31 ls []) := by
          intro fu
          induction fu with
          | zero => intros; omega
          | succ fu ih31 =>
            intro r v2 ls H locs k1 k2 k3 k4 k5 k6 hP hD hS hfu hl
            refine lv_iload hx hb dC_drawFromChains_31 (lv_at hl 0 rfl) ?_
            refine lv_bipush (v := nI 6) hx hb dC_drawFromChains_33 (by decide +kernel) ?_
            refine tq_ge hx hb dC_drawFromChains_35 (tgt := 73) (by decide) (by omega) (by omega) (fun h35 => ?_) (fun h35 => ?_)
            · refine lv_iload hx hb dC_drawFromChains_73 (lv_at hl 2 rfl) ?_
              refine lv_bipush (v := nI 6) hx hb dC_drawFromChains_75 (by decide +kernel) ?_
              refine tq_imul hx hb dC_drawFromChains_77 ?_
              refine lv_iload_n hx hb dC_drawFromChains_78 rfl (lv_at hl 5 rfl) ?_
              refine tq_iadd hx hb dC_drawFromChains_79 ?_
              refine lv_istore (lv' := [(6, .int (nI ((n * 6) + i))), (5, .int (nI ((i * 6) + n))), (4, .int (nI n)), (0, .ref (a 3)), (1, .int (nI x)), (2, .int (nI i)), (3, .int (nI d))]) hx hb dC_drawFromChains_80 hl (by decide) rfl (fun ls hl => ?_)
              refine lv_aload_n hx hb dC_drawFromChains_82 rfl (lv_at hl 3 rfl) ?_
              refine gf_C_43 (v := .ref (a 26)) hx hb hA hown hK hP 3 rfl rfl dC_drawFromChains_83 ?_
              refine lv_iload hx hb dC_drawFromChains_86 (lv_at hl 0 rfl) ?_
              refine lv_iconst (v := nI 0) hx hb dC_drawFromChains_88 (by decide +kernel) ?_
              refine k_next ⟨hx, hb, hml, hown, hA⟩ (kw_C_69 hA rfl rfl ⟨Nat.le_trans (Nat.le_of_ble_eq_true rfl) hRf, Nat.le_trans (Nat.le_of_ble_eq_true rfl) hRl⟩) hK hP hS 26 27 1 rfl rfl rfl (by decide) (by omega) (by decide) (by decide) (by omega) (by omega) hl.1 (Nat.le_of_ble_eq_true rfl) ⟨by omega, by omega⟩ dC_drawFromChains_89 (fun r2 H locs hr2 hP hS => ?_)
              refine lv_istore (lv' := [(7, .int (nI r2)), (6, .int (nI ((n * 6) + i))), (5, .int (nI ((i * 6) + n))), (4, .int (nI n)), (0, .ref (a 3)), (1, .int (nI x)), (2, .int (nI i)), (3, .int (nI d))]) hx hb dC_drawFromChains_92 hl (by decide) rfl (fun ls hl => ?_)
              have lp : ∀ (fu : Nat) (q : Nat) (v3 : sU) (ls : Array Slot) (H : Heap) (locs : List Loc), s_ext u v3 → s_snd u v3 (s_chR u x i d) → (∀ q, q < n → ∀ t, t < 6 → s_ch1 u v3 x i d q t ∧ s_ch2 u v3 x i d q t) → (∀ t, t < 6 → s_ch1 u v3 x i d n t) → (∀ t, t < q → t < 6 → u.1 6 (n * 6 + i) t = true → s_ch2 u v3 x i d n t) → (q < 6 → u.1 6 (n * 6 + i) q = true) → q < 70 → va_P D vwA (sW a kI kL kZ v3) H → va_D (sA a) (sW a kI kL kZ v3) → va_S (sA a) s.heap H locs → 70 - q < fu → lv_has ls 8 [(7, .int (nI q)), (6, .int (nI ((n * 6) + i))), (5, .int (nI ((i * 6) + n))), (4, .int (nI n)), (0, .ref (a 3)), (1, .int (nI x)), (2, .int (nI i)), (3, .int (nI d))] → W p l e R s m ([.ref (a 3), .int (nI x), .int (nI i), .int (nI d)] : List Value).toArray below meth c H locs 0 0 Q (F0 m 94 ls []) := by
                intro fu
                induction fu with
                | zero => intros; omega
                | succ fu ih94 =>
                  intro q v3 ls H locs j1 j2 j3 j4 j5 j6 j7 hP hD hS hfu hl
                  refine lv_iload hx hb dC_drawFromChains_94 (lv_at hl 0 rfl) ?_
                  refine lv_bipush (v := nI 6) hx hb dC_drawFromChains_96 (by decide +kernel) ?_
                  refine tq_ge hx hb dC_drawFromChains_98 (tgt := 132) (by decide) (by omega) (by omega) (fun h98 => ?_) (fun h98 => ?_)
                  · refine lv_iinc (k := 3) (lv' := [(4, .int (nI (n + 1))), (7, .int (nI q)), (6, .int (nI ((n * 6) + i))), (5, .int (nI ((i * 6) + n))), (0, .ref (a 3)), (1, .int (nI x)), (2, .int (nI i)), (3, .int (nI d))]) hx hb dC_drawFromChains_132 hl rfl (nI_1 _) (by decide) rfl (fun ls hl => ?_)
                    refine lv_goto hx hb dC_drawFromChains_135 (tgt := 3) (by decide) ?_
                    exact ih3 (n + 1) v3 ls H locs j1 j2 (lt_s (p := fun q => ∀ t, t < 6 → s_ch1 u v3 x i d q t ∧ s_ch2 u v3 x i d q t) j3 (fun t a2 => ⟨j4 t a2, fun a3 => j5 t (by omega) a2 a3 a3⟩)) (by omega) hP hD hS (by omega) (lv_sub hl [0, 4, 5, 6, 7] rfl)
                  · refine lv_aload_n hx hb dC_drawFromChains_101 rfl (lv_at hl 4 rfl) ?_
                    refine lv_iload_n hx hb dC_drawFromChains_102 rfl (lv_at hl 5 rfl) ?_
                    refine lv_iload hx hb dC_drawFromChains_103 (lv_at hl 3 rfl) ?_
                    refine ks_s ⟨hx, hb, hml, hown, hA⟩ (c_row l x n) (kw_C_57 hA rfl rfl ⟨Nat.le_trans (Nat.le_of_ble_eq_true rfl) hRf, Nat.le_trans (Nat.le_of_ble_eq_true rfl) hRl⟩) hP hS rfl hl.1 (Nat.le_of_ble_eq_true rfl) ⟨by omega, by omega⟩ dC_drawFromChains_105 rfl (fun H locs hP hS => ?_)
                    refine lv_iload hx hb dC_drawFromChains_108 (lv_at hl 0 rfl) ?_
                    refine lv_iload_n hx hb dC_drawFromChains_110 rfl (lv_at hl 7 rfl) ?_
                    refine ks_v (wf := sW a kI kL kZ) (u := v3) ⟨hx, hb, hml, hown, hA⟩ (c_addFromAll l D a kI kL kZ v3 x n q d (tr_ext htr j1) (by omega) (by omega) (by omega) (by omega)) (kw_C_113 hA rfl rfl ⟨Nat.le_trans (Nat.le_of_ble_eq_true rfl) hRf, Nat.le_trans (Nat.le_of_ble_eq_true rfl) hRl⟩) hK hP hD hS (fun _ h => h) (fun u' => sW_adr u') 3 3 rfl rfl rfl hl.1 (Nat.le_of_ble_eq_true rfl) ⟨by omega, by omega⟩ dC_drawFromChains_111 rfl (fun u3 H locs hu3 hP hD hS => ?_)
                    refine lv_aload_n hx hb dC_drawFromChains_114 rfl (lv_at hl 4 rfl) ?_
                    refine gf_C_43 (v := .ref (a 26)) hx hb hA hown hK hP 3 rfl rfl dC_drawFromChains_115 ?_
                    refine lv_iload hx hb dC_drawFromChains_118 (lv_at hl 1 rfl) ?_
                    refine lv_iload hx hb dC_drawFromChains_120 (lv_at hl 0 rfl) ?_
                    refine lv_iconst (v := nI 1) hx hb dC_drawFromChains_122 (by decide +kernel) ?_
                    refine tq_iadd hx hb dC_drawFromChains_123 ?_
                    refine k_next ⟨hx, hb, hml, hown, hA⟩ (kw_C_69 hA rfl rfl ⟨Nat.le_trans (Nat.le_of_ble_eq_true rfl) hRf, Nat.le_trans (Nat.le_of_ble_eq_true rfl) hRl⟩) hK hP hS 26 27 1 rfl rfl rfl (by decide) (by omega) (by decide) (by decide) (by omega) (by omega) hl.1 (Nat.le_of_ble_eq_true rfl) ⟨by omega, by omega⟩ dC_drawFromChains_124 (fun r4 H locs hr4 hP hS => ?_)
                    refine lv_istore (lv' := [(7, .int (nI r4)), (6, .int (nI ((n * 6) + i))), (5, .int (nI ((i * 6) + n))), (4, .int (nI n)), (0, .ref (a 3)), (1, .int (nI x)), (2, .int (nI i)), (3, .int (nI d))]) hx hb dC_drawFromChains_127 hl (by decide) rfl (fun ls hl => ?_)
                    refine lv_goto hx hb dC_drawFromChains_129 (tgt := 94) (by decide) ?_
                    rw [(ext_trans j1 hu3.1).2.2.2.2.2.1 6 (by decide)] at hr4
                    have hge := hr4.1
                    have hlt := hr4.2.1
                    exact ih94 r4 u3 ls H locs (ext_trans j1 hu3.1) (ch2_snd h7 h98 hx1 (tr_ext htr j1) (j6 h98) j2 hu3.2) (fun q a1 t a2 => ⟨ch1_mono (j3 q a1 t a2).1 hu3.1, ch2_mono (j3 q a1 t a2).2 hu3.1⟩) (fun t a2 => ch1_mono (j4 t a2) hu3.1) (tm_nx_step (fun b a1 a2 a3 => ch2_mono (j5 b a1 a2 a3) hu3.1) (ch2_yes h7 hx1 (tr_ext htr j1) j1 hu3.2) hr4) hr4.2.2.2 (by omega) hP hD hS (by omega) (lv_sub hl [0, 1, 2, 3, 4, 5, 6, 7] rfl)
              rw [k1.2.2.2.2.2.1 6 (by decide)] at hr2
              have hlt := hr2.2.1
              exact lp _ r2 v2 ls _ _ k1 k2 k3 (fun t a2 a3 => k4 t (by omega) a2 a3 a3) (tm_nx_first hr2) hr2.2.2.2 (by omega) hP hD hS (Nat.lt_succ_self _) (lv_sub hl [0, 1, 2, 3, 4, 5, 6, 7] rfl)
            · refine lv_aload_n hx hb dC_drawFromChains_38 rfl (lv_at hl 3 rfl) ?_
              refine lv_iload_n hx hb dC_drawFromChains_39 rfl (lv_at hl 4 rfl) ?_
              refine lv_iload hx hb dC_drawFromChains_40 (lv_at hl 0 rfl) ?_
              refine lv_aload_n hx hb dC_drawFromChains_42 rfl (lv_at hl 3 rfl) ?_
              refine gf_C_24 (v := .ref (a 14)) hx hb hA hown hK hP 3 rfl rfl dC_drawFromChains_43 ?_
              refine lv_iload_n hx hb dC_drawFromChains_46 rfl (lv_at hl 6 rfl) ?_
              refine lv_iload hx hb dC_drawFromChains_47 (lv_at hl 2 rfl) ?_
              refine ks_s ⟨hx, hb, hml, hown, hA⟩ (c_row l d n) (kw_C_57 hA rfl rfl ⟨Nat.le_trans (Nat.le_of_ble_eq_true rfl) hRf, Nat.le_trans (Nat.le_of_ble_eq_true rfl) hRl⟩) hP hS rfl hl.1 (Nat.le_of_ble_eq_true rfl) ⟨by omega, by omega⟩ dC_drawFromChains_49 rfl (fun H locs hP hS => ?_)
              refine ks_v (wf := sW a kI kL kZ) (u := v2) ⟨hx, hb, hml, hown, hA⟩ (c_addAll0 l D a kI kL kZ v2 x r (d * 7 + n) (by omega) (by omega) (by omega)) (kw_C_126 hA rfl rfl ⟨Nat.le_trans (Nat.le_of_ble_eq_true rfl) hRf, Nat.le_trans (Nat.le_of_ble_eq_true rfl) hRl⟩) hK hP hD hS (fun _ h => h) (fun u' => sW_adr u') 3 3 rfl rfl rfl hl.1 (Nat.le_of_ble_eq_true rfl) ⟨by omega, by omega⟩ dC_drawFromChains_52 rfl (fun u5 H locs hu5 hP hD hS => ?_)
              refine lv_aload_n hx hb dC_drawFromChains_55 rfl (lv_at hl 3 rfl) ?_
              refine gf_C_43 (v := .ref (a 26)) hx hb hA hown hK hP 3 rfl rfl dC_drawFromChains_56 ?_
              refine lv_iload hx hb dC_drawFromChains_59 (lv_at hl 1 rfl) ?_
              refine lv_iload hx hb dC_drawFromChains_61 (lv_at hl 0 rfl) ?_
              refine lv_iconst (v := nI 1) hx hb dC_drawFromChains_63 (by decide +kernel) ?_
              refine tq_iadd hx hb dC_drawFromChains_64 ?_
              refine k_next ⟨hx, hb, hml, hown, hA⟩ (kw_C_69 hA rfl rfl ⟨Nat.le_trans (Nat.le_of_ble_eq_true rfl) hRf, Nat.le_trans (Nat.le_of_ble_eq_true rfl) hRl⟩) hK hP hS 26 27 1 rfl rfl rfl (by decide) (by omega) (by decide) (by decide) (by omega) (by omega) hl.1 (Nat.le_of_ble_eq_true rfl) ⟨by omega, by omega⟩ dC_drawFromChains_65 (fun r6 H locs hr6 hP hS => ?_)
              refine lv_istore (lv' := [(6, .int (nI r6)), (5, .int (nI ((i * 6) + n))), (4, .int (nI n)), (0, .ref (a 3)), (1, .int (nI x)), (2, .int (nI i)), (3, .int (nI d))]) hx hb dC_drawFromChains_68 hl (by decide) rfl (fun ls hl => ?_)
              refine lv_goto hx hb dC_drawFromChains_70 (tgt := 31) (by decide) ?_
              rw [(ext_trans k1 hu5.1).2.2.2.2.2.1 6 (by decide)] at hr6
              have hge := hr6.1
              have hlt := hr6.2.1
              exact ih31 r6 u5 ls H locs (ext_trans k1 hu5.1) (ch1_snd h7 h35 (k5 h35) k2 hu5.2) (fun q a1 t a2 => ⟨ch1_mono (k3 q a1 t a2).1 hu5.1, ch2_mono (k3 q a1 t a2).2 hu5.1⟩) (tm_nx_step (fun b a1 a2 a3 => ch1_mono (k4 b a1 a2 a3) hu5.1) (ch1_yes k1 hu5.2) hr6) hr6.2.2.2 (by omega) hP hD hS (by omega) (lv_sub hl [0, 1, 2, 3, 4, 5, 6] rfl)
        rw [g1.2.2.2.2.2.1 6 (by decide)] at hr1
        have hlt := hr1.2.1
        exact lp _ r1 v ls _ _ g1 g2 g3 (tm_nx_first hr1) hr1.2.2.2 (by omega) hP hD hS (Nat.lt_succ_self _) (lv_sub hl [0, 1, 2, 3, 4, 5, 6] rfl)
  exact lp _ 0 u ls _ _ (ext_refl u) snd_refl (fun q a => absurd a (Nat.not_lt_zero q)) (by omega) hP hD hS (Nat.lt_succ_self _) (lv_sub hl [0, 1, 2, 3, 4] rfl)
end
section
/-! Pure rows for what is taken in: new descriptions, axioms that are heard. -/
theorem nx_mono_first {f : Nat → Bool} {W r : Nat} {P : Nat → Prop} (hn : tm_nx f W 0 r) (hf : ∀ b, b < W → f b = false → P b) : ∀ b, b < r → b < W → P b := fun b h1 h2 => hf b h2 (hn.2.2.1 b (Nat.zero_le _) h1 h2)
theorem nx_mono_step {f : Nat → Bool} {W r r2 : Nat} {P : Nat → Prop} (hinv : ∀ b, b < r → b < W → P b) (hr : P r) (hn : tm_nx f W (r + 1) r2) (hf : ∀ b, b < W → f b = false → P b) : ∀ b, b < r2 → b < W → P b := fun b h1 h2 => by
  rcases Nat.lt_trichotomy b r with z | z | z
  · exact hinv b z h2
  · rw [z]; exact hr
  · exact hf b h2 (hn.2.2.1 b (by omega) h1 h2)
/-- a told table takes one more -/
def s_put (u : sU) (i r b : Nat) : sU := (va_up u.1 i (tm_put (u.1 i) r b), u.2.1, u.2.2)
def s_forget (u : sU) : sU := (va_up (va_up (va_up (va_up (va_up (va_up (va_up u.1 0 (tm_clr (u.1 0) (u.2.2 0 * 7))) 1 (tm_clr (u.1 1) (u.2.2 0 * 7))) 2 (tm_clr (u.1 2) (u.2.2 0 * 7))) 3 (tm_clr (u.1 3) 1)) 4 (tm_clr (u.1 4) (u.2.2 0))) 5 (tm_clr (u.1 5) 6)) 6 (tm_clr (u.1 6) 36), u.2.1, va_up (va_up (va_up u.2.2 4 (u.2.2 0)) 5 0) 6 0)
def s_spoil (u : sU) : sU := (u.1, u.2.1, va_up u.2.2 6 1)
/-- facts to d from each one of a row of the sources: what follows, what is there -/
theorem from_snd {u v w : sU} {y0 q i d : Nat} {rule : (Nat → Nat → Prop) → Prop} (hy : y0 < 160) (hq : q < 7) (htr : s_tr v) (h : s_snd u v rule) (k : s_from v w (y0 * 7 + q) i d 160) (hr : ∀ G : Nat → Nat → Prop, rule G → (∀ y b, v.1 0 y b = true → G y b) → ∀ z, z < 160 → G (z * 7 + q) y0 → G (z * 7 + i) d) : s_snd u w rule := fun G h1 h2 y b z => by
  have hv := h G h1 h2
  rcases (k y b).mp z with z | ⟨z1, z, z2, _, z3, z4⟩
  · exact hv y b z
  · rw [z1, z3]
    exact hr G h2 hv z z2 (hv _ _ ((htr z q y0 hq z2 hy).mp z4))
theorem from_all {u v w : sU} {y0 q i d : Nat} (hy : y0 < 160) (hq : q < 7) (htr : s_tr v) (hx : s_ext u v) (k : s_from v w (y0 * 7 + q) i d 160) {z : Nat} (hz : z < 160) (h : u.1 0 (z * 7 + q) y0 = true) : w.1 0 (z * 7 + i) d = true :=
  (k _ _).mpr (Or.inr ⟨rfl, z, hz, hz, rfl, (htr z q y0 hq hz hy).mpr (hx.1 _ _ h)⟩)
theorem src_fact {u : sU} {c r d : Nat} (htr : s_tr u) (hc : c < 160) (hr : r < 7) (hd : d < 160) {b : Bool} (h : u.1 1 (d * 7 + r) c = b) : u.1 0 (c * 7 + r) d = b := by
  cases b with
  | true => exact (htr c r d hr hc hd).mp h
  | false => exact ts_nt (fun z => by rw [(htr c r d hr hc hd).mpr z] at h; cases h)
def s_put2 (u : sU) (x y : Nat) : sU := (va_up u.1 4 (tm_put (tm_put (u.1 4) x y) y x), u.2.1, u.2.2)
end
section
/-! The contracts of Closure: new descriptions, axioms that are heard, forgetting. Written by wip/whole/gen/genclos4.py. -/
set_option maxHeartbeats 4000000 in
set_option maxRecDepth 100000 in
/-- c_spoil -/
theorem c_spoil (l : Launch) (D : va_G) (a : Nat → Nat) (kI kL kZ : ClassId) (u : sU)  : Met l yC_spoil (wC_spoil :: wA) ({ frames := 0, cells := 0, slots := 0, locals := 0 }) (va_Pc [.ref (a 3)] (tq_wB D vwA (sW a kI kL kZ u) (sT kI kL kZ))) (va_Qv (fun (u' : sU) => u' = s_spoil u) (fun u' t => va_P D vwA (sW a kI kL kZ u') t.heap) (sA a)) 0 0 (sA a) := by
  refine Met.ofW (cc := bC_spoil) (maxL := 1) (ret := none) (by decide +kernel) rfl ?_
  intro p e s m args below meth c s₁ B1 hml hv
  obtain ⟨rfl, hP, hK, hD0⟩ := hv
  have hx := B1.exec
  have hb := B1.bytes
  have hr := B1.returns
  have hA : ∀ w ∈ wA, w.before ([.ref (a 3)] : List Value).toArray s = true := fun w h => atoms_spec (ws := wC_spoil :: wA) B1.pre w (List.mem_cons_of_mem _ h)
  have hown : s.vm.findClass RcC = some m.cls := findClass_of_methodNamed B1.named
  have hlocks := B1.notSynchronized
  have hS : va_S (sA a) s.heap s.heap [] := va_S.rf
  have hl := lv_entry ([.ref (a 3)]) (n := 1) (Nat.le_of_ble_eq_true rfl)
  rw [lg_entry_eq]
  generalize (lg_sl ([.ref (a 3)]) ++ List.replicate (1 - (lg_sl ([.ref (a 3)])).length) Slot.unset).toArray = ls at hl ⊢
  have hl : lv_has ls 1 [(0, .ref (a 3))] := hl
  refine tq_gen (fun R Q hRe hQe => ?_)
  have hRf : 0 ≤ R.frames := by rw [hRe]; exact Nat.le_of_ble_eq_true rfl
  have hRl : 0 ≤ R.locals := by rw [hRe]; exact Nat.le_of_ble_eq_true rfl
  have hRc : 0 ≤ R.cells := by rw [hRe]; exact Nat.le_of_ble_eq_true rfl
  have hRs : 0 ≤ R.slots := by rw [hRe]; exact Nat.le_of_ble_eq_true rfl
  have hD := sA_D hD0
  refine lv_aload_n hx hb dC_spoil_0 rfl (lv_at hl 0 rfl) ?_
  refine lv_iconst (v := nI 1) hx hb dC_spoil_1 (by decide +kernel) ?_
  refine pf_C_53 (v := .int (nI 1)) hx hb hA hown hK hP hD hS 3 rfl rfl rfl (Nat.le_of_ble_eq_true rfl) dC_spoil_2 (fun H locs hP hD hS => ?_)
  have hP : va_P D vwA (sW a kI kL kZ (u.1, u.2.1, va_up u.2.2 6 1)) H := hP
  have hD : va_D (sA a) (sW a kI kL kZ (u.1, u.2.1, va_up u.2.2 6 1)) := hD
  subst hQe
  exact W.vret hx hb hr (fun t ht hW => ⟨⟨(u.1, u.2.1, va_up u.2.2 6 1), rfl, rfl, tq_hp ht hP⟩, hS.F ht⟩) hS.2.2 dC_spoil_5
set_option maxHeartbeats 4000000 in
set_option maxRecDepth 100000 in
/-- c_forget -/
theorem c_forget (l : Launch) (D : va_G) (a : Nat → Nat) (kI kL kZ : ClassId) (u : sU) (hN : u.2.2 0 ≤ 160) : Met l yC_forget (wC_forget :: wA) ({ frames := 2, cells := 0, slots := 0, locals := 44 }) (va_Pc [.ref (a 3)] (tq_wB D vwA (sW a kI kL kZ u) (sT kI kL kZ))) (va_Qv (fun (u' : sU) => u' = s_forget u) (fun u' t => va_P D vwA (sW a kI kL kZ u') t.heap) (sA a)) 0 0 (sA a) := by
  refine Met.ofW (cc := bC_forget) (maxL := 2) (ret := none) (by decide +kernel) rfl ?_
  intro p e s m args below meth c s₁ B1 hml hv
  obtain ⟨rfl, hP, hK, hD0⟩ := hv
  have hx := B1.exec
  have hb := B1.bytes
  have hr := B1.returns
  have hA : ∀ w ∈ wA, w.before ([.ref (a 3)] : List Value).toArray s = true := fun w h => atoms_spec (ws := wC_forget :: wA) B1.pre w (List.mem_cons_of_mem _ h)
  have hown : s.vm.findClass RcC = some m.cls := findClass_of_methodNamed B1.named
  have hlocks := B1.notSynchronized
  have hS : va_S (sA a) s.heap s.heap [] := va_S.rf
  have hl := lv_entry ([.ref (a 3)]) (n := 2) (Nat.le_of_ble_eq_true rfl)
  rw [lg_entry_eq]
  generalize (lg_sl ([.ref (a 3)]) ++ List.replicate (2 - (lg_sl ([.ref (a 3)])).length) Slot.unset).toArray = ls at hl ⊢
  have hl : lv_has ls 2 [(0, .ref (a 3))] := hl
  refine tq_gen (fun R Q hRe hQe => ?_)
  have hRf : 2 ≤ R.frames := by rw [hRe]; exact Nat.le_of_ble_eq_true rfl
  have hRl : 44 ≤ R.locals := by rw [hRe]; exact Nat.le_of_ble_eq_true rfl
  have hRc : 0 ≤ R.cells := by rw [hRe]; exact Nat.le_of_ble_eq_true rfl
  have hRs : 0 ≤ R.slots := by rw [hRe]; exact Nat.le_of_ble_eq_true rfl
  have hD := sA_D hD0
  refine lv_aload_n hx hb dC_forget_0 rfl (lv_at hl 0 rfl) ?_
  refine gf_C_11 (v := .ref (a 1)) hx hb hA hown hK hP 3 rfl rfl dC_forget_1 ?_
  refine ks_rv ⟨hx, hb, hml, hown, hA⟩ (c_size l D a kI kL kZ u  ) (kw_C_82 hA rfl rfl ⟨Nat.le_trans (Nat.le_of_ble_eq_true rfl) hRf, Nat.le_trans (Nat.le_of_ble_eq_true rfl) hRl⟩) hK hP hS 1 1 rfl rfl rfl hl.1 (Nat.le_of_ble_eq_true rfl) ⟨by omega, by omega⟩ dC_forget_4 rfl (fun H locs hP hS => ?_)
  refine lv_bipush (v := nI 7) hx hb dC_forget_7 (by decide +kernel) ?_
  refine tq_imul hx hb dC_forget_9 ?_
  refine lv_istore_n (lv' := [(1, .int (nI ((u.2.2 0) * 7))), (0, .ref (a 3))]) hx hb dC_forget_10 rfl hl (by decide) rfl (fun ls hl => ?_)
  refine lv_aload_n hx hb dC_forget_11 rfl (lv_at hl 1 rfl) ?_
  refine gf_C_24 (v := .ref (a 14)) hx hb hA hown hK hP 3 rfl rfl dC_forget_12 ?_
  refine lv_iload_n hx hb dC_forget_15 rfl (lv_at hl 0 rfl) ?_
  refine k_clear ⟨hx, hb, hml, hown, hA⟩ (kw_C_91 hA rfl rfl ⟨Nat.le_trans (Nat.le_of_ble_eq_true rfl) hRf, Nat.le_trans (Nat.le_of_ble_eq_true rfl) hRl⟩) hK hP hD hS 14 15 1 rfl rfl (by decide) rfl (by omega) (by decide) (by decide) hl.1 (Nat.le_of_ble_eq_true rfl) ⟨by omega, by omega⟩ dC_forget_16 (fun H locs hP hD hS => ?_)
  have hP : va_P D vwA (sW a kI kL kZ (va_up u.1 0 (tm_clr (u.1 0) ((u.2.2 0) * 7)), u.2.1, u.2.2)) H := hP
  have hD : va_D (sA a) (sW a kI kL kZ (va_up u.1 0 (tm_clr (u.1 0) ((u.2.2 0) * 7)), u.2.1, u.2.2)) := hD
  refine lv_aload_n hx hb dC_forget_19 rfl (lv_at hl 1 rfl) ?_
  refine gf_C_28 (v := .ref (a 16)) hx hb hA hown hK hP 3 rfl rfl dC_forget_20 ?_
  refine lv_iload_n hx hb dC_forget_23 rfl (lv_at hl 0 rfl) ?_
  refine k_clear ⟨hx, hb, hml, hown, hA⟩ (kw_C_91 hA rfl rfl ⟨Nat.le_trans (Nat.le_of_ble_eq_true rfl) hRf, Nat.le_trans (Nat.le_of_ble_eq_true rfl) hRl⟩) hK hP hD hS 16 17 1 rfl rfl (by decide) rfl (by omega) (by decide) (by decide) hl.1 (Nat.le_of_ble_eq_true rfl) ⟨by omega, by omega⟩ dC_forget_24 (fun H locs hP hD hS => ?_)
  have hP : va_P D vwA (sW a kI kL kZ (va_up (va_up u.1 0 (tm_clr (u.1 0) ((u.2.2 0) * 7))) 1 (tm_clr (u.1 1) ((u.2.2 0) * 7)), u.2.1, u.2.2)) H := hP
  have hD : va_D (sA a) (sW a kI kL kZ (va_up (va_up u.1 0 (tm_clr (u.1 0) ((u.2.2 0) * 7))) 1 (tm_clr (u.1 1) ((u.2.2 0) * 7)), u.2.1, u.2.2)) := hD
  refine lv_aload_n hx hb dC_forget_27 rfl (lv_at hl 1 rfl) ?_
  refine gf_C_31 (v := .ref (a 18)) hx hb hA hown hK hP 3 rfl rfl dC_forget_28 ?_
  refine lv_iload_n hx hb dC_forget_31 rfl (lv_at hl 0 rfl) ?_
  refine k_clear ⟨hx, hb, hml, hown, hA⟩ (kw_C_91 hA rfl rfl ⟨Nat.le_trans (Nat.le_of_ble_eq_true rfl) hRf, Nat.le_trans (Nat.le_of_ble_eq_true rfl) hRl⟩) hK hP hD hS 18 19 1 rfl rfl (by decide) rfl (by omega) (by decide) (by decide) hl.1 (Nat.le_of_ble_eq_true rfl) ⟨by omega, by omega⟩ dC_forget_32 (fun H locs hP hD hS => ?_)
  have hP : va_P D vwA (sW a kI kL kZ (va_up (va_up (va_up u.1 0 (tm_clr (u.1 0) ((u.2.2 0) * 7))) 1 (tm_clr (u.1 1) ((u.2.2 0) * 7))) 2 (tm_clr (u.1 2) ((u.2.2 0) * 7)), u.2.1, u.2.2)) H := hP
  have hD : va_D (sA a) (sW a kI kL kZ (va_up (va_up (va_up u.1 0 (tm_clr (u.1 0) ((u.2.2 0) * 7))) 1 (tm_clr (u.1 1) ((u.2.2 0) * 7))) 2 (tm_clr (u.1 2) ((u.2.2 0) * 7)), u.2.1, u.2.2)) := hD
  refine lv_aload_n hx hb dC_forget_35 rfl (lv_at hl 1 rfl) ?_
  refine gf_C_34 (v := .ref (a 20)) hx hb hA hown hK hP 3 rfl rfl dC_forget_36 ?_
  refine lv_iconst (v := nI 1) hx hb dC_forget_39 (by decide +kernel) ?_
  refine k_clear ⟨hx, hb, hml, hown, hA⟩ (kw_C_91 hA rfl rfl ⟨Nat.le_trans (Nat.le_of_ble_eq_true rfl) hRf, Nat.le_trans (Nat.le_of_ble_eq_true rfl) hRl⟩) hK hP hD hS 20 21 1 rfl rfl (by decide) rfl (by omega) (by decide) (by decide) hl.1 (Nat.le_of_ble_eq_true rfl) ⟨by omega, by omega⟩ dC_forget_40 (fun H locs hP hD hS => ?_)
  have hP : va_P D vwA (sW a kI kL kZ (va_up (va_up (va_up (va_up u.1 0 (tm_clr (u.1 0) ((u.2.2 0) * 7))) 1 (tm_clr (u.1 1) ((u.2.2 0) * 7))) 2 (tm_clr (u.1 2) ((u.2.2 0) * 7))) 3 (tm_clr (u.1 3) 1), u.2.1, u.2.2)) H := hP
  have hD : va_D (sA a) (sW a kI kL kZ (va_up (va_up (va_up (va_up u.1 0 (tm_clr (u.1 0) ((u.2.2 0) * 7))) 1 (tm_clr (u.1 1) ((u.2.2 0) * 7))) 2 (tm_clr (u.1 2) ((u.2.2 0) * 7))) 3 (tm_clr (u.1 3) 1), u.2.1, u.2.2)) := hD
  refine lv_aload_n hx hb dC_forget_43 rfl (lv_at hl 1 rfl) ?_
  refine gf_C_37 (v := .ref (a 22)) hx hb hA hown hK hP 3 rfl rfl dC_forget_44 ?_
  refine lv_aload_n hx hb dC_forget_47 rfl (lv_at hl 1 rfl) ?_
  refine gf_C_11 (v := .ref (a 1)) hx hb hA hown hK hP 3 rfl rfl dC_forget_48 ?_
  refine ks_rv ⟨hx, hb, hml, hown, hA⟩ (c_size l D a kI kL kZ (va_up (va_up (va_up (va_up u.1 0 (tm_clr (u.1 0) ((u.2.2 0) * 7))) 1 (tm_clr (u.1 1) ((u.2.2 0) * 7))) 2 (tm_clr (u.1 2) ((u.2.2 0) * 7))) 3 (tm_clr (u.1 3) 1), u.2.1, u.2.2)  ) (kw_C_82 hA rfl rfl ⟨Nat.le_trans (Nat.le_of_ble_eq_true rfl) hRf, Nat.le_trans (Nat.le_of_ble_eq_true rfl) hRl⟩) hK hP hS 1 1 rfl rfl rfl hl.1 (Nat.le_of_ble_eq_true rfl) ⟨by omega, by omega⟩ dC_forget_51 rfl (fun H locs hP hS => ?_)
  refine tq_i (y := nI (u.2.2 0)) rfl ?_
  refine k_clear ⟨hx, hb, hml, hown, hA⟩ (kw_C_91 hA rfl rfl ⟨Nat.le_trans (Nat.le_of_ble_eq_true rfl) hRf, Nat.le_trans (Nat.le_of_ble_eq_true rfl) hRl⟩) hK hP hD hS 22 23 1 rfl rfl (by decide) rfl (by omega) (by decide) (by decide) hl.1 (Nat.le_of_ble_eq_true rfl) ⟨by omega, by omega⟩ dC_forget_54 (fun H locs hP hD hS => ?_)
  have hP : va_P D vwA (sW a kI kL kZ (va_up (va_up (va_up (va_up (va_up u.1 0 (tm_clr (u.1 0) ((u.2.2 0) * 7))) 1 (tm_clr (u.1 1) ((u.2.2 0) * 7))) 2 (tm_clr (u.1 2) ((u.2.2 0) * 7))) 3 (tm_clr (u.1 3) 1)) 4 (tm_clr (u.1 4) (u.2.2 0)), u.2.1, u.2.2)) H := hP
  have hD : va_D (sA a) (sW a kI kL kZ (va_up (va_up (va_up (va_up (va_up u.1 0 (tm_clr (u.1 0) ((u.2.2 0) * 7))) 1 (tm_clr (u.1 1) ((u.2.2 0) * 7))) 2 (tm_clr (u.1 2) ((u.2.2 0) * 7))) 3 (tm_clr (u.1 3) 1)) 4 (tm_clr (u.1 4) (u.2.2 0)), u.2.1, u.2.2)) := hD
  refine lv_aload_n hx hb dC_forget_57 rfl (lv_at hl 1 rfl) ?_
  refine gf_C_40 (v := .ref (a 24)) hx hb hA hown hK hP 3 rfl rfl dC_forget_58 ?_
  refine lv_bipush (v := nI 6) hx hb dC_forget_61 (by decide +kernel) ?_
  refine k_clear ⟨hx, hb, hml, hown, hA⟩ (kw_C_91 hA rfl rfl ⟨Nat.le_trans (Nat.le_of_ble_eq_true rfl) hRf, Nat.le_trans (Nat.le_of_ble_eq_true rfl) hRl⟩) hK hP hD hS 24 25 1 rfl rfl (by decide) rfl (by omega) (by decide) (by decide) hl.1 (Nat.le_of_ble_eq_true rfl) ⟨by omega, by omega⟩ dC_forget_63 (fun H locs hP hD hS => ?_)
  have hP : va_P D vwA (sW a kI kL kZ (va_up (va_up (va_up (va_up (va_up (va_up u.1 0 (tm_clr (u.1 0) ((u.2.2 0) * 7))) 1 (tm_clr (u.1 1) ((u.2.2 0) * 7))) 2 (tm_clr (u.1 2) ((u.2.2 0) * 7))) 3 (tm_clr (u.1 3) 1)) 4 (tm_clr (u.1 4) (u.2.2 0))) 5 (tm_clr (u.1 5) 6), u.2.1, u.2.2)) H := hP
  have hD : va_D (sA a) (sW a kI kL kZ (va_up (va_up (va_up (va_up (va_up (va_up u.1 0 (tm_clr (u.1 0) ((u.2.2 0) * 7))) 1 (tm_clr (u.1 1) ((u.2.2 0) * 7))) 2 (tm_clr (u.1 2) ((u.2.2 0) * 7))) 3 (tm_clr (u.1 3) 1)) 4 (tm_clr (u.1 4) (u.2.2 0))) 5 (tm_clr (u.1 5) 6), u.2.1, u.2.2)) := hD
  refine lv_aload_n hx hb dC_forget_66 rfl (lv_at hl 1 rfl) ?_
  refine gf_C_43 (v := .ref (a 26)) hx hb hA hown hK hP 3 rfl rfl dC_forget_67 ?_
  refine lv_bipush (v := nI 36) hx hb dC_forget_70 (by decide +kernel) ?_
  refine k_clear ⟨hx, hb, hml, hown, hA⟩ (kw_C_91 hA rfl rfl ⟨Nat.le_trans (Nat.le_of_ble_eq_true rfl) hRf, Nat.le_trans (Nat.le_of_ble_eq_true rfl) hRl⟩) hK hP hD hS 26 27 1 rfl rfl (by decide) rfl (by omega) (by decide) (by decide) hl.1 (Nat.le_of_ble_eq_true rfl) ⟨by omega, by omega⟩ dC_forget_72 (fun H locs hP hD hS => ?_)
  have hP : va_P D vwA (sW a kI kL kZ (va_up (va_up (va_up (va_up (va_up (va_up (va_up u.1 0 (tm_clr (u.1 0) ((u.2.2 0) * 7))) 1 (tm_clr (u.1 1) ((u.2.2 0) * 7))) 2 (tm_clr (u.1 2) ((u.2.2 0) * 7))) 3 (tm_clr (u.1 3) 1)) 4 (tm_clr (u.1 4) (u.2.2 0))) 5 (tm_clr (u.1 5) 6)) 6 (tm_clr (u.1 6) 36), u.2.1, u.2.2)) H := hP
  have hD : va_D (sA a) (sW a kI kL kZ (va_up (va_up (va_up (va_up (va_up (va_up (va_up u.1 0 (tm_clr (u.1 0) ((u.2.2 0) * 7))) 1 (tm_clr (u.1 1) ((u.2.2 0) * 7))) 2 (tm_clr (u.1 2) ((u.2.2 0) * 7))) 3 (tm_clr (u.1 3) 1)) 4 (tm_clr (u.1 4) (u.2.2 0))) 5 (tm_clr (u.1 5) 6)) 6 (tm_clr (u.1 6) 36), u.2.1, u.2.2)) := hD
  refine lv_aload_n hx hb dC_forget_75 rfl (lv_at hl 1 rfl) ?_
  refine lv_aload_n hx hb dC_forget_76 rfl (lv_at hl 1 rfl) ?_
  refine gf_C_11 (v := .ref (a 1)) hx hb hA hown hK hP 3 rfl rfl dC_forget_77 ?_
  refine ks_rv ⟨hx, hb, hml, hown, hA⟩ (c_size l D a kI kL kZ (va_up (va_up (va_up (va_up (va_up (va_up (va_up u.1 0 (tm_clr (u.1 0) ((u.2.2 0) * 7))) 1 (tm_clr (u.1 1) ((u.2.2 0) * 7))) 2 (tm_clr (u.1 2) ((u.2.2 0) * 7))) 3 (tm_clr (u.1 3) 1)) 4 (tm_clr (u.1 4) (u.2.2 0))) 5 (tm_clr (u.1 5) 6)) 6 (tm_clr (u.1 6) 36), u.2.1, u.2.2)  ) (kw_C_82 hA rfl rfl ⟨Nat.le_trans (Nat.le_of_ble_eq_true rfl) hRf, Nat.le_trans (Nat.le_of_ble_eq_true rfl) hRl⟩) hK hP hS 1 1 rfl rfl rfl hl.1 (Nat.le_of_ble_eq_true rfl) ⟨by omega, by omega⟩ dC_forget_80 rfl (fun H locs hP hS => ?_)
  refine tq_i (y := nI (u.2.2 0)) rfl ?_
  refine pf_C_46 (v := .int (nI (u.2.2 0))) hx hb hA hown hK hP hD hS 3 rfl rfl rfl (Nat.le_of_ble_eq_true rfl) dC_forget_83 (fun H locs hP hD hS => ?_)
  have hP : va_P D vwA (sW a kI kL kZ (va_up (va_up (va_up (va_up (va_up (va_up (va_up u.1 0 (tm_clr (u.1 0) ((u.2.2 0) * 7))) 1 (tm_clr (u.1 1) ((u.2.2 0) * 7))) 2 (tm_clr (u.1 2) ((u.2.2 0) * 7))) 3 (tm_clr (u.1 3) 1)) 4 (tm_clr (u.1 4) (u.2.2 0))) 5 (tm_clr (u.1 5) 6)) 6 (tm_clr (u.1 6) 36), u.2.1, va_up u.2.2 4 (u.2.2 0))) H := hP
  have hD : va_D (sA a) (sW a kI kL kZ (va_up (va_up (va_up (va_up (va_up (va_up (va_up u.1 0 (tm_clr (u.1 0) ((u.2.2 0) * 7))) 1 (tm_clr (u.1 1) ((u.2.2 0) * 7))) 2 (tm_clr (u.1 2) ((u.2.2 0) * 7))) 3 (tm_clr (u.1 3) 1)) 4 (tm_clr (u.1 4) (u.2.2 0))) 5 (tm_clr (u.1 5) 6)) 6 (tm_clr (u.1 6) 36), u.2.1, va_up u.2.2 4 (u.2.2 0))) := hD
  refine lv_aload_n hx hb dC_forget_86 rfl (lv_at hl 1 rfl) ?_
  refine lv_iconst (v := nI 0) hx hb dC_forget_87 (by decide +kernel) ?_
  refine pf_C_50 (v := .int (nI 0)) hx hb hA hown hK hP hD hS 3 rfl rfl rfl (Nat.le_of_ble_eq_true rfl) dC_forget_88 (fun H locs hP hD hS => ?_)
  have hP : va_P D vwA (sW a kI kL kZ (va_up (va_up (va_up (va_up (va_up (va_up (va_up u.1 0 (tm_clr (u.1 0) ((u.2.2 0) * 7))) 1 (tm_clr (u.1 1) ((u.2.2 0) * 7))) 2 (tm_clr (u.1 2) ((u.2.2 0) * 7))) 3 (tm_clr (u.1 3) 1)) 4 (tm_clr (u.1 4) (u.2.2 0))) 5 (tm_clr (u.1 5) 6)) 6 (tm_clr (u.1 6) 36), u.2.1, va_up (va_up u.2.2 4 (u.2.2 0)) 5 0)) H := hP
  have hD : va_D (sA a) (sW a kI kL kZ (va_up (va_up (va_up (va_up (va_up (va_up (va_up u.1 0 (tm_clr (u.1 0) ((u.2.2 0) * 7))) 1 (tm_clr (u.1 1) ((u.2.2 0) * 7))) 2 (tm_clr (u.1 2) ((u.2.2 0) * 7))) 3 (tm_clr (u.1 3) 1)) 4 (tm_clr (u.1 4) (u.2.2 0))) 5 (tm_clr (u.1 5) 6)) 6 (tm_clr (u.1 6) 36), u.2.1, va_up (va_up u.2.2 4 (u.2.2 0)) 5 0)) := hD
  refine lv_aload_n hx hb dC_forget_91 rfl (lv_at hl 1 rfl) ?_
  refine lv_iconst (v := nI 0) hx hb dC_forget_92 (by decide +kernel) ?_
  refine pf_C_53 (v := .int (nI 0)) hx hb hA hown hK hP hD hS 3 rfl rfl rfl (Nat.le_of_ble_eq_true rfl) dC_forget_93 (fun H locs hP hD hS => ?_)
  have hP : va_P D vwA (sW a kI kL kZ (va_up (va_up (va_up (va_up (va_up (va_up (va_up u.1 0 (tm_clr (u.1 0) ((u.2.2 0) * 7))) 1 (tm_clr (u.1 1) ((u.2.2 0) * 7))) 2 (tm_clr (u.1 2) ((u.2.2 0) * 7))) 3 (tm_clr (u.1 3) 1)) 4 (tm_clr (u.1 4) (u.2.2 0))) 5 (tm_clr (u.1 5) 6)) 6 (tm_clr (u.1 6) 36), u.2.1, va_up (va_up (va_up u.2.2 4 (u.2.2 0)) 5 0) 6 0)) H := hP
  have hD : va_D (sA a) (sW a kI kL kZ (va_up (va_up (va_up (va_up (va_up (va_up (va_up u.1 0 (tm_clr (u.1 0) ((u.2.2 0) * 7))) 1 (tm_clr (u.1 1) ((u.2.2 0) * 7))) 2 (tm_clr (u.1 2) ((u.2.2 0) * 7))) 3 (tm_clr (u.1 3) 1)) 4 (tm_clr (u.1 4) (u.2.2 0))) 5 (tm_clr (u.1 5) 6)) 6 (tm_clr (u.1 6) 36), u.2.1, va_up (va_up (va_up u.2.2 4 (u.2.2 0)) 5 0) 6 0)) := hD
  subst hQe
  exact W.vret hx hb hr (fun t ht hW => ⟨⟨(va_up (va_up (va_up (va_up (va_up (va_up (va_up u.1 0 (tm_clr (u.1 0) ((u.2.2 0) * 7))) 1 (tm_clr (u.1 1) ((u.2.2 0) * 7))) 2 (tm_clr (u.1 2) ((u.2.2 0) * 7))) 3 (tm_clr (u.1 3) 1)) 4 (tm_clr (u.1 4) (u.2.2 0))) 5 (tm_clr (u.1 5) 6)) 6 (tm_clr (u.1 6) 36), u.2.1, va_up (va_up (va_up u.2.2 4 (u.2.2 0)) 5 0) 6 0), rfl, rfl, tq_hp ht hP⟩, hS.F ht⟩) hS.2.2 dC_forget_96
set_option maxHeartbeats 4000000 in
set_option maxRecDepth 100000 in
/-- c_reaches -/
theorem c_reaches (l : Launch) (D : va_G) (a : Nat → Nat) (kI kL kZ : ClassId) (u : sU) (x i y : Nat) (hx1 : x < 160) (hi : i < 6) (hy : y < 160) : Met l yC_reaches (wC_reaches :: wA) ({ frames := 2, cells := 0, slots := 0, locals := 46 }) (va_Pc [.ref (a 3), .int (nI x), .int (nI i), .int (nI y)] (tq_rB D vwA (sW a kI kL kZ u) (sT kI kL kZ))) (va_Qi (fun r (_ : Unit) => ∃ b : Bool, r = bI b ∧ (b = true ↔ u.1 0 (x * 7 + 6) 1 = true ∨ ∃ d, d < 160 ∧ u.1 0 (x * 7 + i) d = true ∧ u.1 0 (d * 7 + 6) y = true)) (fun _ _ => True) (fun _ => False)) 0 0 (fun _ => False) := by
  refine Met.ofW (cc := bC_reaches) (maxL := 6) (ret := (some .boolean)) (by decide +kernel) rfl ?_
  intro p e s m args below meth c s₁ B1 hml hv
  obtain ⟨rfl, hP, hK⟩ := hv
  have hx := B1.exec
  have hb := B1.bytes
  have hr := B1.returns
  have hA : ∀ w ∈ wA, w.before ([.ref (a 3), .int (nI x), .int (nI i), .int (nI y)] : List Value).toArray s = true := fun w h => atoms_spec (ws := wC_reaches :: wA) B1.pre w (List.mem_cons_of_mem _ h)
  have hown : s.vm.findClass RcC = some m.cls := findClass_of_methodNamed B1.named
  have hlocks := B1.notSynchronized
  have hS : va_S (fun _ => False) s.heap s.heap [] := va_S.rf
  have hl := lv_entry ([.ref (a 3), .int (nI x), .int (nI i), .int (nI y)]) (n := 6) (Nat.le_of_ble_eq_true rfl)
  rw [lg_entry_eq]
  generalize (lg_sl ([.ref (a 3), .int (nI x), .int (nI i), .int (nI y)]) ++ List.replicate (6 - (lg_sl ([.ref (a 3), .int (nI x), .int (nI i), .int (nI y)])).length) Slot.unset).toArray = ls at hl ⊢
  have hl : lv_has ls 6 [(0, .ref (a 3)), (1, .int (nI x)), (2, .int (nI i)), (3, .int (nI y))] := hl
  refine tq_gen (fun R Q hRe hQe => ?_)
  have hRf : 2 ≤ R.frames := by rw [hRe]; exact Nat.le_of_ble_eq_true rfl
  have hRl : 46 ≤ R.locals := by rw [hRe]; exact Nat.le_of_ble_eq_true rfl
  have hRc : 0 ≤ R.cells := by rw [hRe]; exact Nat.le_of_ble_eq_true rfl
  have hRs : 0 ≤ R.slots := by rw [hRe]; exact Nat.le_of_ble_eq_true rfl
  refine lv_aload_n hx hb dC_reaches_0 rfl (lv_at hl 0 rfl) ?_
  refine lv_iload_n hx hb dC_reaches_1 rfl (lv_at hl 1 rfl) ?_
  refine ks_rv ⟨hx, hb, hml, hown, hA⟩ (c_isEmpty l D a kI kL kZ u x (by omega)) (kw_C_65 hA rfl rfl ⟨Nat.le_trans (Nat.le_of_ble_eq_true rfl) hRf, Nat.le_trans (Nat.le_of_ble_eq_true rfl) hRl⟩) hK hP hS 3 3 rfl rfl rfl hl.1 (Nat.le_of_ble_eq_true rfl) ⟨by omega, by omega⟩ dC_reaches_2 rfl (fun H locs hP hS => ?_)
  refine tq_bf hx hb dC_reaches_5 (tgt := 10) (by decide) (fun h5 => ?_) (fun h5 => ?_)
  · refine lv_iload_n hx hb dC_reaches_10 rfl (lv_at hl 1 rfl) ?_
    refine lv_iload_n hx hb dC_reaches_11 rfl (lv_at hl 2 rfl) ?_
    refine ks_s ⟨hx, hb, hml, hown, hA⟩ (c_row l x i) (kw_C_57 hA rfl rfl ⟨Nat.le_trans (Nat.le_of_ble_eq_true rfl) hRf, Nat.le_trans (Nat.le_of_ble_eq_true rfl) hRl⟩) hP hS rfl hl.1 (Nat.le_of_ble_eq_true rfl) ⟨by omega, by omega⟩ dC_reaches_12 rfl (fun H locs hP hS => ?_)
    refine lv_istore (lv' := [(4, .int (nI (x * 7 + i))), (0, .ref (a 3)), (1, .int (nI x)), (2, .int (nI i)), (3, .int (nI y))]) hx hb dC_reaches_15 hl (by decide) rfl (fun ls hl => ?_)
    refine lv_aload_n hx hb dC_reaches_17 rfl (lv_at hl 1 rfl) ?_
    refine gf_C_24 (v := .ref (a 14)) hx hb hA hown hK hP 3 rfl rfl dC_reaches_18 ?_
    refine lv_iload hx hb dC_reaches_21 (lv_at hl 0 rfl) ?_
    refine lv_iconst (v := nI 0) hx hb dC_reaches_23 (by decide +kernel) ?_
    refine k_next ⟨hx, hb, hml, hown, hA⟩ (kw_C_69 hA rfl rfl ⟨Nat.le_trans (Nat.le_of_ble_eq_true rfl) hRf, Nat.le_trans (Nat.le_of_ble_eq_true rfl) hRl⟩) hK hP hS 14 15 1 rfl rfl rfl (by decide) (by omega) (by decide) (by decide) (by omega) (by omega) hl.1 (Nat.le_of_ble_eq_true rfl) ⟨by omega, by omega⟩ dC_reaches_24 (fun r1 H locs hr1 hP hS => ?_)
    refine lv_istore (lv' := [(5, .int (nI r1)), (4, .int (nI (x * 7 + i))), (0, .ref (a 3)), (1, .int (nI x)), (2, .int (nI i)), (3, .int (nI y))]) hx hb dC_reaches_27 hl (by decide) rfl (fun ls hl => ?_)
    have lp : ∀ (fu : Nat) (r : Nat) (ls : Array Slot) (H : Heap) (locs : List Loc), (∀ b, b < r → b < 160 → u.1 0 (x * 7 + i) b = true → u.1 0 (b * 7 + 6) y = false) → (r < 160 → u.1 0 (x * 7 + i) r = true) → r < 224 → va_P D vwA (sW a kI kL kZ u) H → va_S (fun _ => False) s.heap H locs → 224 - r < fu → lv_has ls 6 [(5, .int (nI r)), (4, .int (nI (x * 7 + i))), (0, .ref (a 3)), (1, .int (nI x)), (2, .int (nI i)), (3, .int (nI y))] → W p l e R s m ([.ref (a 3), .int (nI x), .int (nI i), .int (nI y)] : List Value).toArray below meth c H locs 0 0 Q (F0 m 29 ls []) := by
      intro fu
      induction fu with
      | zero => intros; omega
      | succ fu ih29 =>
        intro r ls H locs g1 g2 g3 hP hS hfu hl
        refine lv_iload hx hb dC_reaches_29 (lv_at hl 0 rfl) ?_
        refine lv_sipush (v := nI 160) hx hb dC_reaches_31 (by decide +kernel) ?_
        refine tq_ge hx hb dC_reaches_34 (tgt := 75) (by decide) (by omega) (by omega) (fun h34 => ?_) (fun h34 => ?_)
        · refine lv_iconst (v := nI 0) hx hb dC_reaches_75 (by decide +kernel) ?_
          subst hQe
          exact W.zret (v := nI 0) (ty := .boolean) hx hb hr rfl (fun t ht hW => ⟨⟨_, (), rfl, ⟨false, rfl, (fun z => (by cases z)), fun z => z.elim (fun z => (by rw [h5] at z; cases z)) (fun ⟨d, a1, a2, a3⟩ => (by rw [g1 d (by omega) a1 a2] at a3; cases a3))⟩, trivial⟩, hS.F ht⟩) hS.2.2 dC_reaches_76
        · refine lv_aload_n hx hb dC_reaches_37 rfl (lv_at hl 2 rfl) ?_
          refine gf_C_24 (v := .ref (a 14)) hx hb hA hown hK hP 3 rfl rfl dC_reaches_38 ?_
          refine lv_iload hx hb dC_reaches_41 (lv_at hl 0 rfl) ?_
          refine lv_bipush (v := nI 6) hx hb dC_reaches_43 (by decide +kernel) ?_
          refine ks_s ⟨hx, hb, hml, hown, hA⟩ (c_row l r 6) (kw_C_57 hA rfl rfl ⟨Nat.le_trans (Nat.le_of_ble_eq_true rfl) hRf, Nat.le_trans (Nat.le_of_ble_eq_true rfl) hRl⟩) hP hS rfl hl.1 (Nat.le_of_ble_eq_true rfl) ⟨by omega, by omega⟩ dC_reaches_45 rfl (fun H locs hP hS => ?_)
          refine lv_iload_n hx hb dC_reaches_48 rfl (lv_at hl 5 rfl) ?_
          refine k_holds ⟨hx, hb, hml, hown, hA⟩ (kw_C_61 hA rfl rfl ⟨Nat.le_trans (Nat.le_of_ble_eq_true rfl) hRf, Nat.le_trans (Nat.le_of_ble_eq_true rfl) hRl⟩) hK hP hS 14 15 1 rfl rfl rfl (by omega) (by omega) (by decide) (by decide) hl.1 (Nat.le_of_ble_eq_true rfl) ⟨by omega, by omega⟩ dC_reaches_49 (fun H locs hP hS => ?_)
          refine tq_bf hx hb dC_reaches_52 (tgt := 57) (by decide) (fun h52 => ?_) (fun h52 => ?_)
          · refine lv_aload_n hx hb dC_reaches_57 rfl (lv_at hl 2 rfl) ?_
            refine gf_C_24 (v := .ref (a 14)) hx hb hA hown hK hP 3 rfl rfl dC_reaches_58 ?_
            refine lv_iload hx hb dC_reaches_61 (lv_at hl 1 rfl) ?_
            refine lv_iload hx hb dC_reaches_63 (lv_at hl 0 rfl) ?_
            refine lv_iconst (v := nI 1) hx hb dC_reaches_65 (by decide +kernel) ?_
            refine tq_iadd hx hb dC_reaches_66 ?_
            refine k_next ⟨hx, hb, hml, hown, hA⟩ (kw_C_69 hA rfl rfl ⟨Nat.le_trans (Nat.le_of_ble_eq_true rfl) hRf, Nat.le_trans (Nat.le_of_ble_eq_true rfl) hRl⟩) hK hP hS 14 15 1 rfl rfl rfl (by decide) (by omega) (by decide) (by decide) (by omega) (by omega) hl.1 (Nat.le_of_ble_eq_true rfl) ⟨by omega, by omega⟩ dC_reaches_67 (fun r2 H locs hr2 hP hS => ?_)
            refine lv_istore (lv' := [(5, .int (nI r2)), (4, .int (nI (x * 7 + i))), (0, .ref (a 3)), (1, .int (nI x)), (2, .int (nI i)), (3, .int (nI y))]) hx hb dC_reaches_70 hl (by decide) rfl (fun ls hl => ?_)
            refine lv_goto hx hb dC_reaches_72 (tgt := 29) (by decide) ?_
            have hge := hr2.1
            have hlt := hr2.2.1
            exact ih29 r2 ls H locs (tm_nx_step g1 h52 hr2) hr2.2.2.2 (by omega) hP hS (by omega) (lv_sub hl [0, 1, 2, 3, 4, 5] rfl)
          · refine lv_iconst (v := nI 1) hx hb dC_reaches_55 (by decide +kernel) ?_
            subst hQe
            exact W.zret (v := nI 1) (ty := .boolean) hx hb hr rfl (fun t ht hW => ⟨⟨_, (), rfl, ⟨true, rfl, fun _ => Or.inr ⟨_, h34, g2 h34, h52⟩, fun _ => rfl⟩, trivial⟩, hS.F ht⟩) hS.2.2 dC_reaches_56
    exact lp _ r1 ls _ _ (tm_nx_first hr1) hr1.2.2.2 (by have := hr1.2.1; omega) hP hS (Nat.lt_succ_self _) (lv_sub hl [0, 1, 2, 3, 4, 5] rfl)
  · refine lv_iconst (v := nI 1) hx hb dC_reaches_8 (by decide +kernel) ?_
    subst hQe
    exact W.zret (v := nI 1) (ty := .boolean) hx hb hr rfl (fun t ht hW => ⟨⟨_, (), rfl, ⟨true, rfl, fun _ => Or.inl h5, fun _ => rfl⟩, trivial⟩, hS.F ht⟩) hS.2.2 dC_reaches_9
set_option maxHeartbeats 4000000 in
set_option maxRecDepth 100000 in
/-- c_admitBoth -/
theorem c_admitBoth (l : Launch) (D : va_G) (a : Nat → Nat) (kI kL kZ : ClassId) (u : sU) (N : Nat) (kd fa fb : Nat → Nat) (htm : s_tm u N kd fa fb) (htr : s_tr u) (k : Nat) (hk : k < N) (hk2 : kd k = 2) : Met l yC_admitBoth (wC_admitBoth :: wA) ({ frames := 2, cells := 0, slots := 0, locals := 49 }) (va_Pc [.ref (a 3), .int (nI k)] (tq_wB D vwA (sW a kI kL kZ u) (sT kI kL kZ))) (va_Qv (fun (u' : sU) => s_ext u u' ∧ s_snd u u' (fun (G : Nat → Nat → Prop) => ∀ z, z < 160 → G (z * 7 + 6) (fa k) → G (z * 7 + 6) (fb k) → G (z * 7 + 6) k) ∧ ∀ b, b < 160 → (u.1 0 (b * 7 + 6) (fa k) = true → u.1 0 (b * 7 + 6) (fb k) = true → u'.1 0 (b * 7 + 6) k = true)) (fun u' t => va_P D vwA (sW a kI kL kZ u') t.heap) (sA a)) 0 0 (sA a) := by
  refine Met.ofW (cc := bC_admitBoth) (maxL := 4) (ret := none) (by decide +kernel) rfl ?_
  intro p e s m args below meth c s₁ B1 hml hv
  obtain ⟨rfl, hP, hK, hD0⟩ := hv
  have hx := B1.exec
  have hb := B1.bytes
  have hr := B1.returns
  have hA : ∀ w ∈ wA, w.before ([.ref (a 3), .int (nI k)] : List Value).toArray s = true := fun w h => atoms_spec (ws := wC_admitBoth :: wA) B1.pre w (List.mem_cons_of_mem _ h)
  have hown : s.vm.findClass RcC = some m.cls := findClass_of_methodNamed B1.named
  have hlocks := B1.notSynchronized
  have hS : va_S (sA a) s.heap s.heap [] := va_S.rf
  have hl := lv_entry ([.ref (a 3), .int (nI k)]) (n := 4) (Nat.le_of_ble_eq_true rfl)
  rw [lg_entry_eq]
  generalize (lg_sl ([.ref (a 3), .int (nI k)]) ++ List.replicate (4 - (lg_sl ([.ref (a 3), .int (nI k)])).length) Slot.unset).toArray = ls at hl ⊢
  have hl : lv_has ls 4 [(0, .ref (a 3)), (1, .int (nI k))] := hl
  refine tq_gen (fun R Q hRe hQe => ?_)
  have hRf : 2 ≤ R.frames := by rw [hRe]; exact Nat.le_of_ble_eq_true rfl
  have hRl : 49 ≤ R.locals := by rw [hRe]; exact Nat.le_of_ble_eq_true rfl
  have hRc : 0 ≤ R.cells := by rw [hRe]; exact Nat.le_of_ble_eq_true rfl
  have hRs : 0 ≤ R.slots := by rw [hRe]; exact Nat.le_of_ble_eq_true rfl
  have hD := sA_D hD0
  have hN := tm_N htm
  have hb2 := tm_2 htm hk hk2
  refine lv_aload_n hx hb dC_admitBoth_0 rfl (lv_at hl 0 rfl) ?_
  refine gf_C_11 (v := .ref (a 1)) hx hb hA hown hK hP 3 rfl rfl dC_admitBoth_1 ?_
  refine lv_iload_n hx hb dC_admitBoth_4 rfl (lv_at hl 1 rfl) ?_
  refine ks_rv ⟨hx, hb, hml, hown, hA⟩ (c_left l D a kI kL kZ u k (by omega)) (kw_C_164 hA rfl rfl ⟨Nat.le_trans (Nat.le_of_ble_eq_true rfl) hRf, Nat.le_trans (Nat.le_of_ble_eq_true rfl) hRl⟩) hK hP hS 1 1 rfl rfl rfl hl.1 (Nat.le_of_ble_eq_true rfl) ⟨by omega, by omega⟩ dC_admitBoth_5 rfl (fun H locs hP hS => ?_)
  refine tq_i hb2.1 ?_
  refine lv_bipush (v := nI 6) hx hb dC_admitBoth_8 (by decide +kernel) ?_
  refine ks_s ⟨hx, hb, hml, hown, hA⟩ (c_row l (fa k) 6) (kw_C_57 hA rfl rfl ⟨Nat.le_trans (Nat.le_of_ble_eq_true rfl) hRf, Nat.le_trans (Nat.le_of_ble_eq_true rfl) hRl⟩) hP hS rfl hl.1 (Nat.le_of_ble_eq_true rfl) ⟨by omega, by omega⟩ dC_admitBoth_10 rfl (fun H locs hP hS => ?_)
  refine lv_istore_n (lv' := [(2, .int (nI ((fa k) * 7 + 6))), (0, .ref (a 3)), (1, .int (nI k))]) hx hb dC_admitBoth_13 rfl hl (by decide) rfl (fun ls hl => ?_)
  refine lv_aload_n hx hb dC_admitBoth_14 rfl (lv_at hl 1 rfl) ?_
  refine gf_C_28 (v := .ref (a 16)) hx hb hA hown hK hP 3 rfl rfl dC_admitBoth_15 ?_
  refine lv_iload_n hx hb dC_admitBoth_18 rfl (lv_at hl 0 rfl) ?_
  refine lv_iconst (v := nI 0) hx hb dC_admitBoth_19 (by decide +kernel) ?_
  refine k_next ⟨hx, hb, hml, hown, hA⟩ (kw_C_69 hA rfl rfl ⟨Nat.le_trans (Nat.le_of_ble_eq_true rfl) hRf, Nat.le_trans (Nat.le_of_ble_eq_true rfl) hRl⟩) hK hP hS 16 17 1 rfl rfl rfl (by decide) (by omega) (by decide) (by decide) (by omega) (by omega) hl.1 (Nat.le_of_ble_eq_true rfl) ⟨by omega, by omega⟩ dC_admitBoth_20 (fun r1 H locs hr1 hP hS => ?_)
  refine lv_istore_n (lv' := [(3, .int (nI r1)), (2, .int (nI ((fa k) * 7 + 6))), (0, .ref (a 3)), (1, .int (nI k))]) hx hb dC_admitBoth_23 rfl hl (by decide) rfl (fun ls hl => ?_)
  have lp : ∀ (fu : Nat) (r : Nat) (v : sU) (ls : Array Slot) (H : Heap) (locs : List Loc), s_ext u v → s_snd u v (fun (G : Nat → Nat → Prop) => ∀ z, z < 160 → G (z * 7 + 6) (fa k) → G (z * 7 + 6) (fb k) → G (z * 7 + 6) k) → (∀ b, b < r → b < 160 → (u.1 0 (b * 7 + 6) (fa k) = true → u.1 0 (b * 7 + 6) (fb k) = true → v.1 0 (b * 7 + 6) k = true)) → (r < 160 → v.1 1 (fa k * 7 + 6) r = true) → r < 224 → va_P D vwA (sW a kI kL kZ v) H → va_D (sA a) (sW a kI kL kZ v) → va_S (sA a) s.heap H locs → 224 - r < fu → lv_has ls 4 [(3, .int (nI r)), (2, .int (nI ((fa k) * 7 + 6))), (0, .ref (a 3)), (1, .int (nI k))] → W p l e R s m ([.ref (a 3), .int (nI k)] : List Value).toArray below meth c H locs 0 0 Q (F0 m 24 ls []) := by
    intro fu
    induction fu with
    | zero => intros; omega
    | succ fu ih24 =>
      intro r v ls H locs g1 g2 g3 g4 g5 hP hD hS hfu hl
      refine lv_iload_n hx hb dC_admitBoth_24 rfl (lv_at hl 0 rfl) ?_
      refine lv_sipush (v := nI 160) hx hb dC_admitBoth_25 (by decide +kernel) ?_
      refine tq_ge hx hb dC_admitBoth_28 (tgt := 78) (by decide) (by omega) (by omega) (fun h28 => ?_) (fun h28 => ?_)
      · subst hQe
        exact W.vret hx hb hr (fun t ht hW => ⟨⟨v, rfl, ⟨g1, g2, fun b a1 => g3 b (by omega) a1⟩, tq_hp ht hP⟩, hS.F ht⟩) hS.2.2 dC_admitBoth_78
      · refine lv_aload_n hx hb dC_admitBoth_31 rfl (lv_at hl 2 rfl) ?_
        refine gf_C_24 (v := .ref (a 14)) hx hb hA hown hK hP 3 rfl rfl dC_admitBoth_32 ?_
        refine lv_iload_n hx hb dC_admitBoth_35 rfl (lv_at hl 0 rfl) ?_
        refine lv_bipush (v := nI 6) hx hb dC_admitBoth_36 (by decide +kernel) ?_
        refine ks_s ⟨hx, hb, hml, hown, hA⟩ (c_row l r 6) (kw_C_57 hA rfl rfl ⟨Nat.le_trans (Nat.le_of_ble_eq_true rfl) hRf, Nat.le_trans (Nat.le_of_ble_eq_true rfl) hRl⟩) hP hS rfl hl.1 (Nat.le_of_ble_eq_true rfl) ⟨by omega, by omega⟩ dC_admitBoth_38 rfl (fun H locs hP hS => ?_)
        refine lv_aload_n hx hb dC_admitBoth_41 rfl (lv_at hl 2 rfl) ?_
        refine gf_C_11 (v := .ref (a 1)) hx hb hA hown hK hP 3 rfl rfl dC_admitBoth_42 ?_
        refine lv_iload_n hx hb dC_admitBoth_45 rfl (lv_at hl 3 rfl) ?_
        refine ks_rv ⟨hx, hb, hml, hown, hA⟩ (c_right l D a kI kL kZ v k (by omega)) (kw_C_167 hA rfl rfl ⟨Nat.le_trans (Nat.le_of_ble_eq_true rfl) hRf, Nat.le_trans (Nat.le_of_ble_eq_true rfl) hRl⟩) hK hP hS 1 1 rfl rfl rfl hl.1 (Nat.le_of_ble_eq_true rfl) ⟨by omega, by omega⟩ dC_admitBoth_46 rfl (fun H locs hP hS => ?_)
        refine tq_i ((tm_2 (tm_ext htm g1) hk hk2).2.1) ?_
        refine k_holds ⟨hx, hb, hml, hown, hA⟩ (kw_C_61 hA rfl rfl ⟨Nat.le_trans (Nat.le_of_ble_eq_true rfl) hRf, Nat.le_trans (Nat.le_of_ble_eq_true rfl) hRl⟩) hK hP hS 14 15 1 rfl rfl rfl (by omega) (by omega) (by decide) (by decide) hl.1 (Nat.le_of_ble_eq_true rfl) ⟨by omega, by omega⟩ dC_admitBoth_49 (fun H locs hP hS => ?_)
        refine tq_bf hx hb dC_admitBoth_52 (tgt := 63) (by decide) (fun h52 => ?_) (fun h52 => ?_)
        · refine lv_aload_n hx hb dC_admitBoth_63 rfl (lv_at hl 2 rfl) ?_
          refine gf_C_28 (v := .ref (a 16)) hx hb hA hown hK hP 3 rfl rfl dC_admitBoth_64 ?_
          refine lv_iload_n hx hb dC_admitBoth_67 rfl (lv_at hl 1 rfl) ?_
          refine lv_iload_n hx hb dC_admitBoth_68 rfl (lv_at hl 0 rfl) ?_
          refine lv_iconst (v := nI 1) hx hb dC_admitBoth_69 (by decide +kernel) ?_
          refine tq_iadd hx hb dC_admitBoth_70 ?_
          refine k_next ⟨hx, hb, hml, hown, hA⟩ (kw_C_69 hA rfl rfl ⟨Nat.le_trans (Nat.le_of_ble_eq_true rfl) hRf, Nat.le_trans (Nat.le_of_ble_eq_true rfl) hRl⟩) hK hP hS 16 17 1 rfl rfl rfl (by decide) (by omega) (by decide) (by decide) (by omega) (by omega) hl.1 (Nat.le_of_ble_eq_true rfl) ⟨by omega, by omega⟩ dC_admitBoth_71 (fun r2 H locs hr2 hP hS => ?_)
          refine lv_istore_n (lv' := [(3, .int (nI r2)), (2, .int (nI ((fa k) * 7 + 6))), (0, .ref (a 3)), (1, .int (nI k))]) hx hb dC_admitBoth_74 rfl hl (by decide) rfl (fun ls hl => ?_)
          refine lv_goto hx hb dC_admitBoth_75 (tgt := 24) (by decide) ?_
          have hge := hr2.1
          have hlt := hr2.2.1
          exact ih24 r2 v ls H locs g1 g2 (nx_mono_step (P := fun b => (u.1 0 (b * 7 + 6) (fa k) = true → u.1 0 (b * 7 + 6) (fb k) = true → v.1 0 (b * 7 + 6) k = true)) g3 (fun a1 a2 => absurd (g1.1 _ _ a2) (by rw [h52]; decide)) hr2 (fun b a1 a2 a3 _ => absurd (g1.1 _ _ a3) (by rw [src_fact (tr_ext htr g1) a1 (by decide) (by omega) a2]; decide))) hr2.2.2.2 (by omega) hP hD hS (by omega) (lv_sub hl [0, 1, 2, 3] rfl)
        · refine lv_aload_n hx hb dC_admitBoth_55 rfl (lv_at hl 2 rfl) ?_
          refine lv_iload_n hx hb dC_admitBoth_56 rfl (lv_at hl 0 rfl) ?_
          refine lv_bipush (v := nI 6) hx hb dC_admitBoth_57 (by decide +kernel) ?_
          refine lv_iload_n hx hb dC_admitBoth_59 rfl (lv_at hl 3 rfl) ?_
          refine ks_v (wf := sW a kI kL kZ) (u := v) ⟨hx, hb, hml, hown, hA⟩ (c_add l D a kI kL kZ v r 6 k (by omega) (by omega) (by omega)) (kw_C_94 hA rfl rfl ⟨Nat.le_trans (Nat.le_of_ble_eq_true rfl) hRf, Nat.le_trans (Nat.le_of_ble_eq_true rfl) hRl⟩) hK hP hD hS (fun _ h => h) (fun u' => sW_adr u') 3 3 rfl rfl rfl hl.1 (Nat.le_of_ble_eq_true rfl) ⟨by omega, by omega⟩ dC_admitBoth_60 rfl (fun u3 H locs hu3 hP hD hS => ?_)
          refine lv_aload_n hx hb dC_admitBoth_63 rfl (lv_at hl 2 rfl) ?_
          refine gf_C_28 (v := .ref (a 16)) hx hb hA hown hK hP 3 rfl rfl dC_admitBoth_64 ?_
          refine lv_iload_n hx hb dC_admitBoth_67 rfl (lv_at hl 1 rfl) ?_
          refine lv_iload_n hx hb dC_admitBoth_68 rfl (lv_at hl 0 rfl) ?_
          refine lv_iconst (v := nI 1) hx hb dC_admitBoth_69 (by decide +kernel) ?_
          refine tq_iadd hx hb dC_admitBoth_70 ?_
          refine k_next ⟨hx, hb, hml, hown, hA⟩ (kw_C_69 hA rfl rfl ⟨Nat.le_trans (Nat.le_of_ble_eq_true rfl) hRf, Nat.le_trans (Nat.le_of_ble_eq_true rfl) hRl⟩) hK hP hS 16 17 1 rfl rfl rfl (by decide) (by omega) (by decide) (by decide) (by omega) (by omega) hl.1 (Nat.le_of_ble_eq_true rfl) ⟨by omega, by omega⟩ dC_admitBoth_71 (fun r4 H locs hr4 hP hS => ?_)
          refine lv_istore_n (lv' := [(3, .int (nI r4)), (2, .int (nI ((fa k) * 7 + 6))), (0, .ref (a 3)), (1, .int (nI k))]) hx hb dC_admitBoth_74 rfl hl (by decide) rfl (fun ls hl => ?_)
          refine lv_goto hx hb dC_admitBoth_75 (tgt := 24) (by decide) ?_
          have hge := hr4.1
          have hlt := hr4.2.1
          exact ih24 r4 u3 ls H locs (ext_trans g1 hu3.1) (snd_fact g2 hu3 (fun G h1 h2 => h2 r h28 (h1 _ _ (src_fact (tr_ext htr g1) h28 (by decide) (by omega) (g4 h28))) (h1 _ _ h52))) (nx_mono_step (P := fun b => (u.1 0 (b * 7 + 6) (fa k) = true → u.1 0 (b * 7 + 6) (fb k) = true → u3.1 0 (b * 7 + 6) k = true)) (fun b a1 a2 a3 a4 => hu3.1.1 _ _ (g3 b a1 a2 a3 a4)) (fun _ _ => (hu3.2 _ _).mpr (Or.inr ⟨rfl, rfl⟩)) hr4 (fun b a1 a2 a3 _ => absurd ((ext_trans g1 hu3.1).1 _ _ a3) (by rw [src_fact (tr_ext (tr_ext htr g1) hu3.1) a1 (by decide) (by omega) a2]; decide))) hr4.2.2.2 (by omega) hP hD hS (by omega) (lv_sub hl [0, 1, 2, 3] rfl)
  exact lp _ r1 u ls _ _ (ext_refl u) snd_refl (nx_mono_first (P := fun b => (u.1 0 (b * 7 + 6) (fa k) = true → u.1 0 (b * 7 + 6) (fb k) = true → u.1 0 (b * 7 + 6) k = true)) hr1 (fun b a1 a2 a3 _ => absurd a3 (by rw [src_fact htr a1 (by decide) (by omega) a2]; decide))) hr1.2.2.2 (by have := hr1.2.1; omega) hP hD hS (Nat.lt_succ_self _) (lv_sub hl [0, 1, 2, 3] rfl)
set_option maxHeartbeats 4000000 in
set_option maxRecDepth 100000 in
/-- c_admitSome -/
theorem c_admitSome (l : Launch) (D : va_G) (a : Nat → Nat) (kI kL kZ : ClassId) (u : sU) (N : Nat) (kd fa fb : Nat → Nat) (htm : s_tm u N kd fa fb) (htr : s_tr u) (k : Nat) (hk : k < N) (hk3 : kd k = 3) : Met l yC_admitSome (wC_admitSome :: wA) ({ frames := 3, cells := 0, slots := 0, locals := 74 }) (va_Pc [.ref (a 3), .int (nI k)] (tq_wB D vwA (sW a kI kL kZ u) (sT kI kL kZ))) (va_Qv (fun (u' : sU) => s_ext u u' ∧ s_snd u u' (fun (G : Nat → Nat → Prop) => ∀ z d, z < 160 → G (z * 7 + fa k) d → G (d * 7 + 6) (fb k) → G (z * 7 + 6) k) ∧ ∀ b, b < 160 → (u.1 0 (b * 7 + 6) (fb k) = true → ∀ z, z < 160 → u.1 0 (z * 7 + fa k) b = true → u'.1 0 (z * 7 + 6) k = true)) (fun u' t => va_P D vwA (sW a kI kL kZ u') t.heap) (sA a)) 0 0 (sA a) := by
  refine Met.ofW (cc := bC_admitSome) (maxL := 4) (ret := none) (by decide +kernel) rfl ?_
  intro p e s m args below meth c s₁ B1 hml hv
  obtain ⟨rfl, hP, hK, hD0⟩ := hv
  have hx := B1.exec
  have hb := B1.bytes
  have hr := B1.returns
  have hA : ∀ w ∈ wA, w.before ([.ref (a 3), .int (nI k)] : List Value).toArray s = true := fun w h => atoms_spec (ws := wC_admitSome :: wA) B1.pre w (List.mem_cons_of_mem _ h)
  have hown : s.vm.findClass RcC = some m.cls := findClass_of_methodNamed B1.named
  have hlocks := B1.notSynchronized
  have hS : va_S (sA a) s.heap s.heap [] := va_S.rf
  have hl := lv_entry ([.ref (a 3), .int (nI k)]) (n := 4) (Nat.le_of_ble_eq_true rfl)
  rw [lg_entry_eq]
  generalize (lg_sl ([.ref (a 3), .int (nI k)]) ++ List.replicate (4 - (lg_sl ([.ref (a 3), .int (nI k)])).length) Slot.unset).toArray = ls at hl ⊢
  have hl : lv_has ls 4 [(0, .ref (a 3)), (1, .int (nI k))] := hl
  refine tq_gen (fun R Q hRe hQe => ?_)
  have hRf : 3 ≤ R.frames := by rw [hRe]; exact Nat.le_of_ble_eq_true rfl
  have hRl : 74 ≤ R.locals := by rw [hRe]; exact Nat.le_of_ble_eq_true rfl
  have hRc : 0 ≤ R.cells := by rw [hRe]; exact Nat.le_of_ble_eq_true rfl
  have hRs : 0 ≤ R.slots := by rw [hRe]; exact Nat.le_of_ble_eq_true rfl
  have hD := sA_D hD0
  have hN := tm_N htm
  have hb3 := tm_3 htm hk hk3
  refine lv_aload_n hx hb dC_admitSome_0 rfl (lv_at hl 0 rfl) ?_
  refine gf_C_11 (v := .ref (a 1)) hx hb hA hown hK hP 3 rfl rfl dC_admitSome_1 ?_
  refine lv_iload_n hx hb dC_admitSome_4 rfl (lv_at hl 1 rfl) ?_
  refine ks_rv ⟨hx, hb, hml, hown, hA⟩ (c_right l D a kI kL kZ u k (by omega)) (kw_C_167 hA rfl rfl ⟨Nat.le_trans (Nat.le_of_ble_eq_true rfl) hRf, Nat.le_trans (Nat.le_of_ble_eq_true rfl) hRl⟩) hK hP hS 1 1 rfl rfl rfl hl.1 (Nat.le_of_ble_eq_true rfl) ⟨by omega, by omega⟩ dC_admitSome_5 rfl (fun H locs hP hS => ?_)
  refine tq_i hb3.2.1 ?_
  refine lv_bipush (v := nI 6) hx hb dC_admitSome_8 (by decide +kernel) ?_
  refine ks_s ⟨hx, hb, hml, hown, hA⟩ (c_row l (fb k) 6) (kw_C_57 hA rfl rfl ⟨Nat.le_trans (Nat.le_of_ble_eq_true rfl) hRf, Nat.le_trans (Nat.le_of_ble_eq_true rfl) hRl⟩) hP hS rfl hl.1 (Nat.le_of_ble_eq_true rfl) ⟨by omega, by omega⟩ dC_admitSome_10 rfl (fun H locs hP hS => ?_)
  refine lv_istore_n (lv' := [(2, .int (nI ((fb k) * 7 + 6))), (0, .ref (a 3)), (1, .int (nI k))]) hx hb dC_admitSome_13 rfl hl (by decide) rfl (fun ls hl => ?_)
  refine lv_aload_n hx hb dC_admitSome_14 rfl (lv_at hl 1 rfl) ?_
  refine gf_C_28 (v := .ref (a 16)) hx hb hA hown hK hP 3 rfl rfl dC_admitSome_15 ?_
  refine lv_iload_n hx hb dC_admitSome_18 rfl (lv_at hl 0 rfl) ?_
  refine lv_iconst (v := nI 0) hx hb dC_admitSome_19 (by decide +kernel) ?_
  refine k_next ⟨hx, hb, hml, hown, hA⟩ (kw_C_69 hA rfl rfl ⟨Nat.le_trans (Nat.le_of_ble_eq_true rfl) hRf, Nat.le_trans (Nat.le_of_ble_eq_true rfl) hRl⟩) hK hP hS 16 17 1 rfl rfl rfl (by decide) (by omega) (by decide) (by decide) (by omega) (by omega) hl.1 (Nat.le_of_ble_eq_true rfl) ⟨by omega, by omega⟩ dC_admitSome_20 (fun r1 H locs hr1 hP hS => ?_)
  refine lv_istore_n (lv' := [(3, .int (nI r1)), (2, .int (nI ((fb k) * 7 + 6))), (0, .ref (a 3)), (1, .int (nI k))]) hx hb dC_admitSome_23 rfl hl (by decide) rfl (fun ls hl => ?_)
  have lp : ∀ (fu : Nat) (r : Nat) (v : sU) (ls : Array Slot) (H : Heap) (locs : List Loc), s_ext u v → s_snd u v (fun (G : Nat → Nat → Prop) => ∀ z d, z < 160 → G (z * 7 + fa k) d → G (d * 7 + 6) (fb k) → G (z * 7 + 6) k) → (∀ b, b < r → b < 160 → (u.1 0 (b * 7 + 6) (fb k) = true → ∀ z, z < 160 → u.1 0 (z * 7 + fa k) b = true → v.1 0 (z * 7 + 6) k = true)) → (r < 160 → v.1 1 (fb k * 7 + 6) r = true) → r < 224 → va_P D vwA (sW a kI kL kZ v) H → va_D (sA a) (sW a kI kL kZ v) → va_S (sA a) s.heap H locs → 224 - r < fu → lv_has ls 4 [(3, .int (nI r)), (2, .int (nI ((fb k) * 7 + 6))), (0, .ref (a 3)), (1, .int (nI k))] → W p l e R s m ([.ref (a 3), .int (nI k)] : List Value).toArray below meth c H locs 0 0 Q (F0 m 24 ls []) := by
    intro fu
    induction fu with
    | zero => intros; omega
    | succ fu ih24 =>
      intro r v ls H locs g1 g2 g3 g4 g5 hP hD hS hfu hl
      refine lv_iload_n hx hb dC_admitSome_24 rfl (lv_at hl 0 rfl) ?_
      refine lv_sipush (v := nI 160) hx hb dC_admitSome_25 (by decide +kernel) ?_
      refine tq_ge hx hb dC_admitSome_28 (tgt := 65) (by decide) (by omega) (by omega) (fun h28 => ?_) (fun h28 => ?_)
      · subst hQe
        exact W.vret hx hb hr (fun t ht hW => ⟨⟨v, rfl, ⟨g1, g2, fun b a1 => g3 b (by omega) a1⟩, tq_hp ht hP⟩, hS.F ht⟩) hS.2.2 dC_admitSome_65
      · refine lv_aload_n hx hb dC_admitSome_31 rfl (lv_at hl 2 rfl) ?_
        refine lv_iload_n hx hb dC_admitSome_32 rfl (lv_at hl 0 rfl) ?_
        refine lv_aload_n hx hb dC_admitSome_33 rfl (lv_at hl 2 rfl) ?_
        refine gf_C_11 (v := .ref (a 1)) hx hb hA hown hK hP 3 rfl rfl dC_admitSome_34 ?_
        refine lv_iload_n hx hb dC_admitSome_37 rfl (lv_at hl 3 rfl) ?_
        refine ks_rv ⟨hx, hb, hml, hown, hA⟩ (c_left l D a kI kL kZ v k (by omega)) (kw_C_164 hA rfl rfl ⟨Nat.le_trans (Nat.le_of_ble_eq_true rfl) hRf, Nat.le_trans (Nat.le_of_ble_eq_true rfl) hRl⟩) hK hP hS 1 1 rfl rfl rfl hl.1 (Nat.le_of_ble_eq_true rfl) ⟨by omega, by omega⟩ dC_admitSome_38 rfl (fun H locs hP hS => ?_)
        refine tq_i ((tm_3 (tm_ext htm g1) hk hk3).1) ?_
        refine ks_s ⟨hx, hb, hml, hown, hA⟩ (c_row l r (fa k)) (kw_C_57 hA rfl rfl ⟨Nat.le_trans (Nat.le_of_ble_eq_true rfl) hRf, Nat.le_trans (Nat.le_of_ble_eq_true rfl) hRl⟩) hP hS rfl hl.1 (Nat.le_of_ble_eq_true rfl) ⟨by omega, by omega⟩ dC_admitSome_41 rfl (fun H locs hP hS => ?_)
        refine lv_bipush (v := nI 6) hx hb dC_admitSome_44 (by decide +kernel) ?_
        refine lv_iload_n hx hb dC_admitSome_46 rfl (lv_at hl 3 rfl) ?_
        refine ks_v (wf := sW a kI kL kZ) (u := v) ⟨hx, hb, hml, hown, hA⟩ (c_addFromAll l D a kI kL kZ v r (fa k) 6 k (tr_ext htr g1) (by omega) (by omega) (by omega) (by omega)) (kw_C_113 hA rfl rfl ⟨Nat.le_trans (Nat.le_of_ble_eq_true rfl) hRf, Nat.le_trans (Nat.le_of_ble_eq_true rfl) hRl⟩) hK hP hD hS (fun _ h => h) (fun u' => sW_adr u') 3 3 rfl rfl rfl hl.1 (Nat.le_of_ble_eq_true rfl) ⟨by omega, by omega⟩ dC_admitSome_47 rfl (fun u2 H locs hu2 hP hD hS => ?_)
        refine lv_aload_n hx hb dC_admitSome_50 rfl (lv_at hl 2 rfl) ?_
        refine gf_C_28 (v := .ref (a 16)) hx hb hA hown hK hP 3 rfl rfl dC_admitSome_51 ?_
        refine lv_iload_n hx hb dC_admitSome_54 rfl (lv_at hl 1 rfl) ?_
        refine lv_iload_n hx hb dC_admitSome_55 rfl (lv_at hl 0 rfl) ?_
        refine lv_iconst (v := nI 1) hx hb dC_admitSome_56 (by decide +kernel) ?_
        refine tq_iadd hx hb dC_admitSome_57 ?_
        refine k_next ⟨hx, hb, hml, hown, hA⟩ (kw_C_69 hA rfl rfl ⟨Nat.le_trans (Nat.le_of_ble_eq_true rfl) hRf, Nat.le_trans (Nat.le_of_ble_eq_true rfl) hRl⟩) hK hP hS 16 17 1 rfl rfl rfl (by decide) (by omega) (by decide) (by decide) (by omega) (by omega) hl.1 (Nat.le_of_ble_eq_true rfl) ⟨by omega, by omega⟩ dC_admitSome_58 (fun r3 H locs hr3 hP hS => ?_)
        refine lv_istore_n (lv' := [(3, .int (nI r3)), (2, .int (nI ((fb k) * 7 + 6))), (0, .ref (a 3)), (1, .int (nI k))]) hx hb dC_admitSome_61 rfl hl (by decide) rfl (fun ls hl => ?_)
        refine lv_goto hx hb dC_admitSome_62 (tgt := 24) (by decide) ?_
        have hge := hr3.1
        have hlt := hr3.2.1
        exact ih24 r3 u2 ls H locs (ext_trans g1 hu2.1) (from_snd h28 (by omega) (tr_ext htr g1) g2 hu2.2 (fun G h1 h2 z a1 a2 => h1 z r a1 a2 (h2 _ _ (src_fact (tr_ext htr g1) h28 (by decide) (by omega) (g4 h28))))) (nx_mono_step (P := fun b => (u.1 0 (b * 7 + 6) (fb k) = true → ∀ z, z < 160 → u.1 0 (z * 7 + fa k) b = true → u2.1 0 (z * 7 + 6) k = true)) (fun b a1 a2 a3 z a4 a5 => hu2.1.1 _ _ (g3 b a1 a2 a3 z a4 a5)) (fun _ z a4 a5 => from_all h28 (by omega) (tr_ext htr g1) g1 hu2.2 a4 a5) hr3 (fun b a1 a2 a3 _ _ _ => absurd ((ext_trans g1 hu2.1).1 _ _ a3) (by rw [src_fact (tr_ext (tr_ext htr g1) hu2.1) a1 (by decide) (by omega) a2]; decide))) hr3.2.2.2 (by omega) hP hD hS (by omega) (lv_sub hl [0, 1, 2, 3] rfl)
  exact lp _ r1 u ls _ _ (ext_refl u) snd_refl (nx_mono_first (P := fun b => (u.1 0 (b * 7 + 6) (fb k) = true → ∀ z, z < 160 → u.1 0 (z * 7 + fa k) b = true → u.1 0 (z * 7 + 6) k = true)) hr1 (fun b a1 a2 a3 _ _ _ => absurd a3 (by rw [src_fact htr a1 (by decide) (by omega) a2]; decide))) hr1.2.2.2 (by have := hr1.2.1; omega) hP hD hS (Nat.lt_succ_self _) (lv_sub hl [0, 1, 2, 3] rfl)
end
section
/-! The contracts of Closure.hear, by the kind of the axiom. Written by wip/whole/gen/genclos5.py. -/
set_option maxHeartbeats 4000000 in
set_option maxRecDepth 100000 in
/-- c_hear0 -/
theorem c_hear0 (l : Launch) (D : va_G) (a : Nat → Nat) (kI kL kZ : ClassId) (u : sU) (k x y : Nat) (h1 : 1 ≤ k) (h2 : k ≤ 100) (e4 : u.2.1 4 (k - 1) = nI 0) (e5 : u.2.1 5 (k - 1) = nI x) (e6 : u.2.1 6 (k - 1) = nI y) (htr : s_tr u) (hx1 : x < 160) (hy1 : y < 160) : Met l yC_hear (wC_hear :: wA) ({ frames := 3, cells := 0, slots := 0, locals := 74 }) (va_Pc [.ref (a 3), .int (nI k)] (tq_wB D vwA (sW a kI kL kZ u) (sT kI kL kZ))) (va_Qv (fun (u' : sU) => s_ext (s_put u 4 x y) u' ∧ s_from (s_put u 4 x y) u' (x * 7 + 6) 6 y 160) (fun u' t => va_P D vwA (sW a kI kL kZ u') t.heap) (sA a)) 0 0 (sA a) := by
  refine Met.ofW (cc := bC_hear) (maxL := 7) (ret := none) (by decide +kernel) rfl ?_
  intro p e s m args below meth c s₁ B1 hml hv
  obtain ⟨rfl, hP, hK, hD0⟩ := hv
  have hx := B1.exec
  have hb := B1.bytes
  have hr := B1.returns
  have hA : ∀ w ∈ wA, w.before ([.ref (a 3), .int (nI k)] : List Value).toArray s = true := fun w h => atoms_spec (ws := wC_hear :: wA) B1.pre w (List.mem_cons_of_mem _ h)
  have hown : s.vm.findClass RcC = some m.cls := findClass_of_methodNamed B1.named
  have hlocks := B1.notSynchronized
  have hS : va_S (sA a) s.heap s.heap [] := va_S.rf
  have hl := lv_entry ([.ref (a 3), .int (nI k)]) (n := 7) (Nat.le_of_ble_eq_true rfl)
  rw [lg_entry_eq]
  generalize (lg_sl ([.ref (a 3), .int (nI k)]) ++ List.replicate (7 - (lg_sl ([.ref (a 3), .int (nI k)])).length) Slot.unset).toArray = ls at hl ⊢
  have hl : lv_has ls 7 [(0, .ref (a 3)), (1, .int (nI k))] := hl
  refine tq_gen (fun R Q hRe hQe => ?_)
  have hRf : 3 ≤ R.frames := by rw [hRe]; exact Nat.le_of_ble_eq_true rfl
  have hRl : 74 ≤ R.locals := by rw [hRe]; exact Nat.le_of_ble_eq_true rfl
  have hRc : 0 ≤ R.cells := by rw [hRe]; exact Nat.le_of_ble_eq_true rfl
  have hRs : 0 ≤ R.slots := by rw [hRe]; exact Nat.le_of_ble_eq_true rfl
  have hD := sA_D hD0
  refine lv_aload_n hx hb dC_hear_0 rfl (lv_at hl 0 rfl) ?_
  refine gf_C_15 (v := .ref (a 2)) hx hb hA hown hK hP 3 rfl rfl dC_hear_1 ?_
  refine lv_iload_n hx hb dC_hear_4 rfl (lv_at hl 1 rfl) ?_
  refine ks_rv ⟨hx, hb, hml, hown, hA⟩ (c_axfirst l D a kI kL kZ u k (by omega) (by omega)) (kw_C_98 hA rfl rfl ⟨Nat.le_trans (Nat.le_of_ble_eq_true rfl) hRf, Nat.le_trans (Nat.le_of_ble_eq_true rfl) hRl⟩) hK hP hS 2 2 rfl rfl rfl hl.1 (Nat.le_of_ble_eq_true rfl) ⟨by omega, by omega⟩ dC_hear_5 rfl (fun H locs hP hS => ?_)
  refine tq_i e5 ?_
  refine lv_istore_n (lv' := [(2, .int (nI x)), (0, .ref (a 3)), (1, .int (nI k))]) hx hb dC_hear_8 rfl hl (by decide) rfl (fun ls hl => ?_)
  refine lv_aload_n hx hb dC_hear_9 rfl (lv_at hl 1 rfl) ?_
  refine gf_C_15 (v := .ref (a 2)) hx hb hA hown hK hP 3 rfl rfl dC_hear_10 ?_
  refine lv_iload_n hx hb dC_hear_13 rfl (lv_at hl 2 rfl) ?_
  refine ks_rv ⟨hx, hb, hml, hown, hA⟩ (c_axsecond l D a kI kL kZ u k (by omega) (by omega)) (kw_C_104 hA rfl rfl ⟨Nat.le_trans (Nat.le_of_ble_eq_true rfl) hRf, Nat.le_trans (Nat.le_of_ble_eq_true rfl) hRl⟩) hK hP hS 2 2 rfl rfl rfl hl.1 (Nat.le_of_ble_eq_true rfl) ⟨by omega, by omega⟩ dC_hear_14 rfl (fun H locs hP hS => ?_)
  refine tq_i e6 ?_
  refine lv_istore_n (lv' := [(3, .int (nI y)), (2, .int (nI x)), (0, .ref (a 3)), (1, .int (nI k))]) hx hb dC_hear_17 rfl hl (by decide) rfl (fun ls hl => ?_)
  refine lv_aload_n hx hb dC_hear_18 rfl (lv_at hl 2 rfl) ?_
  refine gf_C_15 (v := .ref (a 2)) hx hb hA hown hK hP 3 rfl rfl dC_hear_19 ?_
  refine lv_iload_n hx hb dC_hear_22 rfl (lv_at hl 3 rfl) ?_
  refine ks_rv ⟨hx, hb, hml, hown, hA⟩ (c_axkind l D a kI kL kZ u k (by omega) (by omega)) (kw_C_107 hA rfl rfl ⟨Nat.le_trans (Nat.le_of_ble_eq_true rfl) hRf, Nat.le_trans (Nat.le_of_ble_eq_true rfl) hRl⟩) hK hP hS 2 2 rfl rfl rfl hl.1 (Nat.le_of_ble_eq_true rfl) ⟨by omega, by omega⟩ dC_hear_23 rfl (fun H locs hP hS => ?_)
  refine tq_i e4 ?_
  refine lv_tableIn hx hb dC_hear_26 (off := 26) (tgt := 52) (by decide +kernel) (by decide +kernel) (by decide +kernel) (by decide) ?_
  refine lv_aload_n hx hb dC_hear_52 rfl (lv_at hl 2 rfl) ?_
  refine gf_C_37 (v := .ref (a 22)) hx hb hA hown hK hP 3 rfl rfl dC_hear_53 ?_
  refine lv_iload_n hx hb dC_hear_56 rfl (lv_at hl 1 rfl) ?_
  refine lv_iload_n hx hb dC_hear_57 rfl (lv_at hl 0 rfl) ?_
  refine k_put ⟨hx, hb, hml, hown, hA⟩ (kw_C_110 hA rfl rfl ⟨Nat.le_trans (Nat.le_of_ble_eq_true rfl) hRf, Nat.le_trans (Nat.le_of_ble_eq_true rfl) hRl⟩) hK hP hD hS 22 23 1 rfl rfl (by decide) rfl (by omega) (by omega) (by decide) (by decide) hl.1 (Nat.le_of_ble_eq_true rfl) ⟨by omega, by omega⟩ dC_hear_58 (fun H locs hP hD hS => ?_)
  have hP : va_P D vwA (sW a kI kL kZ (va_up u.1 4 (tm_put (u.1 4) x y), u.2.1, u.2.2)) H := hP
  have hD : va_D (sA a) (sW a kI kL kZ (va_up u.1 4 (tm_put (u.1 4) x y), u.2.1, u.2.2)) := hD
  refine lv_pop hx hb dC_hear_61 rfl ?_
  refine lv_aload_n hx hb dC_hear_62 rfl (lv_at hl 2 rfl) ?_
  refine lv_iload_n hx hb dC_hear_63 rfl (lv_at hl 1 rfl) ?_
  refine lv_bipush (v := nI 6) hx hb dC_hear_64 (by decide +kernel) ?_
  refine ks_s ⟨hx, hb, hml, hown, hA⟩ (c_row l x 6) (kw_C_57 hA rfl rfl ⟨Nat.le_trans (Nat.le_of_ble_eq_true rfl) hRf, Nat.le_trans (Nat.le_of_ble_eq_true rfl) hRl⟩) hP hS rfl hl.1 (Nat.le_of_ble_eq_true rfl) ⟨by omega, by omega⟩ dC_hear_66 rfl (fun H locs hP hS => ?_)
  refine lv_bipush (v := nI 6) hx hb dC_hear_69 (by decide +kernel) ?_
  refine lv_iload_n hx hb dC_hear_71 rfl (lv_at hl 0 rfl) ?_
  refine ks_v (wf := sW a kI kL kZ) (u := (va_up u.1 4 (tm_put (u.1 4) x y), u.2.1, u.2.2)) ⟨hx, hb, hml, hown, hA⟩ (c_addFromAll l D a kI kL kZ (va_up u.1 4 (tm_put (u.1 4) x y), u.2.1, u.2.2) x 6 6 y htr (by omega) (by omega) (by omega) (by omega)) (kw_C_113 hA rfl rfl ⟨Nat.le_trans (Nat.le_of_ble_eq_true rfl) hRf, Nat.le_trans (Nat.le_of_ble_eq_true rfl) hRl⟩) hK hP hD hS (fun _ h => h) (fun u' => sW_adr u') 3 3 rfl rfl rfl hl.1 (Nat.le_of_ble_eq_true rfl) ⟨by omega, by omega⟩ dC_hear_72 rfl (fun u1 H locs hu1 hP hD hS => ?_)
  refine lv_goto hx hb dC_hear_75 (tgt := 283) (by decide) ?_
  subst hQe
  exact W.vret hx hb hr (fun t ht hW => ⟨⟨u1, rfl, hu1, tq_hp ht hP⟩, hS.F ht⟩) hS.2.2 dC_hear_283
set_option maxHeartbeats 4000000 in
set_option maxRecDepth 100000 in
/-- c_hear1 -/
theorem c_hear1 (l : Launch) (D : va_G) (a : Nat → Nat) (kI kL kZ : ClassId) (u : sU) (k x y : Nat) (h1 : 1 ≤ k) (h2 : k ≤ 100) (e4 : u.2.1 4 (k - 1) = nI 1) (e5 : u.2.1 5 (k - 1) = nI x) (e6 : u.2.1 6 (k - 1) = nI y) (htr : s_tr u) (hx1 : x < 160) (hy1 : y < 160) : Met l yC_hear (wC_hear :: wA) ({ frames := 3, cells := 0, slots := 0, locals := 74 }) (va_Pc [.ref (a 3), .int (nI k)] (tq_wB D vwA (sW a kI kL kZ u) (sT kI kL kZ))) (va_Qv (fun (u' : sU) => ∃ v, (s_ext (s_put2 u x y) v ∧ s_from (s_put2 u x y) v (x * 7 + 6) 6 y 160) ∧ s_ext v u' ∧ s_from v u' (y * 7 + 6) 6 x 160) (fun u' t => va_P D vwA (sW a kI kL kZ u') t.heap) (sA a)) 0 0 (sA a) := by
  refine Met.ofW (cc := bC_hear) (maxL := 7) (ret := none) (by decide +kernel) rfl ?_
  intro p e s m args below meth c s₁ B1 hml hv
  obtain ⟨rfl, hP, hK, hD0⟩ := hv
  have hx := B1.exec
  have hb := B1.bytes
  have hr := B1.returns
  have hA : ∀ w ∈ wA, w.before ([.ref (a 3), .int (nI k)] : List Value).toArray s = true := fun w h => atoms_spec (ws := wC_hear :: wA) B1.pre w (List.mem_cons_of_mem _ h)
  have hown : s.vm.findClass RcC = some m.cls := findClass_of_methodNamed B1.named
  have hlocks := B1.notSynchronized
  have hS : va_S (sA a) s.heap s.heap [] := va_S.rf
  have hl := lv_entry ([.ref (a 3), .int (nI k)]) (n := 7) (Nat.le_of_ble_eq_true rfl)
  rw [lg_entry_eq]
  generalize (lg_sl ([.ref (a 3), .int (nI k)]) ++ List.replicate (7 - (lg_sl ([.ref (a 3), .int (nI k)])).length) Slot.unset).toArray = ls at hl ⊢
  have hl : lv_has ls 7 [(0, .ref (a 3)), (1, .int (nI k))] := hl
  refine tq_gen (fun R Q hRe hQe => ?_)
  have hRf : 3 ≤ R.frames := by rw [hRe]; exact Nat.le_of_ble_eq_true rfl
  have hRl : 74 ≤ R.locals := by rw [hRe]; exact Nat.le_of_ble_eq_true rfl
  have hRc : 0 ≤ R.cells := by rw [hRe]; exact Nat.le_of_ble_eq_true rfl
  have hRs : 0 ≤ R.slots := by rw [hRe]; exact Nat.le_of_ble_eq_true rfl
  have hD := sA_D hD0
  have htr : s_tr (s_put2 u x y) := htr
  refine lv_aload_n hx hb dC_hear_0 rfl (lv_at hl 0 rfl) ?_
  refine gf_C_15 (v := .ref (a 2)) hx hb hA hown hK hP 3 rfl rfl dC_hear_1 ?_
  refine lv_iload_n hx hb dC_hear_4 rfl (lv_at hl 1 rfl) ?_
  refine ks_rv ⟨hx, hb, hml, hown, hA⟩ (c_axfirst l D a kI kL kZ u k (by omega) (by omega)) (kw_C_98 hA rfl rfl ⟨Nat.le_trans (Nat.le_of_ble_eq_true rfl) hRf, Nat.le_trans (Nat.le_of_ble_eq_true rfl) hRl⟩) hK hP hS 2 2 rfl rfl rfl hl.1 (Nat.le_of_ble_eq_true rfl) ⟨by omega, by omega⟩ dC_hear_5 rfl (fun H locs hP hS => ?_)
  refine tq_i e5 ?_
  refine lv_istore_n (lv' := [(2, .int (nI x)), (0, .ref (a 3)), (1, .int (nI k))]) hx hb dC_hear_8 rfl hl (by decide) rfl (fun ls hl => ?_)
  refine lv_aload_n hx hb dC_hear_9 rfl (lv_at hl 1 rfl) ?_
  refine gf_C_15 (v := .ref (a 2)) hx hb hA hown hK hP 3 rfl rfl dC_hear_10 ?_
  refine lv_iload_n hx hb dC_hear_13 rfl (lv_at hl 2 rfl) ?_
  refine ks_rv ⟨hx, hb, hml, hown, hA⟩ (c_axsecond l D a kI kL kZ u k (by omega) (by omega)) (kw_C_104 hA rfl rfl ⟨Nat.le_trans (Nat.le_of_ble_eq_true rfl) hRf, Nat.le_trans (Nat.le_of_ble_eq_true rfl) hRl⟩) hK hP hS 2 2 rfl rfl rfl hl.1 (Nat.le_of_ble_eq_true rfl) ⟨by omega, by omega⟩ dC_hear_14 rfl (fun H locs hP hS => ?_)
  refine tq_i e6 ?_
  refine lv_istore_n (lv' := [(3, .int (nI y)), (2, .int (nI x)), (0, .ref (a 3)), (1, .int (nI k))]) hx hb dC_hear_17 rfl hl (by decide) rfl (fun ls hl => ?_)
  refine lv_aload_n hx hb dC_hear_18 rfl (lv_at hl 2 rfl) ?_
  refine gf_C_15 (v := .ref (a 2)) hx hb hA hown hK hP 3 rfl rfl dC_hear_19 ?_
  refine lv_iload_n hx hb dC_hear_22 rfl (lv_at hl 3 rfl) ?_
  refine ks_rv ⟨hx, hb, hml, hown, hA⟩ (c_axkind l D a kI kL kZ u k (by omega) (by omega)) (kw_C_107 hA rfl rfl ⟨Nat.le_trans (Nat.le_of_ble_eq_true rfl) hRf, Nat.le_trans (Nat.le_of_ble_eq_true rfl) hRl⟩) hK hP hS 2 2 rfl rfl rfl hl.1 (Nat.le_of_ble_eq_true rfl) ⟨by omega, by omega⟩ dC_hear_23 rfl (fun H locs hP hS => ?_)
  refine tq_i e4 ?_
  refine lv_tableIn hx hb dC_hear_26 (off := 52) (tgt := 78) (by decide +kernel) (by decide +kernel) (by decide +kernel) (by decide) ?_
  refine lv_aload_n hx hb dC_hear_78 rfl (lv_at hl 2 rfl) ?_
  refine gf_C_37 (v := .ref (a 22)) hx hb hA hown hK hP 3 rfl rfl dC_hear_79 ?_
  refine lv_iload_n hx hb dC_hear_82 rfl (lv_at hl 1 rfl) ?_
  refine lv_iload_n hx hb dC_hear_83 rfl (lv_at hl 0 rfl) ?_
  refine k_put ⟨hx, hb, hml, hown, hA⟩ (kw_C_110 hA rfl rfl ⟨Nat.le_trans (Nat.le_of_ble_eq_true rfl) hRf, Nat.le_trans (Nat.le_of_ble_eq_true rfl) hRl⟩) hK hP hD hS 22 23 1 rfl rfl (by decide) rfl (by omega) (by omega) (by decide) (by decide) hl.1 (Nat.le_of_ble_eq_true rfl) ⟨by omega, by omega⟩ dC_hear_84 (fun H locs hP hD hS => ?_)
  have hP : va_P D vwA (sW a kI kL kZ (va_up u.1 4 (tm_put (u.1 4) x y), u.2.1, u.2.2)) H := hP
  have hD : va_D (sA a) (sW a kI kL kZ (va_up u.1 4 (tm_put (u.1 4) x y), u.2.1, u.2.2)) := hD
  refine lv_pop hx hb dC_hear_87 rfl ?_
  refine lv_aload_n hx hb dC_hear_88 rfl (lv_at hl 2 rfl) ?_
  refine gf_C_37 (v := .ref (a 22)) hx hb hA hown hK hP 3 rfl rfl dC_hear_89 ?_
  refine lv_iload_n hx hb dC_hear_92 rfl (lv_at hl 0 rfl) ?_
  refine lv_iload_n hx hb dC_hear_93 rfl (lv_at hl 1 rfl) ?_
  refine k_put ⟨hx, hb, hml, hown, hA⟩ (kw_C_110 hA rfl rfl ⟨Nat.le_trans (Nat.le_of_ble_eq_true rfl) hRf, Nat.le_trans (Nat.le_of_ble_eq_true rfl) hRl⟩) hK hP hD hS 22 23 1 rfl rfl (by decide) rfl (by omega) (by omega) (by decide) (by decide) hl.1 (Nat.le_of_ble_eq_true rfl) ⟨by omega, by omega⟩ dC_hear_94 (fun H locs hP hD hS => ?_)
  have hP : va_P D vwA (sW a kI kL kZ (va_up u.1 4 (tm_put (tm_put (u.1 4) x y) y x), u.2.1, u.2.2)) H := hP
  have hD : va_D (sA a) (sW a kI kL kZ (va_up u.1 4 (tm_put (tm_put (u.1 4) x y) y x), u.2.1, u.2.2)) := hD
  refine lv_pop hx hb dC_hear_97 rfl ?_
  refine lv_aload_n hx hb dC_hear_98 rfl (lv_at hl 2 rfl) ?_
  refine lv_iload_n hx hb dC_hear_99 rfl (lv_at hl 1 rfl) ?_
  refine lv_bipush (v := nI 6) hx hb dC_hear_100 (by decide +kernel) ?_
  refine ks_s ⟨hx, hb, hml, hown, hA⟩ (c_row l x 6) (kw_C_57 hA rfl rfl ⟨Nat.le_trans (Nat.le_of_ble_eq_true rfl) hRf, Nat.le_trans (Nat.le_of_ble_eq_true rfl) hRl⟩) hP hS rfl hl.1 (Nat.le_of_ble_eq_true rfl) ⟨by omega, by omega⟩ dC_hear_102 rfl (fun H locs hP hS => ?_)
  refine lv_bipush (v := nI 6) hx hb dC_hear_105 (by decide +kernel) ?_
  refine lv_iload_n hx hb dC_hear_107 rfl (lv_at hl 0 rfl) ?_
  refine ks_v (wf := sW a kI kL kZ) (u := (va_up u.1 4 (tm_put (tm_put (u.1 4) x y) y x), u.2.1, u.2.2)) ⟨hx, hb, hml, hown, hA⟩ (c_addFromAll l D a kI kL kZ (va_up u.1 4 (tm_put (tm_put (u.1 4) x y) y x), u.2.1, u.2.2) x 6 6 y htr (by omega) (by omega) (by omega) (by omega)) (kw_C_113 hA rfl rfl ⟨Nat.le_trans (Nat.le_of_ble_eq_true rfl) hRf, Nat.le_trans (Nat.le_of_ble_eq_true rfl) hRl⟩) hK hP hD hS (fun _ h => h) (fun u' => sW_adr u') 3 3 rfl rfl rfl hl.1 (Nat.le_of_ble_eq_true rfl) ⟨by omega, by omega⟩ dC_hear_108 rfl (fun u1 H locs hu1 hP hD hS => ?_)
  refine lv_aload_n hx hb dC_hear_111 rfl (lv_at hl 2 rfl) ?_
  refine lv_iload_n hx hb dC_hear_112 rfl (lv_at hl 0 rfl) ?_
  refine lv_bipush (v := nI 6) hx hb dC_hear_113 (by decide +kernel) ?_
  refine ks_s ⟨hx, hb, hml, hown, hA⟩ (c_row l y 6) (kw_C_57 hA rfl rfl ⟨Nat.le_trans (Nat.le_of_ble_eq_true rfl) hRf, Nat.le_trans (Nat.le_of_ble_eq_true rfl) hRl⟩) hP hS rfl hl.1 (Nat.le_of_ble_eq_true rfl) ⟨by omega, by omega⟩ dC_hear_115 rfl (fun H locs hP hS => ?_)
  refine lv_bipush (v := nI 6) hx hb dC_hear_118 (by decide +kernel) ?_
  refine lv_iload_n hx hb dC_hear_120 rfl (lv_at hl 1 rfl) ?_
  refine ks_v (wf := sW a kI kL kZ) (u := u1) ⟨hx, hb, hml, hown, hA⟩ (c_addFromAll l D a kI kL kZ u1 y 6 6 x (tr_ext htr hu1.1) (by omega) (by omega) (by omega) (by omega)) (kw_C_113 hA rfl rfl ⟨Nat.le_trans (Nat.le_of_ble_eq_true rfl) hRf, Nat.le_trans (Nat.le_of_ble_eq_true rfl) hRl⟩) hK hP hD hS (fun _ h => h) (fun u' => sW_adr u') 3 3 rfl rfl rfl hl.1 (Nat.le_of_ble_eq_true rfl) ⟨by omega, by omega⟩ dC_hear_121 rfl (fun u2 H locs hu2 hP hD hS => ?_)
  refine lv_goto hx hb dC_hear_124 (tgt := 283) (by decide) ?_
  subst hQe
  exact W.vret hx hb hr (fun t ht hW => ⟨⟨u2, rfl, ⟨u1, hu1, hu2⟩, tq_hp ht hP⟩, hS.F ht⟩) hS.2.2 dC_hear_283
set_option maxHeartbeats 4000000 in
set_option maxRecDepth 100000 in
/-- c_hear2 -/
theorem c_hear2 (l : Launch) (D : va_G) (a : Nat → Nat) (kI kL kZ : ClassId) (u : sU) (N : Nat) (kd fa fb : Nat → Nat) (htm : s_tm u N kd fa fb) (htr : s_tr u) (k x y : Nat) (h1 : 1 ≤ k) (h2 : k ≤ 100) (e4 : u.2.1 4 (k - 1) = nI 2) (e5 : u.2.1 5 (k - 1) = nI x) (e6 : u.2.1 6 (k - 1) = nI y) (hx1 : x < 6) (hy1 : y < 6) : Met l yC_hear (wC_hear :: wA) ({ frames := 3, cells := 0, slots := 0, locals := 74 }) (va_Pc [.ref (a 3), .int (nI k)] (tq_wB D vwA (sW a kI kL kZ u) (sT kI kL kZ))) (va_Qv (fun (u' : sU) => s_ext (s_put u 5 x y) u' ∧ s_snd (s_put u 5 x y) u' (fun (G : Nat → Nat → Prop) => ∀ z d, z < 160 → G (z * 7 + x) d → G (z * 7 + y) d) ∧ ∀ b, b < N → ∀ z, z < 160 → u.1 0 (z * 7 + x) b = true → u'.1 0 (z * 7 + y) b = true) (fun u' t => va_P D vwA (sW a kI kL kZ u') t.heap) (sA a)) 0 0 (sA a) := by
  refine Met.ofW (cc := bC_hear) (maxL := 7) (ret := none) (by decide +kernel) rfl ?_
  intro p e s m args below meth c s₁ B1 hml hv
  obtain ⟨rfl, hP, hK, hD0⟩ := hv
  have hx := B1.exec
  have hb := B1.bytes
  have hr := B1.returns
  have hA : ∀ w ∈ wA, w.before ([.ref (a 3), .int (nI k)] : List Value).toArray s = true := fun w h => atoms_spec (ws := wC_hear :: wA) B1.pre w (List.mem_cons_of_mem _ h)
  have hown : s.vm.findClass RcC = some m.cls := findClass_of_methodNamed B1.named
  have hlocks := B1.notSynchronized
  have hS : va_S (sA a) s.heap s.heap [] := va_S.rf
  have hl := lv_entry ([.ref (a 3), .int (nI k)]) (n := 7) (Nat.le_of_ble_eq_true rfl)
  rw [lg_entry_eq]
  generalize (lg_sl ([.ref (a 3), .int (nI k)]) ++ List.replicate (7 - (lg_sl ([.ref (a 3), .int (nI k)])).length) Slot.unset).toArray = ls at hl ⊢
  have hl : lv_has ls 7 [(0, .ref (a 3)), (1, .int (nI k))] := hl
  refine tq_gen (fun R Q hRe hQe => ?_)
  have hRf : 3 ≤ R.frames := by rw [hRe]; exact Nat.le_of_ble_eq_true rfl
  have hRl : 74 ≤ R.locals := by rw [hRe]; exact Nat.le_of_ble_eq_true rfl
  have hRc : 0 ≤ R.cells := by rw [hRe]; exact Nat.le_of_ble_eq_true rfl
  have hRs : 0 ≤ R.slots := by rw [hRe]; exact Nat.le_of_ble_eq_true rfl
  have hD := sA_D hD0
  have hN := tm_N htm
  have htr : s_tr (s_put u 5 x y) := htr
  have htm : s_tm (s_put u 5 x y) N kd fa fb := htm
  refine lv_aload_n hx hb dC_hear_0 rfl (lv_at hl 0 rfl) ?_
  refine gf_C_15 (v := .ref (a 2)) hx hb hA hown hK hP 3 rfl rfl dC_hear_1 ?_
  refine lv_iload_n hx hb dC_hear_4 rfl (lv_at hl 1 rfl) ?_
  refine ks_rv ⟨hx, hb, hml, hown, hA⟩ (c_axfirst l D a kI kL kZ u k (by omega) (by omega)) (kw_C_98 hA rfl rfl ⟨Nat.le_trans (Nat.le_of_ble_eq_true rfl) hRf, Nat.le_trans (Nat.le_of_ble_eq_true rfl) hRl⟩) hK hP hS 2 2 rfl rfl rfl hl.1 (Nat.le_of_ble_eq_true rfl) ⟨by omega, by omega⟩ dC_hear_5 rfl (fun H locs hP hS => ?_)
  refine tq_i e5 ?_
  refine lv_istore_n (lv' := [(2, .int (nI x)), (0, .ref (a 3)), (1, .int (nI k))]) hx hb dC_hear_8 rfl hl (by decide) rfl (fun ls hl => ?_)
  refine lv_aload_n hx hb dC_hear_9 rfl (lv_at hl 1 rfl) ?_
  refine gf_C_15 (v := .ref (a 2)) hx hb hA hown hK hP 3 rfl rfl dC_hear_10 ?_
  refine lv_iload_n hx hb dC_hear_13 rfl (lv_at hl 2 rfl) ?_
  refine ks_rv ⟨hx, hb, hml, hown, hA⟩ (c_axsecond l D a kI kL kZ u k (by omega) (by omega)) (kw_C_104 hA rfl rfl ⟨Nat.le_trans (Nat.le_of_ble_eq_true rfl) hRf, Nat.le_trans (Nat.le_of_ble_eq_true rfl) hRl⟩) hK hP hS 2 2 rfl rfl rfl hl.1 (Nat.le_of_ble_eq_true rfl) ⟨by omega, by omega⟩ dC_hear_14 rfl (fun H locs hP hS => ?_)
  refine tq_i e6 ?_
  refine lv_istore_n (lv' := [(3, .int (nI y)), (2, .int (nI x)), (0, .ref (a 3)), (1, .int (nI k))]) hx hb dC_hear_17 rfl hl (by decide) rfl (fun ls hl => ?_)
  refine lv_aload_n hx hb dC_hear_18 rfl (lv_at hl 2 rfl) ?_
  refine gf_C_15 (v := .ref (a 2)) hx hb hA hown hK hP 3 rfl rfl dC_hear_19 ?_
  refine lv_iload_n hx hb dC_hear_22 rfl (lv_at hl 3 rfl) ?_
  refine ks_rv ⟨hx, hb, hml, hown, hA⟩ (c_axkind l D a kI kL kZ u k (by omega) (by omega)) (kw_C_107 hA rfl rfl ⟨Nat.le_trans (Nat.le_of_ble_eq_true rfl) hRf, Nat.le_trans (Nat.le_of_ble_eq_true rfl) hRl⟩) hK hP hS 2 2 rfl rfl rfl hl.1 (Nat.le_of_ble_eq_true rfl) ⟨by omega, by omega⟩ dC_hear_23 rfl (fun H locs hP hS => ?_)
  refine tq_i e4 ?_
  refine lv_tableIn hx hb dC_hear_26 (off := 101) (tgt := 127) (by decide +kernel) (by decide +kernel) (by decide +kernel) (by decide) ?_
  refine lv_aload_n hx hb dC_hear_127 rfl (lv_at hl 2 rfl) ?_
  refine gf_C_40 (v := .ref (a 24)) hx hb hA hown hK hP 3 rfl rfl dC_hear_128 ?_
  refine lv_iload_n hx hb dC_hear_131 rfl (lv_at hl 1 rfl) ?_
  refine lv_iload_n hx hb dC_hear_132 rfl (lv_at hl 0 rfl) ?_
  refine k_put ⟨hx, hb, hml, hown, hA⟩ (kw_C_110 hA rfl rfl ⟨Nat.le_trans (Nat.le_of_ble_eq_true rfl) hRf, Nat.le_trans (Nat.le_of_ble_eq_true rfl) hRl⟩) hK hP hD hS 24 25 1 rfl rfl (by decide) rfl (by omega) (by omega) (by decide) (by decide) hl.1 (Nat.le_of_ble_eq_true rfl) ⟨by omega, by omega⟩ dC_hear_133 (fun H locs hP hD hS => ?_)
  have hP : va_P D vwA (sW a kI kL kZ (va_up u.1 5 (tm_put (u.1 5) x y), u.2.1, u.2.2)) H := hP
  have hD : va_D (sA a) (sW a kI kL kZ (va_up u.1 5 (tm_put (u.1 5) x y), u.2.1, u.2.2)) := hD
  refine lv_pop hx hb dC_hear_136 rfl ?_
  refine lv_iconst (v := nI 0) hx hb dC_hear_137 (by decide +kernel) ?_
  refine lv_istore (lv' := [(4, .int (nI 0)), (3, .int (nI y)), (2, .int (nI x)), (0, .ref (a 3)), (1, .int (nI k))]) hx hb dC_hear_138 hl (by decide) rfl (fun ls hl => ?_)
  have lp : ∀ (fu : Nat) (n : Nat) (v : sU) (ls : Array Slot) (H : Heap) (locs : List Loc), s_ext (s_put u 5 x y) v → s_snd (s_put u 5 x y) v (fun (G : Nat → Nat → Prop) => ∀ z d, z < 160 → G (z * 7 + x) d → G (z * 7 + y) d) → (∀ b, b < n → ∀ z, z < 160 → u.1 0 (z * 7 + x) b = true → v.1 0 (z * 7 + y) b = true) → n ≤ N → va_P D vwA (sW a kI kL kZ v) H → va_D (sA a) (sW a kI kL kZ v) → va_S (sA a) s.heap H locs → N - n < fu → lv_has ls 7 [(4, .int (nI n)), (3, .int (nI y)), (2, .int (nI x)), (0, .ref (a 3)), (1, .int (nI k))] → W p l e R s m ([.ref (a 3), .int (nI k)] : List Value).toArray below meth c H locs 0 0 Q (F0 m 140 ls []) := by
    intro fu
    induction fu with
    | zero => intros; omega
    | succ fu ih140 =>
      intro n v ls H locs g1 g2 g3 g4 hP hD hS hfu hl
      refine lv_iload hx hb dC_hear_140 (lv_at hl 0 rfl) ?_
      refine lv_aload_n hx hb dC_hear_142 rfl (lv_at hl 3 rfl) ?_
      refine gf_C_11 (v := .ref (a 1)) hx hb hA hown hK hP 3 rfl rfl dC_hear_143 ?_
      refine ks_rv ⟨hx, hb, hml, hown, hA⟩ (c_size l D a kI kL kZ v  ) (kw_C_82 hA rfl rfl ⟨Nat.le_trans (Nat.le_of_ble_eq_true rfl) hRf, Nat.le_trans (Nat.le_of_ble_eq_true rfl) hRl⟩) hK hP hS 1 1 rfl rfl rfl hl.1 (Nat.le_of_ble_eq_true rfl) ⟨by omega, by omega⟩ dC_hear_146 rfl (fun H locs hP hS => ?_)
      refine tq_i (congrArg nI (tm_N (tm_ext htm g1)).1) ?_
      refine tq_ge hx hb dC_hear_149 (tgt := 171) (by decide) (by omega) (by omega) (fun h149 => ?_) (fun h149 => ?_)
      · refine lv_goto hx hb dC_hear_171 (tgt := 283) (by decide) ?_
        subst hQe
        exact W.vret hx hb hr (fun t ht hW => ⟨⟨v, rfl, ⟨g1, g2, fun b a1 => g3 b (by omega)⟩, tq_hp ht hP⟩, hS.F ht⟩) hS.2.2 dC_hear_283
      · refine lv_aload_n hx hb dC_hear_152 rfl (lv_at hl 3 rfl) ?_
        refine lv_iload hx hb dC_hear_153 (lv_at hl 0 rfl) ?_
        refine lv_iload_n hx hb dC_hear_155 rfl (lv_at hl 2 rfl) ?_
        refine ks_s ⟨hx, hb, hml, hown, hA⟩ (c_row l n x) (kw_C_57 hA rfl rfl ⟨Nat.le_trans (Nat.le_of_ble_eq_true rfl) hRf, Nat.le_trans (Nat.le_of_ble_eq_true rfl) hRl⟩) hP hS rfl hl.1 (Nat.le_of_ble_eq_true rfl) ⟨by omega, by omega⟩ dC_hear_156 rfl (fun H locs hP hS => ?_)
        refine lv_iload_n hx hb dC_hear_159 rfl (lv_at hl 1 rfl) ?_
        refine lv_iload hx hb dC_hear_160 (lv_at hl 0 rfl) ?_
        refine ks_v (wf := sW a kI kL kZ) (u := v) ⟨hx, hb, hml, hown, hA⟩ (c_addFromAll l D a kI kL kZ v n x y n (tr_ext htr g1) (by omega) (by omega) (by omega) (by omega)) (kw_C_113 hA rfl rfl ⟨Nat.le_trans (Nat.le_of_ble_eq_true rfl) hRf, Nat.le_trans (Nat.le_of_ble_eq_true rfl) hRl⟩) hK hP hD hS (fun _ h => h) (fun u' => sW_adr u') 3 3 rfl rfl rfl hl.1 (Nat.le_of_ble_eq_true rfl) ⟨by omega, by omega⟩ dC_hear_162 rfl (fun u1 H locs hu1 hP hD hS => ?_)
        refine lv_iinc (k := 0) (lv' := [(4, .int (nI (n + 1))), (3, .int (nI y)), (2, .int (nI x)), (0, .ref (a 3)), (1, .int (nI k))]) hx hb dC_hear_165 hl rfl (nI_1 _) (by decide) rfl (fun ls hl => ?_)
        refine lv_goto hx hb dC_hear_168 (tgt := 140) (by decide) ?_
        exact ih140 (n + 1) u1 ls H locs (ext_trans g1 hu1.1) (from_snd (by omega) (by omega) (tr_ext htr g1) g2 hu1.2 (fun G h1 h2 z a1 a2 => h1 z n a1 a2)) (lt_s (p := fun b => ∀ z, z < 160 → u.1 0 (z * 7 + x) b = true → u1.1 0 (z * 7 + y) b = true) (fun b a1 z a2 a3 => hu1.1.1 _ _ (g3 b a1 z a2 a3)) (fun z a2 a3 => from_all (by omega) (by omega) (tr_ext htr g1) g1 hu1.2 a2 a3)) (by omega) hP hD hS (by omega) (lv_sub hl [0, 1, 2, 3, 4] rfl)
  exact lp _ 0 (va_up u.1 5 (tm_put (u.1 5) x y), u.2.1, u.2.2) ls _ _ (ext_refl _) snd_refl (fun b a => absurd a (Nat.not_lt_zero b)) (by omega) hP hD hS (Nat.lt_succ_self _) (lv_sub hl [0, 1, 2, 3, 4] rfl)
set_option maxHeartbeats 4000000 in
set_option maxRecDepth 100000 in
/-- c_hear3 -/
theorem c_hear3 (l : Launch) (D : va_G) (a : Nat → Nat) (kI kL kZ : ClassId) (u : sU) (N : Nat) (kd fa fb : Nat → Nat) (htm : s_tm u N kd fa fb) (htr : s_tr u) (t : Nat) (k x y : Nat) (h1 : 1 ≤ k) (h2 : k ≤ 100) (e4 : u.2.1 4 (k - 1) = nI 3) (e5 : u.2.1 5 (k - 1) = nI x) (e6 : u.2.1 6 (k - 1) = nI y) (e7 : u.2.1 7 (k - 1) = nI t) (hx1 : x < 6) (hy1 : y < 6) (ht1 : t < 6) : Met l yC_hear (wC_hear :: wA) ({ frames := 3, cells := 0, slots := 0, locals := 74 }) (va_Pc [.ref (a 3), .int (nI k)] (tq_wB D vwA (sW a kI kL kZ u) (sT kI kL kZ))) (va_Qv (fun (u' : sU) => s_ext (s_put u 6 (x * 6 + y) t) u' ∧ s_snd (s_put u 6 (x * 6 + y) t) u' (fun (G : Nat → Nat → Prop) => ∀ z d b, z < 160 → G (z * 7 + x) d → G (d * 7 + y) b → G (z * 7 + t) b) ∧ ∀ d, d < N → ∀ b, b < 160 → u.1 0 (d * 7 + y) b = true → ∀ z, z < 160 → u.1 0 (z * 7 + x) d = true → u'.1 0 (z * 7 + t) b = true) (fun u' t => va_P D vwA (sW a kI kL kZ u') t.heap) (sA a)) 0 0 (sA a) := by
  refine Met.ofW (cc := bC_hear) (maxL := 7) (ret := none) (by decide +kernel) rfl ?_
  intro p e s m args below meth c s₁ B1 hml hv
  obtain ⟨rfl, hP, hK, hD0⟩ := hv
  have hx := B1.exec
  have hb := B1.bytes
  have hr := B1.returns
  have hA : ∀ w ∈ wA, w.before ([.ref (a 3), .int (nI k)] : List Value).toArray s = true := fun w h => atoms_spec (ws := wC_hear :: wA) B1.pre w (List.mem_cons_of_mem _ h)
  have hown : s.vm.findClass RcC = some m.cls := findClass_of_methodNamed B1.named
  have hlocks := B1.notSynchronized
  have hS : va_S (sA a) s.heap s.heap [] := va_S.rf
  have hl := lv_entry ([.ref (a 3), .int (nI k)]) (n := 7) (Nat.le_of_ble_eq_true rfl)
  rw [lg_entry_eq]
  generalize (lg_sl ([.ref (a 3), .int (nI k)]) ++ List.replicate (7 - (lg_sl ([.ref (a 3), .int (nI k)])).length) Slot.unset).toArray = ls at hl ⊢
  have hl : lv_has ls 7 [(0, .ref (a 3)), (1, .int (nI k))] := hl
  refine tq_gen (fun R Q hRe hQe => ?_)
  have hRf : 3 ≤ R.frames := by rw [hRe]; exact Nat.le_of_ble_eq_true rfl
  have hRl : 74 ≤ R.locals := by rw [hRe]; exact Nat.le_of_ble_eq_true rfl
  have hRc : 0 ≤ R.cells := by rw [hRe]; exact Nat.le_of_ble_eq_true rfl
  have hRs : 0 ≤ R.slots := by rw [hRe]; exact Nat.le_of_ble_eq_true rfl
  have hD := sA_D hD0
  have hN := tm_N htm
  have htr : s_tr (s_put u 6 (x * 6 + y) t) := htr
  have htm : s_tm (s_put u 6 (x * 6 + y) t) N kd fa fb := htm
  refine lv_aload_n hx hb dC_hear_0 rfl (lv_at hl 0 rfl) ?_
  refine gf_C_15 (v := .ref (a 2)) hx hb hA hown hK hP 3 rfl rfl dC_hear_1 ?_
  refine lv_iload_n hx hb dC_hear_4 rfl (lv_at hl 1 rfl) ?_
  refine ks_rv ⟨hx, hb, hml, hown, hA⟩ (c_axfirst l D a kI kL kZ u k (by omega) (by omega)) (kw_C_98 hA rfl rfl ⟨Nat.le_trans (Nat.le_of_ble_eq_true rfl) hRf, Nat.le_trans (Nat.le_of_ble_eq_true rfl) hRl⟩) hK hP hS 2 2 rfl rfl rfl hl.1 (Nat.le_of_ble_eq_true rfl) ⟨by omega, by omega⟩ dC_hear_5 rfl (fun H locs hP hS => ?_)
  refine tq_i e5 ?_
  refine lv_istore_n (lv' := [(2, .int (nI x)), (0, .ref (a 3)), (1, .int (nI k))]) hx hb dC_hear_8 rfl hl (by decide) rfl (fun ls hl => ?_)
  refine lv_aload_n hx hb dC_hear_9 rfl (lv_at hl 1 rfl) ?_
  refine gf_C_15 (v := .ref (a 2)) hx hb hA hown hK hP 3 rfl rfl dC_hear_10 ?_
  refine lv_iload_n hx hb dC_hear_13 rfl (lv_at hl 2 rfl) ?_
  refine ks_rv ⟨hx, hb, hml, hown, hA⟩ (c_axsecond l D a kI kL kZ u k (by omega) (by omega)) (kw_C_104 hA rfl rfl ⟨Nat.le_trans (Nat.le_of_ble_eq_true rfl) hRf, Nat.le_trans (Nat.le_of_ble_eq_true rfl) hRl⟩) hK hP hS 2 2 rfl rfl rfl hl.1 (Nat.le_of_ble_eq_true rfl) ⟨by omega, by omega⟩ dC_hear_14 rfl (fun H locs hP hS => ?_)
  refine tq_i e6 ?_
  refine lv_istore_n (lv' := [(3, .int (nI y)), (2, .int (nI x)), (0, .ref (a 3)), (1, .int (nI k))]) hx hb dC_hear_17 rfl hl (by decide) rfl (fun ls hl => ?_)
  refine lv_aload_n hx hb dC_hear_18 rfl (lv_at hl 2 rfl) ?_
  refine gf_C_15 (v := .ref (a 2)) hx hb hA hown hK hP 3 rfl rfl dC_hear_19 ?_
  refine lv_iload_n hx hb dC_hear_22 rfl (lv_at hl 3 rfl) ?_
  refine ks_rv ⟨hx, hb, hml, hown, hA⟩ (c_axkind l D a kI kL kZ u k (by omega) (by omega)) (kw_C_107 hA rfl rfl ⟨Nat.le_trans (Nat.le_of_ble_eq_true rfl) hRf, Nat.le_trans (Nat.le_of_ble_eq_true rfl) hRl⟩) hK hP hS 2 2 rfl rfl rfl hl.1 (Nat.le_of_ble_eq_true rfl) ⟨by omega, by omega⟩ dC_hear_23 rfl (fun H locs hP hS => ?_)
  refine tq_i e4 ?_
  refine lv_tableOut hx hb dC_hear_26 (tgt := 174) (by decide +kernel) (by decide) ?_
  refine lv_aload_n hx hb dC_hear_174 rfl (lv_at hl 2 rfl) ?_
  refine gf_C_43 (v := .ref (a 26)) hx hb hA hown hK hP 3 rfl rfl dC_hear_175 ?_
  refine lv_iload_n hx hb dC_hear_178 rfl (lv_at hl 1 rfl) ?_
  refine lv_bipush (v := nI 6) hx hb dC_hear_179 (by decide +kernel) ?_
  refine tq_imul hx hb dC_hear_181 ?_
  refine lv_iload_n hx hb dC_hear_182 rfl (lv_at hl 0 rfl) ?_
  refine tq_iadd hx hb dC_hear_183 ?_
  refine lv_aload_n hx hb dC_hear_184 rfl (lv_at hl 2 rfl) ?_
  refine gf_C_15 (v := .ref (a 2)) hx hb hA hown hK hP 3 rfl rfl dC_hear_185 ?_
  refine lv_iload_n hx hb dC_hear_188 rfl (lv_at hl 3 rfl) ?_
  refine ks_rv ⟨hx, hb, hml, hown, hA⟩ (c_axthird l D a kI kL kZ u k (by omega) (by omega)) (kw_C_116 hA rfl rfl ⟨Nat.le_trans (Nat.le_of_ble_eq_true rfl) hRf, Nat.le_trans (Nat.le_of_ble_eq_true rfl) hRl⟩) hK hP hS 2 2 rfl rfl rfl hl.1 (Nat.le_of_ble_eq_true rfl) ⟨by omega, by omega⟩ dC_hear_189 rfl (fun H locs hP hS => ?_)
  refine tq_i e7 ?_
  refine k_put ⟨hx, hb, hml, hown, hA⟩ (kw_C_110 hA rfl rfl ⟨Nat.le_trans (Nat.le_of_ble_eq_true rfl) hRf, Nat.le_trans (Nat.le_of_ble_eq_true rfl) hRl⟩) hK hP hD hS 26 27 1 rfl rfl (by decide) rfl (by omega) (by omega) (by decide) (by decide) hl.1 (Nat.le_of_ble_eq_true rfl) ⟨by omega, by omega⟩ dC_hear_192 (fun H locs hP hD hS => ?_)
  have hP : va_P D vwA (sW a kI kL kZ (va_up u.1 6 (tm_put (u.1 6) ((x * 6) + y) t), u.2.1, u.2.2)) H := hP
  have hD : va_D (sA a) (sW a kI kL kZ (va_up u.1 6 (tm_put (u.1 6) ((x * 6) + y) t), u.2.1, u.2.2)) := hD
  refine lv_pop hx hb dC_hear_195 rfl ?_
  refine lv_iconst (v := nI 0) hx hb dC_hear_196 (by decide +kernel) ?_
  refine lv_istore (lv' := [(4, .int (nI 0)), (3, .int (nI y)), (2, .int (nI x)), (0, .ref (a 3)), (1, .int (nI k))]) hx hb dC_hear_197 hl (by decide) rfl (fun ls hl => ?_)
  have lp : ∀ (fu : Nat) (n : Nat) (v : sU) (ls : Array Slot) (H : Heap) (locs : List Loc), s_ext (s_put u 6 (x * 6 + y) t) v → s_snd (s_put u 6 (x * 6 + y) t) v (fun (G : Nat → Nat → Prop) => ∀ z d b, z < 160 → G (z * 7 + x) d → G (d * 7 + y) b → G (z * 7 + t) b) → (∀ d, d < n → ∀ b, b < 160 → u.1 0 (d * 7 + y) b = true → ∀ z, z < 160 → u.1 0 (z * 7 + x) d = true → v.1 0 (z * 7 + t) b = true) → n ≤ N → va_P D vwA (sW a kI kL kZ v) H → va_D (sA a) (sW a kI kL kZ v) → va_S (sA a) s.heap H locs → N - n < fu → lv_has ls 7 [(4, .int (nI n)), (3, .int (nI y)), (2, .int (nI x)), (0, .ref (a 3)), (1, .int (nI k))] → W p l e R s m ([.ref (a 3), .int (nI k)] : List Value).toArray below meth c H locs 0 0 Q (F0 m 199 ls []) := by
    intro fu
    induction fu with
    | zero => intros; omega
    | succ fu ih199 =>
      intro n v ls H locs g1 g2 g3 g4 hP hD hS hfu hl
      refine lv_iload hx hb dC_hear_199 (lv_at hl 0 rfl) ?_
      refine lv_aload_n hx hb dC_hear_201 rfl (lv_at hl 3 rfl) ?_
      refine gf_C_11 (v := .ref (a 1)) hx hb hA hown hK hP 3 rfl rfl dC_hear_202 ?_
      refine ks_rv ⟨hx, hb, hml, hown, hA⟩ (c_size l D a kI kL kZ v  ) (kw_C_82 hA rfl rfl ⟨Nat.le_trans (Nat.le_of_ble_eq_true rfl) hRf, Nat.le_trans (Nat.le_of_ble_eq_true rfl) hRl⟩) hK hP hS 1 1 rfl rfl rfl hl.1 (Nat.le_of_ble_eq_true rfl) ⟨by omega, by omega⟩ dC_hear_205 rfl (fun H locs hP hS => ?_)
      refine tq_i (congrArg nI (tm_N (tm_ext htm g1)).1) ?_
      refine tq_ge hx hb dC_hear_208 (tgt := 283) (by decide) (by omega) (by omega) (fun h208 => ?_) (fun h208 => ?_)
      · subst hQe
        exact W.vret hx hb hr (fun t ht hW => ⟨⟨v, rfl, ⟨g1, g2, fun d a1 => g3 d (by omega)⟩, tq_hp ht hP⟩, hS.F ht⟩) hS.2.2 dC_hear_283
      · refine lv_iload hx hb dC_hear_211 (lv_at hl 0 rfl) ?_
        refine lv_iload_n hx hb dC_hear_213 rfl (lv_at hl 1 rfl) ?_
        refine ks_s ⟨hx, hb, hml, hown, hA⟩ (c_row l n y) (kw_C_57 hA rfl rfl ⟨Nat.le_trans (Nat.le_of_ble_eq_true rfl) hRf, Nat.le_trans (Nat.le_of_ble_eq_true rfl) hRl⟩) hP hS rfl hl.1 (Nat.le_of_ble_eq_true rfl) ⟨by omega, by omega⟩ dC_hear_214 rfl (fun H locs hP hS => ?_)
        refine lv_istore (lv' := [(5, .int (nI (n * 7 + y))), (4, .int (nI n)), (3, .int (nI y)), (2, .int (nI x)), (0, .ref (a 3)), (1, .int (nI k))]) hx hb dC_hear_217 hl (by decide) rfl (fun ls hl => ?_)
        refine lv_aload_n hx hb dC_hear_219 rfl (lv_at hl 4 rfl) ?_
        refine gf_C_24 (v := .ref (a 14)) hx hb hA hown hK hP 3 rfl rfl dC_hear_220 ?_
        refine lv_iload hx hb dC_hear_223 (lv_at hl 0 rfl) ?_
        refine lv_iconst (v := nI 0) hx hb dC_hear_225 (by decide +kernel) ?_
        refine k_next ⟨hx, hb, hml, hown, hA⟩ (kw_C_69 hA rfl rfl ⟨Nat.le_trans (Nat.le_of_ble_eq_true rfl) hRf, Nat.le_trans (Nat.le_of_ble_eq_true rfl) hRl⟩) hK hP hS 14 15 1 rfl rfl rfl (by decide) (by omega) (by decide) (by decide) (by omega) (by omega) hl.1 (Nat.le_of_ble_eq_true rfl) ⟨by omega, by omega⟩ dC_hear_226 (fun r1 H locs hr1 hP hS => ?_)
        refine lv_istore (lv' := [(6, .int (nI r1)), (5, .int (nI (n * 7 + y))), (4, .int (nI n)), (3, .int (nI y)), (2, .int (nI x)), (0, .ref (a 3)), (1, .int (nI k))]) hx hb dC_hear_229 hl (by decide) rfl (fun ls hl => ?_)
        have lp : ∀ (fu : Nat) (r : Nat) (v2 : sU) (ls : Array Slot) (H : Heap) (locs : List Loc), s_ext (s_put u 6 (x * 6 + y) t) v2 → s_snd (s_put u 6 (x * 6 + y) t) v2 (fun (G : Nat → Nat → Prop) => ∀ z d b, z < 160 → G (z * 7 + x) d → G (d * 7 + y) b → G (z * 7 + t) b) → (∀ d, d < n → ∀ b, b < 160 → u.1 0 (d * 7 + y) b = true → ∀ z, z < 160 → u.1 0 (z * 7 + x) d = true → v2.1 0 (z * 7 + t) b = true) → (∀ b, b < r → b < 160 → u.1 0 (n * 7 + y) b = true → ∀ z, z < 160 → u.1 0 (z * 7 + x) n = true → v2.1 0 (z * 7 + t) b = true) → (r < 160 → v2.1 0 (n * 7 + y) r = true) → r < 224 → va_P D vwA (sW a kI kL kZ v2) H → va_D (sA a) (sW a kI kL kZ v2) → va_S (sA a) s.heap H locs → 224 - r < fu → lv_has ls 7 [(6, .int (nI r)), (5, .int (nI (n * 7 + y))), (4, .int (nI n)), (3, .int (nI y)), (2, .int (nI x)), (0, .ref (a 3)), (1, .int (nI k))] → W p l e R s m ([.ref (a 3), .int (nI k)] : List Value).toArray below meth c H locs 0 0 Q (F0 m 231 ls []) := by
          intro fu
          induction fu with
          | zero => intros; omega
          | succ fu ih231 =>
            intro r v2 ls H locs k1 k2 k3 k4 k5 k6 hP hD hS hfu hl
            refine lv_iload hx hb dC_hear_231 (lv_at hl 0 rfl) ?_
            refine lv_sipush (v := nI 160) hx hb dC_hear_233 (by decide +kernel) ?_
            refine tq_ge hx hb dC_hear_236 (tgt := 277) (by decide) (by omega) (by omega) (fun h236 => ?_) (fun h236 => ?_)
            · refine lv_iinc (k := 2) (lv' := [(4, .int (nI (n + 1))), (6, .int (nI r)), (5, .int (nI (n * 7 + y))), (3, .int (nI y)), (2, .int (nI x)), (0, .ref (a 3)), (1, .int (nI k))]) hx hb dC_hear_277 hl rfl (nI_1 _) (by decide) rfl (fun ls hl => ?_)
              refine lv_goto hx hb dC_hear_280 (tgt := 199) (by decide) ?_
              exact ih199 (n + 1) v2 ls H locs k1 k2 (lt_s (p := fun d => ∀ b, b < 160 → u.1 0 (d * 7 + y) b = true → ∀ z, z < 160 → u.1 0 (z * 7 + x) d = true → v2.1 0 (z * 7 + t) b = true) k3 (fun b a1 => k4 b (by omega) a1)) (by omega) hP hD hS (by omega) (lv_sub hl [0, 3, 4, 5, 6] rfl)
            · refine lv_aload_n hx hb dC_hear_239 rfl (lv_at hl 5 rfl) ?_
              refine lv_iload hx hb dC_hear_240 (lv_at hl 2 rfl) ?_
              refine lv_iload_n hx hb dC_hear_242 rfl (lv_at hl 4 rfl) ?_
              refine ks_s ⟨hx, hb, hml, hown, hA⟩ (c_row l n x) (kw_C_57 hA rfl rfl ⟨Nat.le_trans (Nat.le_of_ble_eq_true rfl) hRf, Nat.le_trans (Nat.le_of_ble_eq_true rfl) hRl⟩) hP hS rfl hl.1 (Nat.le_of_ble_eq_true rfl) ⟨by omega, by omega⟩ dC_hear_243 rfl (fun H locs hP hS => ?_)
              refine lv_aload_n hx hb dC_hear_246 rfl (lv_at hl 5 rfl) ?_
              refine gf_C_15 (v := .ref (a 2)) hx hb hA hown hK hP 3 rfl rfl dC_hear_247 ?_
              refine lv_iload_n hx hb dC_hear_250 rfl (lv_at hl 6 rfl) ?_
              refine ks_rv ⟨hx, hb, hml, hown, hA⟩ (c_axthird l D a kI kL kZ v2 k (by omega) (by omega)) (kw_C_116 hA rfl rfl ⟨Nat.le_trans (Nat.le_of_ble_eq_true rfl) hRf, Nat.le_trans (Nat.le_of_ble_eq_true rfl) hRl⟩) hK hP hS 2 2 rfl rfl rfl hl.1 (Nat.le_of_ble_eq_true rfl) ⟨by omega, by omega⟩ dC_hear_251 rfl (fun H locs hP hS => ?_)
              refine tq_i (show v2.2.1 7 (k - 1) = nI t from (by rw [k1.2.2.2.2.2.2]; exact e7)) ?_
              refine lv_iload hx hb dC_hear_254 (lv_at hl 0 rfl) ?_
              refine ks_v (wf := sW a kI kL kZ) (u := v2) ⟨hx, hb, hml, hown, hA⟩ (c_addFromAll l D a kI kL kZ v2 n x t r (tr_ext htr k1) (by omega) (by omega) (by omega) (by omega)) (kw_C_113 hA rfl rfl ⟨Nat.le_trans (Nat.le_of_ble_eq_true rfl) hRf, Nat.le_trans (Nat.le_of_ble_eq_true rfl) hRl⟩) hK hP hD hS (fun _ h => h) (fun u' => sW_adr u') 3 3 rfl rfl rfl hl.1 (Nat.le_of_ble_eq_true rfl) ⟨by omega, by omega⟩ dC_hear_256 rfl (fun u2 H locs hu2 hP hD hS => ?_)
              refine lv_aload_n hx hb dC_hear_259 rfl (lv_at hl 5 rfl) ?_
              refine gf_C_24 (v := .ref (a 14)) hx hb hA hown hK hP 3 rfl rfl dC_hear_260 ?_
              refine lv_iload hx hb dC_hear_263 (lv_at hl 1 rfl) ?_
              refine lv_iload hx hb dC_hear_265 (lv_at hl 0 rfl) ?_
              refine lv_iconst (v := nI 1) hx hb dC_hear_267 (by decide +kernel) ?_
              refine tq_iadd hx hb dC_hear_268 ?_
              refine k_next ⟨hx, hb, hml, hown, hA⟩ (kw_C_69 hA rfl rfl ⟨Nat.le_trans (Nat.le_of_ble_eq_true rfl) hRf, Nat.le_trans (Nat.le_of_ble_eq_true rfl) hRl⟩) hK hP hS 14 15 1 rfl rfl rfl (by decide) (by omega) (by decide) (by decide) (by omega) (by omega) hl.1 (Nat.le_of_ble_eq_true rfl) ⟨by omega, by omega⟩ dC_hear_269 (fun r3 H locs hr3 hP hS => ?_)
              refine lv_istore (lv' := [(6, .int (nI r3)), (5, .int (nI (n * 7 + y))), (4, .int (nI n)), (3, .int (nI y)), (2, .int (nI x)), (0, .ref (a 3)), (1, .int (nI k))]) hx hb dC_hear_272 hl (by decide) rfl (fun ls hl => ?_)
              refine lv_goto hx hb dC_hear_274 (tgt := 231) (by decide) ?_
              have hge := hr3.1
              have hlt := hr3.2.1
              exact ih231 r3 u2 ls H locs (ext_trans k1 hu2.1) (from_snd (by omega) (by omega) (tr_ext htr k1) k2 hu2.2 (fun G h1 h2 z a1 a2 => h1 z n r a1 a2 (h2 _ _ (k5 h236)))) (fun d a1 b a2 a3 z a4 a5 => hu2.1.1 _ _ (k3 d a1 b a2 a3 z a4 a5)) (nx_mono_step (P := fun b => u.1 0 (n * 7 + y) b = true → ∀ z, z < 160 → u.1 0 (z * 7 + x) n = true → u2.1 0 (z * 7 + t) b = true) (fun b a1 a2 a3 z a4 a5 => hu2.1.1 _ _ (k4 b a1 a2 a3 z a4 a5)) (fun _ z a4 a5 => from_all (by omega) (by omega) (tr_ext htr k1) k1 hu2.2 a4 a5) hr3 (fun b a1 a2 a3 _ _ _ => absurd ((ext_trans k1 hu2.1).1 _ _ a3) (by rw [a2]; decide))) hr3.2.2.2 (by omega) hP hD hS (by omega) (lv_sub hl [0, 1, 2, 3, 4, 5, 6] rfl)
        have hlt := hr1.2.1
        exact lp _ r1 v ls _ _ g1 g2 g3 (nx_mono_first (P := fun b => u.1 0 (n * 7 + y) b = true → ∀ z, z < 160 → u.1 0 (z * 7 + x) n = true → v.1 0 (z * 7 + t) b = true) hr1 (fun b a1 a2 a3 _ _ _ => absurd (g1.1 _ _ a3) (by rw [a2]; decide))) hr1.2.2.2 (by omega) hP hD hS (Nat.lt_succ_self _) (lv_sub hl [0, 1, 2, 3, 4, 5, 6] rfl)
  exact lp _ 0 (va_up u.1 6 (tm_put (u.1 6) ((x * 6) + y) t), u.2.1, u.2.2) ls _ _ (ext_refl _) snd_refl (fun b a => absurd a (Nat.not_lt_zero b)) (by omega) hP hD hS (Nat.lt_succ_self _) (lv_sub hl [0, 1, 2, 3, 4] rfl)
end
section
/-! Saturation: the invariant, one draw, the measure. -/
def FF (u : sU) (c r d : Nat) : Prop := r < 7 ∧ u.1 0 (c * 7 + r) d = true
def QQ (u : sU) (c r d : Nat) : Prop := r < 7 ∧ u.1 2 (c * 7 + r) d = true
def TAu (u : sU) (a b : Nat) : Prop := u.1 4 a b = true
def TRu (u : sU) (r s : Nat) : Prop := u.1 5 r s = true
def TCu (u : sU) (r s t : Nat) : Prop := r < 6 ∧ s < 6 ∧ u.1 6 (r * 6 + s) t = true
def s_beg (u : sU) (x : Nat) : Prop := u.1 0 (x * 7 + 6) x = true ∧ u.1 0 (x * 7 + 6) 0 = true
/-- what always holds of the closure's tables -/
def s_bas (u : sU) (N : Nat) (kd fa fb : Nat → Nat) : Prop :=
  s_tm u N kd fa fb ∧ s_tr u ∧ (∀ y b, u.1 0 y b = true → y < N * 7 ∧ b < N) ∧ (∀ y b, u.1 2 y b = true → u.1 0 y b = true) ∧ (∀ y, u.1 3 0 y = true → ∃ b, u.1 0 y b = true) ∧
  ((∀ a b, u.1 4 a b = true → a < N ∧ b < N) ∧ (∀ r s, u.1 5 r s = true → r < 6 ∧ s < 6) ∧ (∀ q t, u.1 6 q t = true → q < 36 ∧ t < 6)) ∧
  (∀ x r d, r < 7 → u.1 0 (x * 7 + r) d = true → s_beg u x)
def s_sat (u : sU) (N : Nat) (kd fa fb : Nat → Nat) : Prop := tm_Sat N kd fa fb (TAu u) (TRu u) (TCu u) (FF u) (QQ u)
/-- more facts, the told tables and all else the same -/
def s_gro (u v : sU) : Prop := (∀ y b, u.1 0 y b = true → v.1 0 y b = true) ∧ (∀ i, 4 ≤ i → v.1 i = u.1 i) ∧ v.2 = u.2
theorem gro_refl (u : sU) : s_gro u u := ⟨fun _ _ h => h, fun _ _ => rfl, rfl⟩
theorem gro_trans {u v w : sU} (h : s_gro u v) (k : s_gro v w) : s_gro u w := ⟨fun y b z => k.1 y b (h.1 y b z), fun i hi => (k.2.1 i hi).trans (h.2.1 i hi), k.2.2.trans h.2.2⟩
theorem gro_ext {u v : sU} (h : s_ext u v) : s_gro u v := ⟨h.1, h.2.2.2.2.2.1, h.2.2.2.2.2.2⟩
/-- sets of facts that are closed under all rules -/
def s_rules (u : sU) (N : Nat) (kd fa fb : Nat → Nat) (G : Nat → Nat → Prop) : Prop :=
  (∀ x a b, u.1 4 a b = true → G (x * 7 + 6) a → G (x * 7 + 6) b) ∧
  (∀ x k, k < N → kd k = 2 → G (x * 7 + 6) k → G (x * 7 + 6) (fa k) ∧ G (x * 7 + 6) (fb k)) ∧
  (∀ x k, k < N → kd k = 2 → G (x * 7 + 6) (fa k) → G (x * 7 + 6) (fb k) → G (x * 7 + 6) k) ∧
  (∀ x k, k < N → kd k = 3 → G (x * 7 + 6) k → G (x * 7 + fa k) (fb k)) ∧
  (∀ x y k, k < N → kd k = 3 → G (x * 7 + fa k) y → G (y * 7 + 6) (fb k) → G (x * 7 + 6) k) ∧
  (∀ x y r t, r < 6 → u.1 5 r t = true → G (x * 7 + r) y → G (x * 7 + t) y) ∧
  (∀ x y z r q t, r < 6 → q < 6 → u.1 6 (r * 6 + q) t = true → G (x * 7 + r) y → G (y * 7 + q) z → G (x * 7 + t) z) ∧
  (∀ x y r, r < 6 → G (x * 7 + r) y → G (y * 7 + 6) y ∧ G (y * 7 + 6) 0) ∧
  (∀ x y r, r < 6 → G (x * 7 + r) y → G (y * 7 + 6) 1 → G (x * 7 + 6) 1)
theorem rules_gro {u v : sU} {N : Nat} {kd fa fb : Nat → Nat} {G : Nat → Nat → Prop} (h : s_gro u v) : s_rules v N kd fa fb G ↔ s_rules u N kd fa fb G := by
  unfold s_rules
  rw [h.2.1 4 (by decide), h.2.1 5 (by decide), h.2.1 6 (by decide)]
/-- the fact is taken out of the fresh ones -/
def s_take (u : sU) (y b : Nat) : sU := (va_up u.1 2 (tm_drop (u.1 2) y b), u.2.1, u.2.2)
theorem take_gro (u : sU) (y b : Nat) : s_gro u (s_take u y b) := ⟨fun _ _ h => h, fun i hi => va_up_ne _ _ (by omega), rfl⟩
theorem draw_gen {v w : sU} {N : Nat} {kd fa fb : Nat → Nat} {x i d : Nat} (hi : i < 7) (hb : s_bas v N kd fa fb) (hs : s_sat v N kd fa fb) (hfr : ∀ y b, v.1 2 y b = true → v.1 3 0 y = true ∨ (y = x * 7 + i ∧ d ≤ b)) (hx : s_ext (s_take v (x * 7 + i) d) w)
    (hd : tm_Drawn N kd fa fb (TAu v) (TRu v) (TCu v) (FF v) (FF w) x i d) (hR : ∀ y b, w.1 0 y b = true → y < N * 7 ∧ b < N) (hB : ∀ x r d, r < 7 → w.1 0 (x * 7 + r) d = true → s_beg w x) :
    s_bas w N kd fa fb ∧ s_sat w N kd fa fb ∧ ∀ y b, w.1 2 y b = true → w.1 3 0 y = true ∨ (y = x * 7 + i ∧ d + 1 ≤ b) := by
  obtain ⟨b1, b2, b3, b4, b5, b6, b7⟩ := hb
  have hg := gro_trans (take_gro v (x * 7 + i) d) (gro_ext hx)
  have htr : s_tr (s_take v (x * 7 + i) d) := b2
  have htm : s_tm (s_take v (x * 7 + i) d) N kd fa fb := b1
  refine ⟨⟨tm_ext htm hx, tr_ext htr hx, hR, fun y b z => ?_, fun y z => ?_, ?_, hB⟩, ?_, fun y b z => ?_⟩
  · rcases (hx.2.2.1 y b).mp z with z | z
    · exact hx.1 y b (b4 y b (tm_drop_iff.mp z).1)
    · exact z.1
  · rcases (hx.2.2.2.1 y).mp z with z | ⟨b, z⟩
    · obtain ⟨b, z⟩ := b5 y z
      exact ⟨b, hx.1 y b z⟩
    · exact ⟨b, z.1⟩
  · rw [hg.2.1 4 (by decide), hg.2.1 5 (by decide), hg.2.1 6 (by decide)]
    exact b6
  · have e4 : TAu w = TAu v := by unfold TAu; rw [hg.2.1 4 (by decide)]
    have e5 : TRu w = TRu v := by unfold TRu; rw [hg.2.1 5 (by decide)]
    have e6 : TCu w = TCu v := by unfold TCu; rw [hg.2.1 6 (by decide)]
    unfold s_sat
    rw [e4, e5, e6]
    refine tm_Sat_draw (c := x) (rel := i) (d := d) hs (fun c r y z => ⟨z.1, hg.1 _ _ z.2⟩) (fun c r y z1 z2 => ?_) hd (fun k hk h3 => (tm_3 b1 hk h3).2.2.1)
    have h9 : ¬ w.1 2 (c * 7 + r) y = true := fun z => z2 ⟨z1.1, z⟩
    have hF : v.1 0 (c * 7 + r) y = true := by
      refine Classical.byContradiction (fun z => h9 ((hx.2.2.1 _ _).mpr (Or.inr ⟨z1.2, z⟩)))
    refine ⟨⟨z1.1, hF⟩, ?_⟩
    by_cases hq : v.1 2 (c * 7 + r) y = true
    · refine Or.inr ?_
      have h8 : ¬ tm_drop (v.1 2) (x * 7 + i) d (c * 7 + r) y = true := fun z => h9 ((hx.2.2.1 _ _).mpr (Or.inl z))
      have h7 : c * 7 + r = x * 7 + i ∧ y = d := Classical.byContradiction (fun z => h8 (tm_drop_iff.mpr ⟨hq, z⟩))
      obtain ⟨q1, q2⟩ := row_inj z1.1 hi h7.1
      exact ⟨q1, q2, h7.2⟩
    · exact Or.inl (fun z => hq z.2)
  · rcases (hx.2.2.1 y b).mp z with z | z
    · obtain ⟨z1, z2⟩ := tm_drop_iff.mp z
      rcases hfr y b z1 with q | q
      · exact Or.inl ((hx.2.2.2.1 y).mpr (Or.inl q))
      · refine Or.inr ⟨q.1, ?_⟩
        have : ¬ b = d := fun e => z2 ⟨q.1, e⟩
        omega
    · exact Or.inl ((hx.2.2.2.1 y).mpr (Or.inr ⟨b, z⟩))
/-- the measure: facts that aren't there, and fresh rows -/
def s_mu (u : sU) : Nat := tm_sum (fun y => (160 - tm_cnt (u.1 0 y) 160) + (if u.1 3 0 y then 1 else 0)) 1120
theorem cnt_mono {f g : Nat → Bool} {n : Nat} (h : ∀ b, b < n → f b = true → g b = true) : tm_cnt f n ≤ tm_cnt g n := tm_sum_mono (fun i hi => by
  cases q : f i with
  | false => simp
  | true => simp [h i hi q])
theorem cnt_lt {f g : Nat → Bool} {n b : Nat} (h : ∀ b, b < n → f b = true → g b = true) (hb : b < n) (h1 : ¬ f b = true) (h2 : g b = true) : tm_cnt f n < tm_cnt g n := tm_sum_lt (fun i hi => by
  cases q : f i with
  | false => simp
  | true => simp [h i hi q]) ⟨b, hb, by simp [h1, h2]⟩
theorem mu_ext {u v : sU} (h : s_ext u v) : s_mu v ≤ s_mu u := tm_sum_mono (fun y hy => by
  by_cases q : ∃ b, v.1 0 y b = true ∧ ¬ u.1 0 y b = true
  · obtain ⟨b, q1, q2⟩ := q
    have hb : b < 160 := ((h.2.1 y b q1).elim (fun z => absurd z q2) id).2
    have h1 := cnt_lt (n := 160) (fun b _ z => h.1 y b z) hb q2 q1
    have h2 := tm_cnt_le (v.1 0 y) 160
    split <;> split <;> omega
  · have e : (v.1 3 0 y = true) ↔ (u.1 3 0 y = true) := ⟨fun z => ((h.2.2.2.1 y).mp z).elim id (fun z => absurd z q), fun z => (h.2.2.2.1 y).mpr (Or.inl z)⟩
    have h1 := cnt_mono (n := 160) (fun b _ z => h.1 y b z)
    by_cases z : u.1 3 0 y = true
    · rw [if_pos z, if_pos (e.mpr z)]; omega
    · rw [if_neg z, if_neg (fun w => z (e.mp w))]; omega)
theorem mu_top {u : sU} {N : Nat} (hN : N ≤ 160) (h1 : ∀ y b, u.1 0 y b = true → y < N * 7 ∧ b < N) (h2 : ∀ y, u.1 3 0 y = true → ∃ b, u.1 0 y b = true) : s_mu u ≤ 179200 := by
  have := tm_sum_le (g := fun y => (160 - tm_cnt (u.1 0 y) 160) + (if u.1 3 0 y then 1 else 0)) (k := 160) (n := 1120) (fun y _ => by
    by_cases z : u.1 3 0 y = true
    · obtain ⟨b, hb⟩ := h2 y z
      have h3 := cnt_lt (f := fun _ => false) (g := u.1 0 y) (n := 160) (fun _ _ q => by cases q) (show b < 160 by have := (h1 y b hb).2; omega) (by decide) hb
      rw [if_pos z]
      omega
    · rw [if_neg z]; omega)
  exact this
/-- a fresh row is taken -/
def s_trow (u : sU) (y : Nat) : sU := (va_up u.1 3 (tm_drop (u.1 3) 0 y), u.2.1, u.2.2)
theorem mu_trow {u : sU} {y : Nat} (hy : y < 1120) (h : u.1 3 0 y = true) : s_mu (s_trow u y) < s_mu u := by
  refine tm_sum_lt (fun z hz => ?_) ⟨y, hy, ?_⟩
  · show _ + (if tm_drop (u.1 3) 0 y 0 z = true then 1 else 0) ≤ _
    by_cases q : tm_drop (u.1 3) 0 y 0 z = true
    · rw [if_pos q, if_pos (tm_drop_iff.mp q).1]
      exact Nat.le_refl _
    · rw [if_neg q]
      exact Nat.le_add_right _ _
  · show _ + (if tm_drop (u.1 3) 0 y 0 y = true then 1 else 0) < _
    rw [if_neg (fun q => (tm_drop_iff.mp q).2 ⟨rfl, rfl⟩), if_pos h]
    exact Nat.lt_succ_self _
theorem mu_0 {u : sU} (h : s_mu u = 0) {y : Nat} (hy : y < 1120) : ¬ u.1 3 0 y = true := fun z => by
  have := tm_sum_zero h y hy
  simp [z] at this
end
section
/-! Saturation: the four ways to draw from one fact. -/
def s_drn (v w : sU) (N : Nat) (kd fa fb : Nat → Nat) (x i d : Nat) : Prop :=
  s_ext (s_take v (x * 7 + i) d) w ∧ tm_Drawn N kd fa fb (TAu v) (TRu v) (TCu v) (FF v) (FF w) x i d ∧ (∀ y b, w.1 0 y b = true → y < N * 7 ∧ b < N) ∧ (∀ x r d, r < 7 → w.1 0 (x * 7 + r) d = true → s_beg w x) ∧ s_snd v w (s_rules v N kd fa fb)
theorem beg_mono {u v : sU} {x : Nat} (h : ∀ y b, u.1 0 y b = true → v.1 0 y b = true) (k : s_beg u x) : s_beg v x := ⟨h _ _ k.1, h _ _ k.2⟩
theorem rules_range {v : sU} {N : Nat} {kd fa fb : Nat → Nat} (hb : s_bas v N kd fa fb) : s_rules v N kd fa fb (fun y b => y < N * 7 ∧ b < N) := by
  obtain ⟨b1, b2, b3, b4, b5, ⟨t1, t2, t3⟩, b7⟩ := hb
  have hN := (tm_N b1).2.1
  refine ⟨fun x a b h z => ⟨z.1, (t1 a b h).2⟩, fun x k hk h2 z => ?_, fun x k hk h2 z1 z2 => ⟨z1.1, hk⟩, fun x k hk h3 z => ?_, fun x y k hk h3 z1 z2 => ⟨by omega, hk⟩, fun x y r t hr h z => ?_, fun x y z r q t hr hq h z1 z2 => ?_, fun x y r hr z => ⟨⟨by omega, z.2⟩, by omega, by omega⟩, fun x y r hr z1 z2 => ⟨by omega, by omega⟩⟩
  · have := tm_2 b1 hk h2
    exact ⟨⟨z.1, this.2.2.1⟩, z.1, this.2.2.2⟩
  · have := tm_3 b1 hk h3
    exact ⟨by omega, this.2.2.2⟩
  · have := (t2 r t h).2
    exact ⟨by omega, z.2⟩
  · have := (t3 _ t h).2
    exact ⟨by omega, z2.2⟩
section S2
variable {v : sU} {N : Nat} {kd fa fb : Nat → Nat}
/-- nothing is drawn for an empty one -/
theorem new_D {x i d : Nat} (hi : i < 7) (hb : s_bas v N kd fa fb) (h1 : v.1 0 (x * 7 + 6) 1 = true) (h2 : ¬ (i = 6 ∧ d = 1)) : s_drn v (s_take v (x * 7 + i) d) N kd fa fb x i d := by
  obtain ⟨b1, b2, b3, b4, b5, b6, b7⟩ := hb
  exact ⟨ext_refl _, ⟨fun z1 z2 => absurd ⟨z1, z2⟩ h2, fun _ _ => Or.inl ⟨by decide, h1⟩, fun _ => Or.inl ⟨by decide, h1⟩⟩, b3, b7, fun G h _ => h⟩
/-- an empty one empties what links lead to it from -/
theorem new_A {w : sU} {x : Nat} (hb : s_bas v N kd fa fb) (hf : v.1 0 (x * 7 + 6) 1 = true) (hx : s_ext (s_take v (x * 7 + 6) 1) w) (he : s_empt (s_take v (x * 7 + 6) 1) w x 6) : s_drn v w N kd fa fb x 6 1 := by
  obtain ⟨b1, b2, b3, b4, b5, b6, b7⟩ := hb
  have hN := tm_N b1
  have hx1 : x < 160 := by have := (b3 _ _ hf).1; omega
  have hsrc : ∀ z q, z < 160 → q < 6 → v.1 1 (x * 7 + q) z = true → v.1 0 (z * 7 + q) x = true := fun z q hz hq h => (b2 z q x (by omega) hz hx1).mp h
  refine ⟨hx, ⟨fun _ _ z r hr h => ?_, fun _ z => absurd rfl z, fun z => absurd z (by decide)⟩, fun y b z => ?_, fun X r D hr z => ?_, fun G h1 h2 y b z => ?_⟩
  · have hz : z < 160 := by have := (b3 _ _ h.2).1; omega
    exact ⟨by decide, (he _ _).mpr (Or.inr ⟨rfl, z, hz, rfl, r, hr, (b2 z r x (by omega) hz hx1).mpr h.2⟩)⟩
  · rcases (he y b).mp z with z | ⟨z1, z, z2, z3, q, z4, z5⟩
    · exact b3 y b z
    · have := (b3 _ _ (hsrc z q z2 z4 z5)).1
      exact ⟨by omega, by omega⟩
  · refine beg_mono hx.1 (?_ : s_beg v X)
    rcases (he _ _).mp z with z | ⟨z1, z, z2, z3, q, z4, z5⟩
    · exact b7 X r D hr z
    · obtain ⟨q1, q2⟩ := row_inj hr (show 6 < 7 by decide) z3
      rw [q1]
      exact b7 z q x (by omega) (hsrc z q z2 z4 z5)
  · rcases (he y b).mp z with z | ⟨z1, z, z2, z3, q, z4, z5⟩
    · exact h1 y b z
    · rw [z1, z3]
      exact h2.2.2.2.2.2.2.2.2 z x q z4 (h1 _ _ (hsrc z q z2 z4 z5)) (h1 _ _ hf)
theorem new_B {w1 w2 w3 w : sU} {x d : Nat} (hb : s_bas v N kd fa fb) (hf : v.1 0 (x * 7 + 6) d = true) (hd1 : ¬ d = 1)
    (h1 : s_ext (s_take v (x * 7 + 6) d) w1 ∧ ∀ y b, w1.1 0 y b = true ↔ (s_take v (x * 7 + 6) d).1 0 y b = true ∨ (y = x * 7 + 6 ∧ b < 160 ∧ (s_take v (x * 7 + 6) d).1 4 d b = true))
    (h2 : s_ext w1 w2 ∧ s_parts w1 w2 kd fa fb x d) (h3 : s_ext w2 w3 ∧ s_snd w2 w3 (s_bothR N kd fa fb x d) ∧ ∀ b, b < N → s_bothC w2 w3 kd fa fb x d b) (h4 : s_ext w3 w ∧ s_somes w3 w N kd fa fb x d 6) : s_drn v w N kd fa fb x 6 d := by
  have hb0 := hb
  obtain ⟨b1, b2, b3, b4, b5, b6, b7⟩ := hb
  have hN := tm_N b1
  have hx1 : x < 160 := by have := (b3 _ _ hf).1; omega
  have hdN := (b3 _ _ hf).2
  have m1 : ∀ y b, v.1 0 y b = true → w1.1 0 y b = true := h1.1.1
  have m2 := h2.1.1
  have m3 := h3.1.1
  have m4 := h4.1.1
  have hx : s_ext (s_take v (x * 7 + 6) d) w := ext_trans (ext_trans (ext_trans h1.1 h2.1) h3.1) h4.1
  have htr3 : s_tr w3 := tr_ext (u := s_take v (x * 7 + 6) d) b2 (ext_trans (ext_trans h1.1 h2.1) h3.1)
  -- what any closed set has
  have snd : ∀ G : Nat → Nat → Prop, (∀ y b, v.1 0 y b = true → G y b) → (∀ b, v.1 4 d b = true → G (x * 7 + 6) b) → (kd d = 2 → G (x * 7 + 6) (fa d) ∧ G (x * 7 + 6) (fb d)) → (kd d = 3 → G (x * 7 + fa d) (fb d)) → s_bothR N kd fa fb x d G → (∀ k z, k < N → kd k = 3 → fb k = d → z < 160 → G (z * 7 + fa k) x → G (z * 7 + 6) k) → ∀ y b, w.1 0 y b = true → G y b := by
    intro G g0 g1 g2 g3 g4 g5
    have a1 : ∀ y b, w1.1 0 y b = true → G y b := fun y b z => by
      rcases (h1.2 y b).mp z with z | ⟨z1, _, z3⟩
      · exact g0 y b z
      · rw [z1]; exact g1 b z3
    have a2 : ∀ y b, w2.1 0 y b = true → G y b := fun y b z => by
      rcases (h2.2 y b).mp z with z | ⟨z1, z2, z3 | z3⟩ | ⟨z1, z2, z3⟩
      · exact a1 y b z
      · rw [z2, z3]; exact (g2 z1).1
      · rw [z2, z3]; exact (g2 z1).2
      · rw [z2, z3]; exact g3 z1
    have a3 := h3.2.1 G a2 g4
    intro y b z
    rcases (h4.2 y b).mp z with z | ⟨z1, z2, z3, z4, z, z5, z6, z7⟩
    · exact a3 y b z
    · rw [z6]
      exact g5 b z z1 z2 z4 z5 (a3 _ _ ((htr3 z (fa b) x (by omega) z5 hx1).mp z7))
  have sr : s_snd v w (s_rules v N kd fa fb) := fun G g0 gr => by
    obtain ⟨r1, r2, r3, r4, r5, r6, r7, r8, r9⟩ := gr
    have gd := g0 _ _ hf
    exact snd G g0 (fun b z => r1 x d b z gd) (fun z => r2 x d hdN z gd) (fun z => r4 x d hdN z gd) (fun b hb2 h2 z => r3 x b hb2 h2 (z.elim (fun z => by rw [z.1]; exact gd) (fun z => z.2)) (z.elim (fun z => z.2) (fun z => by rw [z.1]; exact gd))) (fun k z hk h3 e hz g => r5 z x k hk h3 g (by rw [e]; exact gd))
  refine ⟨hx, ⟨fun _ z => absurd z hd1, fun _ _ => Or.inr ⟨fun b z => ?_, fun _ z => ?_, fun k hk h2' e z => ?_, fun k hk h2' e z => ?_, fun _ z => ?_, fun k X hk h3' e z => ?_⟩, fun z => absurd z (by decide)⟩, sr _ b3 (rules_range hb0), ?_, sr⟩
  · exact ⟨by decide, m4 _ _ (m3 _ _ (m2 _ _ ((h1.2 _ _).mpr (Or.inr ⟨rfl, by have := (b6.1 d b z).2; omega, z⟩))))⟩
  · exact ⟨⟨by decide, m4 _ _ (m3 _ _ ((h2.2 _ _).mpr (Or.inr (Or.inl ⟨z, rfl, Or.inl rfl⟩))))⟩, by decide, m4 _ _ (m3 _ _ ((h2.2 _ _).mpr (Or.inr (Or.inl ⟨z, rfl, Or.inr rfl⟩))))⟩
  · exact ⟨by decide, m4 _ _ ((h3.2.2 k hk).1 h2' e (m2 _ _ (m1 _ _ z.2)))⟩
  · exact ⟨by decide, m4 _ _ ((h3.2.2 k hk).2 h2' e (m2 _ _ (m1 _ _ z.2)))⟩
  · have := tm_3 b1 hdN z
    exact ⟨by omega, m4 _ _ (m3 _ _ ((h2.2 _ _).mpr (Or.inr (Or.inr ⟨z, rfl, rfl⟩))))⟩
  · have hz : X < 160 := by have := (b3 _ _ z.2).1; have := z.1; omega
    have := tm_3 b1 hk h3'
    exact ⟨by decide, (h4.2 _ _).mpr (Or.inr ⟨hk, h3', this.2.2.1, e, X, hz, rfl, (htr3 X (fa k) x (by omega) hz hx1).mpr (m3 _ _ (m2 _ _ (m1 _ _ z.2)))⟩)⟩
  · intro X r D hr z
    refine beg_mono hx.1 (?_ : s_beg v X)
    have hbx : s_beg v x := b7 x 6 d (by decide) hf
    have e6 : ∀ r, r < 7 → (x * 7 + r) / 7 = x := fun r hr => by omega
    have := snd (fun y _ => s_beg v (y / 7)) (fun y b z => by
        have := b7 (y / 7) (y % 7) b (Nat.mod_lt _ (by decide)) (by rw [show y / 7 * 7 + y % 7 = y by omega]; exact z)
        exact this) (fun b _ => by rw [e6 6 (by decide)]; exact hbx) (fun _ => by rw [e6 6 (by decide)]; exact ⟨hbx, hbx⟩) (fun h3' => by
          have := tm_3 b1 hdN h3'
          show s_beg v ((x * 7 + fa d) / 7)
          rw [e6 (fa d) (by omega)]; exact hbx) (fun b _ _ _ => by
          show s_beg v ((x * 7 + 6) / 7)
          rw [e6 6 (by decide)]; exact hbx) (fun k z hk h3' _ _ g => by
          have := tm_3 b1 hk h3'
          have g2 : s_beg v ((z * 7 + fa k) / 7) := g
          rw [show (z * 7 + fa k) / 7 = z by omega] at g2
          show s_beg v ((z * 7 + 6) / 7)
          rw [show (z * 7 + 6) / 7 = z by omega]; exact g2) (X * 7 + r) D z
    rw [show (X * 7 + r) / 7 = X by omega] at this
    exact this
theorem new_C {w1 w : sU} {x i d : Nat} (hi : i < 6) (hb : s_bas v N kd fa fb) (hf : v.1 0 (x * 7 + i) d = true)
    (h1 : s_ext (s_take v (x * 7 + i) d) w1 ∧ s_snd (s_take v (x * 7 + i) d) w1 (s_linkR (s_take v (x * 7 + i) d) N kd fa fb x i d) ∧ s_linkC (s_take v (x * 7 + i) d) w1 N kd fa fb x i d)
    (h2 : s_ext w1 w ∧ s_snd w1 w (s_chR w1 x i d) ∧ ∀ q, q < 6 → ∀ t, t < 6 → s_ch1 w1 w x i d q t ∧ s_ch2 w1 w x i d q t) : s_drn v w N kd fa fb x i d := by
  have hb0 := hb
  obtain ⟨b1, b2, b3, b4, b5, b6, b7⟩ := hb
  have hN := tm_N b1
  have hx1 : x < 160 := by have := (b3 _ _ hf).1; omega
  have hdN := (b3 _ _ hf).2
  have m1 : ∀ y b, v.1 0 y b = true → w1.1 0 y b = true := h1.1.1
  have m2 := h2.1.1
  have hx : s_ext (s_take v (x * 7 + i) d) w := ext_trans h1.1 h2.1
  have e5 : w1.1 5 = v.1 5 := h1.1.2.2.2.2.2.1 5 (by decide)
  have e6 : w1.1 6 = v.1 6 := h1.1.2.2.2.2.2.1 6 (by decide)
  have sr : s_snd v w (s_rules v N kd fa fb) := fun G g0 gr => by
    obtain ⟨r1, r2, r3, r4, r5, r6, r7, r8, r9⟩ := gr
    have gd := g0 _ _ hf
    have a1 := h1.2.1 G g0 ⟨(r8 x d i hi gd).1, (r8 x d i hi gd).2, fun z => r9 x d i hi gd z, fun t _ z => r6 x d i t hi z gd, fun k hk h3 e z => r5 x d k hk h3 (by rw [e]; exact gd) z⟩
    refine h2.2.1 G a1 (fun q hq t ht => ⟨fun z b g => ?_, fun z X hX g => ?_⟩)
    · rw [e6] at z
      exact r7 x d b i q t hi hq z gd g
    · rw [e6] at z
      exact r7 X x d q i t hq hi z g gd
  refine ⟨hx, ⟨fun z => absurd z (by omega), fun z => absurd z (by omega), fun _ => ?_⟩, sr _ b3 (rules_range hb0), ?_, sr⟩
  · rcases h1.2.2.2 with z | ⟨c1, c2, c3⟩
    · exact Or.inl ⟨by decide, m2 _ _ z⟩
    · refine Or.inr ⟨⟨by decide, m2 _ _ h1.2.2.1.1⟩, fun z => absurd z.2 c1, fun t z => ?_, fun k hk h3 e z => ?_, fun q t z hq ht h9 => ?_, fun q t X hq ht h9 => ?_⟩
      · have := (b6.2.1 i t z).2
        exact ⟨by omega, m2 _ _ (c2 t this z)⟩
      · exact ⟨by decide, m2 _ _ (c3 k hk h3 e z.2)⟩
      · have h8 := (b6.2.2 _ t ht.2.2).2
        refine ⟨by omega, (h2.2.2 q hq t h8).1 (by rw [e6]; exact ht.2.2) z ?_ (m1 _ _ h9.2)⟩
        have := (b3 _ _ h9.2).2
        omega
      · have h8 := (b6.2.2 _ t ht.2.2).2
        refine ⟨by omega, (h2.2.2 q hq t h8).2 (by rw [e6]; exact ht.2.2) X ?_ (m1 _ _ h9.2)⟩
        have := (b3 _ _ h9.2).1
        omega
  · intro X r D hr z
    refine beg_mono m2 (?_ : s_beg w1 X)
    have hbx : s_beg w1 x := beg_mono m1 (b7 x i d (by omega) hf)
    have hbd : s_beg w1 d := h1.2.2.1
    have e7 : ∀ X r, r < 7 → (X * 7 + r) / 7 = X := fun X r hr => by omega
    have g0 : ∀ y b, v.1 0 y b = true → s_beg w1 (y / 7) := fun y b z => beg_mono m1 (b7 (y / 7) (y % 7) b (Nat.mod_lt _ (by decide)) (by rw [show y / 7 * 7 + y % 7 = y by omega]; exact z))
    have g1 := h1.2.1 (fun y _ => s_beg w1 (y / 7)) g0 ⟨by show s_beg w1 ((d * 7 + 6) / 7); rw [e7 d 6 (by decide)]; exact hbd, by show s_beg w1 ((d * 7 + 6) / 7); rw [e7 d 6 (by decide)]; exact hbd, fun _ => by show s_beg w1 ((x * 7 + 6) / 7); rw [e7 x 6 (by decide)]; exact hbx,
      fun t ht _ => by show s_beg w1 ((x * 7 + t) / 7); rw [e7 x t (by omega)]; exact hbx, fun k _ _ _ _ => by show s_beg w1 ((x * 7 + 6) / 7); rw [e7 x 6 (by decide)]; exact hbx⟩
    have g2 := h2.2.1 (fun y _ => s_beg w1 (y / 7)) g1 (fun q hq t ht => ⟨fun _ b _ => by show s_beg w1 ((x * 7 + t) / 7); rw [e7 x t (by omega)]; exact hbx, fun _ X _ g => by
      have g2 : s_beg w1 ((X * 7 + q) / 7) := g
      rw [e7 X q (by omega)] at g2
      show s_beg w1 ((X * 7 + t) / 7)
      rw [e7 X t (by omega)]; exact g2⟩) (X * 7 + r) D z
    rw [e7 X r hr] at g2
    exact g2
end S2
/-- within one row; between rows; at the end -/
def s_in (u v : sU) (N : Nat) (kd fa fb : Nat → Nat) (tk r M : Nat) : Prop := s_bas v N kd fa fb ∧ s_sat v N kd fa fb ∧ (∀ y b, v.1 2 y b = true → v.1 3 0 y = true ∨ (y = tk ∧ r ≤ b)) ∧ s_mu v ≤ M ∧ s_gro u v ∧ s_snd u v (s_rules u N kd fa fb)
def s_out (u v : sU) (N : Nat) (kd fa fb : Nat → Nat) (M : Nat) : Prop := s_bas v N kd fa fb ∧ s_sat v N kd fa fb ∧ (∀ y b, v.1 2 y b = true → v.1 3 0 y = true) ∧ s_mu v ≤ M ∧ s_gro u v ∧ s_snd u v (s_rules u N kd fa fb)
def s_done (u v : sU) (N : Nat) (kd fa fb : Nat → Nat) : Prop := s_bas v N kd fa fb ∧ s_sat v N kd fa fb ∧ (∀ y b, ¬ v.1 2 y b = true) ∧ (∀ y, y < 1120 → ¬ v.1 3 0 y = true) ∧ s_gro u v ∧ s_snd u v (s_rules u N kd fa fb)
theorem in_step {u v w : sU} {N : Nat} {kd fa fb : Nat → Nat} {x i r r2 M : Nat} (hi : i < 7) (h : s_in u v N kd fa fb (x * 7 + i) r M) (k : s_drn v w N kd fa fb x i r) (hn : tm_nx (w.1 2 (x * 7 + i)) 160 (r + 1) r2) : s_in u w N kd fa fb (x * 7 + i) r2 M := by
  obtain ⟨a1, a2, a3, a4, a5, a6⟩ := h
  obtain ⟨k1, k2, k3, k4, k5⟩ := k
  obtain ⟨c1, c2, c3⟩ := draw_gen hi a1 a2 a3 k1 k2 k3 k4
  have hg := gro_trans (take_gro v (x * 7 + i) r) (gro_ext k1)
  refine ⟨c1, c2, fun y b z => ?_, Nat.le_trans (mu_ext k1) a4, gro_trans a5 hg, fun G g0 gr => k5 G (a6 G g0 gr) ((rules_gro a5).mpr gr)⟩
  rcases c3 y b z with q | q
  · exact Or.inl q
  · refine Or.inr ⟨q.1, ?_⟩
    rcases Nat.lt_or_ge b r2 with z2 | z2
    · have hb : b < 160 := by have := (c1.2.2.1 y b (c1.2.2.2.1 y b z)).2; have := (tm_N c1.1).2.2; omega
      have := hn.2.2.1 b q.2 z2 hb
      rw [q.1, this] at z
      cases z
    · exact z2
theorem in_enter {u v : sU} {N : Nat} {kd fa fb : Nat → Nat} {tk r M : Nat} (h : s_out u v N kd fa fb (M + 1)) (ht : tk < 1120) (hf : v.1 3 0 tk = true) (hn : tm_nx (v.1 2 tk) 160 0 r) : s_in u (s_trow v tk) N kd fa fb tk r M := by
  obtain ⟨⟨b1, b2, b3, b4, b5, b6, b7⟩, a2, a3, a4, a5, a6⟩ := h
  refine ⟨⟨b1, b2, b3, b4, fun y z => b5 y (tm_drop_iff.mp z).1, b6, b7⟩, a2, fun y b z => ?_, ?_, ⟨a5.1, fun i hi => (va_up_ne _ _ (by omega)).trans (a5.2.1 i hi), a5.2.2⟩, a6⟩
  · by_cases q : y = tk
    · refine Or.inr ⟨q, ?_⟩
      rcases Nat.lt_or_ge b r with z2 | z2
      · have hb : b < 160 := by have := (b3 y b (b4 y b z)).2; have := (tm_N b1).2.2; omega
        have e := hn.2.2.1 b (Nat.zero_le _) z2 hb
        have z3 : v.1 2 y b = true := z
        rw [q, e] at z3
        cases z3
      · exact z2
    · exact Or.inl (tm_drop_iff.mpr ⟨a3 y b z, fun w => q w.2⟩)
  · have := mu_trow ht hf
    omega
theorem in_exit {u v : sU} {N : Nat} {kd fa fb : Nat → Nat} {tk r M : Nat} (h : s_in u v N kd fa fb tk r M) (hr : 160 ≤ r) : s_out u v N kd fa fb M := by
  obtain ⟨a1, a2, a3, a4, a5, a6⟩ := h
  refine ⟨a1, a2, fun y b z => (a3 y b z).elim id (fun q => ?_), a4, a5, a6⟩
  have := (a1.2.2.1 y b (a1.2.2.2.1 y b z)).2
  have := (tm_N a1.1).2.2
  omega
theorem out_done {u v : sU} {N : Nat} {kd fa fb : Nat → Nat} {M : Nat} (h : s_out u v N kd fa fb M) (hf : ∀ y, y < 1120 → ¬ v.1 3 0 y = true) : s_done u v N kd fa fb := by
  obtain ⟨a1, a2, a3, a4, a5, a6⟩ := h
  refine ⟨a1, a2, fun y b z => hf y ?_ (a3 y b z), hf, a5, a6⟩
  have := (a1.2.2.1 y b (a1.2.2.2.1 y b z)).1
  have := (tm_N a1.1).2.2
  omega
end
section
/-! The contract of Closure.saturate. Written by wip/whole/gen/genclos6.py. -/
set_option maxHeartbeats 4000000 in
set_option maxRecDepth 100000 in
/-- Closure.saturate -/
theorem c_saturate (l : Launch) (D : va_G) (a : Nat → Nat) (kI kL kZ : ClassId) (u : sU) (N : Nat) (kd fa fb : Nat → Nat) (hbas0 : s_bas u N kd fa fb) (hsat : s_sat u N kd fa fb) (hfr : ∀ y b, u.1 2 y b = true → u.1 3 0 y = true) : Met l yC_saturate (wC_saturate :: wA) ({ frames := 4, cells := 0, slots := 0, locals := 102 }) (va_Pc [.ref (a 3)] (tq_wB D vwA (sW a kI kL kZ u) (sT kI kL kZ))) (va_Qv (fun (u' : sU) => s_done u u' N kd fa fb) (fun u' t => va_P D vwA (sW a kI kL kZ u') t.heap) (sA a)) 0 0 (sA a) := by
  refine Met.ofW (cc := bC_saturate) (maxL := 6) (ret := none) (by decide +kernel) rfl ?_
  intro p e s m args below meth c s₁ B1 hml hv
  obtain ⟨rfl, hP, hK, hD0⟩ := hv
  have hx := B1.exec
  have hb := B1.bytes
  have hr := B1.returns
  have hA : ∀ w ∈ wA, w.before ([.ref (a 3)] : List Value).toArray s = true := fun w h => atoms_spec (ws := wC_saturate :: wA) B1.pre w (List.mem_cons_of_mem _ h)
  have hown : s.vm.findClass RcC = some m.cls := findClass_of_methodNamed B1.named
  have hlocks := B1.notSynchronized
  have hS : va_S (sA a) s.heap s.heap [] := va_S.rf
  have hl := lv_entry ([.ref (a 3)]) (n := 6) (Nat.le_of_ble_eq_true rfl)
  rw [lg_entry_eq]
  generalize (lg_sl ([.ref (a 3)]) ++ List.replicate (6 - (lg_sl ([.ref (a 3)])).length) Slot.unset).toArray = ls at hl ⊢
  have hl : lv_has ls 6 [(0, .ref (a 3))] := hl
  refine tq_gen (fun R Q hRe hQe => ?_)
  have hRf : 4 ≤ R.frames := by rw [hRe]; exact Nat.le_of_ble_eq_true rfl
  have hRl : 102 ≤ R.locals := by rw [hRe]; exact Nat.le_of_ble_eq_true rfl
  have hRc : 0 ≤ R.cells := by rw [hRe]; exact Nat.le_of_ble_eq_true rfl
  have hRs : 0 ≤ R.slots := by rw [hRe]; exact Nat.le_of_ble_eq_true rfl
  have hD := sA_D hD0
  have htm := hbas0.1
  have htr := hbas0.2.1
  have hN := tm_N htm
  refine lv_iconst (v := nI 0) hx hb dC_saturate_0 (by decide +kernel) ?_
  refine lv_istore_n (lv' := [(1, .int (nI 0)), (0, .ref (a 3))]) hx hb dC_saturate_1 rfl hl (by decide) rfl (fun ls hl => ?_)
  have lp : ∀ (fu : Nat) (n : Nat) (v : sU) (ls : Array Slot) (H : Heap) (locs : List Loc), s_out u v N kd fa fb (179200 - n) → n ≤ 179200 → va_P D vwA (sW a kI kL kZ v) H → va_D (sA a) (sW a kI kL kZ v) → va_S (sA a) s.heap H locs → 179200 - n < fu → lv_has ls 6 [(1, .int (nI n)), (0, .ref (a 3))] → W p l e R s m ([.ref (a 3)] : List Value).toArray below meth c H locs 0 0 Q (F0 m 2 ls []) := by
    intro fu
    induction fu with
    | zero => intros; omega
    | succ fu ih2 =>
      intro n v ls H locs g1 g2 hP hD hS hfu hl
      refine lv_iload_n hx hb dC_saturate_2 rfl (lv_at hl 0 rfl) ?_
      refine lv_ldc hx hb hown (hA _ mct_C_119) dC_saturate_3 ?_
      refine tq_i (show (179200 : Int32) = nI 179200 from (by decide +kernel)) ?_
      refine tq_ge hx hb dC_saturate_5 (tgt := 197) (by decide) (by omega) (by omega) (fun h5 => ?_) (fun h5 => ?_)
      · subst hQe
        exact W.vret hx hb hr (fun t ht hW => ⟨⟨v, rfl, out_done g1 (fun y hy => mu_0 (by have := g1.2.2.2.1; omega) hy), tq_hp ht hP⟩, hS.F ht⟩) hS.2.2 dC_saturate_197
      · refine lv_aload_n hx hb dC_saturate_8 rfl (lv_at hl 1 rfl) ?_
        refine gf_C_34 (v := .ref (a 20)) hx hb hA hown hK hP 3 rfl rfl dC_saturate_9 ?_
        refine lv_iconst (v := nI 0) hx hb dC_saturate_12 (by decide +kernel) ?_
        refine lv_iconst (v := nI 0) hx hb dC_saturate_13 (by decide +kernel) ?_
        refine k_next ⟨hx, hb, hml, hown, hA⟩ (kw_C_69 hA rfl rfl ⟨Nat.le_trans (Nat.le_of_ble_eq_true rfl) hRf, Nat.le_trans (Nat.le_of_ble_eq_true rfl) hRl⟩) hK hP hS 20 21 1 rfl rfl rfl (by decide) (by omega) (by decide) (by decide) (by omega) (by omega) hl.1 (Nat.le_of_ble_eq_true rfl) ⟨by omega, by omega⟩ dC_saturate_14 (fun r1 H locs hr1 hP hS => ?_)
        refine lv_istore_n (lv' := [(2, .int (nI r1)), (1, .int (nI n)), (0, .ref (a 3))]) hx hb dC_saturate_17 rfl hl (by decide) rfl (fun ls hl => ?_)
        have hlt1 := hr1.2.1
        refine lv_iload_n hx hb dC_saturate_18 rfl (lv_at hl 0 rfl) ?_
        refine lv_sipush (v := nI 1120) hx hb dC_saturate_19 (by decide +kernel) ?_
        refine tq_lt hx hb dC_saturate_22 (tgt := 26) (by decide) (by omega) (by omega) (fun h22 => ?_) (fun h22 => ?_)
        · have hfr1 := hr1.2.2.2 h22
          obtain ⟨x, i, hi7, rfl⟩ : ∃ x i, i < 7 ∧ r1 = x * 7 + i := ⟨r1 / 7, r1 % 7, Nat.mod_lt _ (by decide), by omega⟩
          refine lv_aload_n hx hb dC_saturate_26 rfl (lv_at hl 2 rfl) ?_
          refine gf_C_34 (v := .ref (a 20)) hx hb hA hown hK hP 3 rfl rfl dC_saturate_27 ?_
          refine lv_iconst (v := nI 0) hx hb dC_saturate_30 (by decide +kernel) ?_
          refine lv_iload_n hx hb dC_saturate_31 rfl (lv_at hl 0 rfl) ?_
          refine k_drop ⟨hx, hb, hml, hown, hA⟩ (kw_C_120 hA rfl rfl ⟨Nat.le_trans (Nat.le_of_ble_eq_true rfl) hRf, Nat.le_trans (Nat.le_of_ble_eq_true rfl) hRl⟩) hK hP hD hS 20 21 1 rfl rfl (by decide) rfl (by omega) (by omega) (by decide) (by decide) hl.1 (Nat.le_of_ble_eq_true rfl) ⟨by omega, by omega⟩ dC_saturate_32 (fun H locs hP hD hS => ?_)
          have hP : va_P D vwA (sW a kI kL kZ (va_up v.1 3 (tm_drop (v.1 3) 0 (x * 7 + i)), v.2.1, v.2.2)) H := hP
          have hD : va_D (sA a) (sW a kI kL kZ (va_up v.1 3 (tm_drop (v.1 3) 0 (x * 7 + i)), v.2.1, v.2.2)) := hD
          refine lv_iload_n hx hb dC_saturate_35 rfl (lv_at hl 0 rfl) ?_
          refine lv_bipush (v := nI 7) hx hb dC_saturate_36 (by decide +kernel) ?_
          refine tq_idiv hx hb dC_saturate_38 (by omega) (by omega) (by omega) ?_
          refine tq_i (congrArg nI (show (x * 7 + i) / 7 = x by omega)) ?_
          refine lv_istore_n (lv' := [(3, .int (nI x)), (2, .int (nI (x * 7 + i))), (1, .int (nI n)), (0, .ref (a 3))]) hx hb dC_saturate_39 rfl hl (by decide) rfl (fun ls hl => ?_)
          refine lv_iload_n hx hb dC_saturate_40 rfl (lv_at hl 1 rfl) ?_
          refine lv_bipush (v := nI 7) hx hb dC_saturate_41 (by decide +kernel) ?_
          refine tq_irem hx hb dC_saturate_43 (by omega) (by omega) (by omega) ?_
          refine tq_i (congrArg nI (show (x * 7 + i) % 7 = i by omega)) ?_
          refine lv_istore (lv' := [(4, .int (nI i)), (3, .int (nI x)), (2, .int (nI (x * 7 + i))), (1, .int (nI n)), (0, .ref (a 3))]) hx hb dC_saturate_44 hl (by decide) rfl (fun ls hl => ?_)
          refine lv_aload_n hx hb dC_saturate_46 rfl (lv_at hl 4 rfl) ?_
          refine gf_C_31 (v := .ref (a 18)) hx hb hA hown hK hP 3 rfl rfl dC_saturate_47 ?_
          refine lv_iload_n hx hb dC_saturate_50 rfl (lv_at hl 2 rfl) ?_
          refine lv_iconst (v := nI 0) hx hb dC_saturate_51 (by decide +kernel) ?_
          refine k_next ⟨hx, hb, hml, hown, hA⟩ (kw_C_69 hA rfl rfl ⟨Nat.le_trans (Nat.le_of_ble_eq_true rfl) hRf, Nat.le_trans (Nat.le_of_ble_eq_true rfl) hRl⟩) hK hP hS 18 19 1 rfl rfl rfl (by decide) (by omega) (by decide) (by decide) (by omega) (by omega) hl.1 (Nat.le_of_ble_eq_true rfl) ⟨by omega, by omega⟩ dC_saturate_52 (fun r2 H locs hr2 hP hS => ?_)
          refine lv_istore (lv' := [(5, .int (nI r2)), (4, .int (nI i)), (3, .int (nI x)), (2, .int (nI (x * 7 + i))), (1, .int (nI n)), (0, .ref (a 3))]) hx hb dC_saturate_55 hl (by decide) rfl (fun ls hl => ?_)
          have lp : ∀ (fu : Nat) (r : Nat) (v2 : sU) (ls : Array Slot) (H : Heap) (locs : List Loc), s_in u v2 N kd fa fb (x * 7 + i) r (179199 - n) → (r < 160 → v2.1 2 (x * 7 + i) r = true) → r < 224 → va_P D vwA (sW a kI kL kZ v2) H → va_D (sA a) (sW a kI kL kZ v2) → va_S (sA a) s.heap H locs → 224 - r < fu → lv_has ls 6 [(5, .int (nI r)), (4, .int (nI i)), (3, .int (nI x)), (2, .int (nI (x * 7 + i))), (1, .int (nI n)), (0, .ref (a 3))] → W p l e R s m ([.ref (a 3)] : List Value).toArray below meth c H locs 0 0 Q (F0 m 57 ls []) := by
            intro fu
            induction fu with
            | zero => intros; omega
            | succ fu ih57 =>
              intro r v2 ls H locs k1 k2 k3 hP hD hS hfu hl
              refine lv_iload hx hb dC_saturate_57 (lv_at hl 0 rfl) ?_
              refine lv_sipush (v := nI 160) hx hb dC_saturate_59 (by decide +kernel) ?_
              refine tq_ge hx hb dC_saturate_62 (tgt := 191) (by decide) (by omega) (by omega) (fun h62 => ?_) (fun h62 => ?_)
              · refine lv_iinc (k := 4) (lv' := [(1, .int (nI (n + 1))), (5, .int (nI r)), (4, .int (nI i)), (3, .int (nI x)), (2, .int (nI (x * 7 + i))), (0, .ref (a 3))]) hx hb dC_saturate_191 hl rfl (nI_1 _) (by decide) rfl (fun ls hl => ?_)
                refine lv_goto hx hb dC_saturate_194 (tgt := 2) (by decide) ?_
                exact ih2 (n + 1) v2 ls H locs (by have h9 := in_exit k1 h62; rw [show 179200 - (n + 1) = 179199 - n by omega]; exact h9) (by omega) hP hD hS (by omega) (lv_sub hl [0, 5] rfl)
              · have hq := k2 h62
                have hbas := k1.1
                have hfx := hbas.2.2.2.1 _ _ hq
                have hrg := hbas.2.2.1 _ _ hfx
                have hx1 : x < 160 := by omega
                refine lv_aload_n hx hb dC_saturate_65 rfl (lv_at hl 5 rfl) ?_
                refine gf_C_31 (v := .ref (a 18)) hx hb hA hown hK hP 3 rfl rfl dC_saturate_66 ?_
                refine lv_iload_n hx hb dC_saturate_69 rfl (lv_at hl 3 rfl) ?_
                refine lv_iload hx hb dC_saturate_70 (lv_at hl 0 rfl) ?_
                refine k_drop ⟨hx, hb, hml, hown, hA⟩ (kw_C_120 hA rfl rfl ⟨Nat.le_trans (Nat.le_of_ble_eq_true rfl) hRf, Nat.le_trans (Nat.le_of_ble_eq_true rfl) hRl⟩) hK hP hD hS 18 19 1 rfl rfl (by decide) rfl (by omega) (by omega) (by decide) (by decide) hl.1 (Nat.le_of_ble_eq_true rfl) ⟨by omega, by omega⟩ dC_saturate_72 (fun H locs hP hD hS => ?_)
                have hP : va_P D vwA (sW a kI kL kZ (va_up v2.1 2 (tm_drop (v2.1 2) (x * 7 + i) r), v2.2.1, v2.2.2)) H := hP
                have hD : va_D (sA a) (sW a kI kL kZ (va_up v2.1 2 (tm_drop (v2.1 2) (x * 7 + i) r), v2.2.1, v2.2.2)) := hD
                have htr : s_tr (va_up v2.1 2 (tm_drop (v2.1 2) (x * 7 + i) r), v2.2.1, v2.2.2) := hbas.2.1
                have htm : s_tm (va_up v2.1 2 (tm_drop (v2.1 2) (x * 7 + i) r), v2.2.1, v2.2.2) N kd fa fb := hbas.1
                refine lv_iload hx hb dC_saturate_75 (lv_at hl 1 rfl) ?_
                refine lv_bipush (v := nI 6) hx hb dC_saturate_77 (by decide +kernel) ?_
                refine tq_ne hx hb dC_saturate_79 (tgt := 96) (by decide) (by omega) (by omega) (fun h79 => ?_) (fun h79 => ?_)
                · refine lv_iload hx hb dC_saturate_96 (lv_at hl 1 rfl) ?_
                  refine lv_bipush (v := nI 6) hx hb dC_saturate_98 (by decide +kernel) ?_
                  refine tq_ne hx hb dC_saturate_100 (tgt := 148) (by decide) (by omega) (by omega) (fun h100 => ?_) (fun h100 => ?_)
                  · refine lv_aload_n hx hb dC_saturate_148 rfl (lv_at hl 5 rfl) ?_
                    refine lv_iload_n hx hb dC_saturate_149 rfl (lv_at hl 2 rfl) ?_
                    refine ks_rv ⟨hx, hb, hml, hown, hA⟩ (c_isEmpty l D a kI kL kZ (va_up v2.1 2 (tm_drop (v2.1 2) (x * 7 + i) r), v2.2.1, v2.2.2) x (by omega)) (kw_C_65 hA rfl rfl ⟨Nat.le_trans (Nat.le_of_ble_eq_true rfl) hRf, Nat.le_trans (Nat.le_of_ble_eq_true rfl) hRl⟩) hK hP hS 3 3 rfl rfl rfl hl.1 (Nat.le_of_ble_eq_true rfl) ⟨by omega, by omega⟩ dC_saturate_150 rfl (fun H locs hP hS => ?_)
                    refine tq_i (y := bI ((v2.1 0) (x * 7 + 6) 1)) rfl ?_
                    refine tq_bt hx hb dC_saturate_153 (tgt := 174) (by decide) (fun h153 => ?_) (fun h153 => ?_)
                    · refine lv_aload_n hx hb dC_saturate_174 rfl (lv_at hl 5 rfl) ?_
                      refine gf_C_31 (v := .ref (a 18)) hx hb hA hown hK hP 3 rfl rfl dC_saturate_175 ?_
                      refine lv_iload_n hx hb dC_saturate_178 rfl (lv_at hl 3 rfl) ?_
                      refine lv_iload hx hb dC_saturate_179 (lv_at hl 0 rfl) ?_
                      refine lv_iconst (v := nI 1) hx hb dC_saturate_181 (by decide +kernel) ?_
                      refine tq_iadd hx hb dC_saturate_182 ?_
                      refine k_next ⟨hx, hb, hml, hown, hA⟩ (kw_C_69 hA rfl rfl ⟨Nat.le_trans (Nat.le_of_ble_eq_true rfl) hRf, Nat.le_trans (Nat.le_of_ble_eq_true rfl) hRl⟩) hK hP hS 18 19 1 rfl rfl rfl (by decide) (by omega) (by decide) (by decide) (by omega) (by omega) hl.1 (Nat.le_of_ble_eq_true rfl) ⟨by omega, by omega⟩ dC_saturate_183 (fun r3 H locs hr3 hP hS => ?_)
                      refine lv_istore (lv' := [(5, .int (nI r3)), (4, .int (nI i)), (3, .int (nI x)), (2, .int (nI (x * 7 + i))), (1, .int (nI n)), (0, .ref (a 3))]) hx hb dC_saturate_186 hl (by decide) rfl (fun ls hl => ?_)
                      refine lv_goto hx hb dC_saturate_188 (tgt := 57) (by decide) ?_
                      have hge := hr3.1
                      have hlt := hr3.2.1
                      exact ih57 r3 (va_up v2.1 2 (tm_drop (v2.1 2) (x * 7 + i) r), v2.2.1, v2.2.2) ls H locs (in_step hi7 k1 (new_D hi7 hbas h153 (fun z => h79 z.1)) hr3) hr3.2.2.2 (by omega) hP hD hS (by omega) (lv_sub hl [0, 1, 2, 3, 4, 5] rfl)
                    · refine lv_aload_n hx hb dC_saturate_156 rfl (lv_at hl 5 rfl) ?_
                      refine lv_iload_n hx hb dC_saturate_157 rfl (lv_at hl 2 rfl) ?_
                      refine lv_iload hx hb dC_saturate_158 (lv_at hl 1 rfl) ?_
                      refine lv_iload hx hb dC_saturate_160 (lv_at hl 0 rfl) ?_
                      refine ks_v (wf := sW a kI kL kZ) (u := (va_up v2.1 2 (tm_drop (v2.1 2) (x * 7 + i) r), v2.2.1, v2.2.2)) ⟨hx, hb, hml, hown, hA⟩ (c_drawFromLink l D a kI kL kZ (va_up v2.1 2 (tm_drop (v2.1 2) (x * 7 + i) r), v2.2.1, v2.2.2) N kd fa fb htm htr x i r (by omega) (by omega) (by omega) (fun z => (hbas.2.2.2.2.2.2 r 6 r (by decide) z).2)) (kw_C_139 hA rfl rfl ⟨Nat.le_trans (Nat.le_of_ble_eq_true rfl) hRf, Nat.le_trans (Nat.le_of_ble_eq_true rfl) hRl⟩) hK hP hD hS (fun _ h => h) (fun u' => sW_adr u') 3 3 rfl rfl rfl hl.1 (Nat.le_of_ble_eq_true rfl) ⟨by omega, by omega⟩ dC_saturate_162 rfl (fun u4 H locs hu4 hP hD hS => ?_)
                      refine lv_aload_n hx hb dC_saturate_165 rfl (lv_at hl 5 rfl) ?_
                      refine lv_iload_n hx hb dC_saturate_166 rfl (lv_at hl 2 rfl) ?_
                      refine lv_iload hx hb dC_saturate_167 (lv_at hl 1 rfl) ?_
                      refine lv_iload hx hb dC_saturate_169 (lv_at hl 0 rfl) ?_
                      refine ks_v (wf := sW a kI kL kZ) (u := u4) ⟨hx, hb, hml, hown, hA⟩ (c_drawFromChains l D a kI kL kZ u4 x i r (tr_ext htr hu4.1) (by omega) (by omega) (by omega)) (kw_C_142 hA rfl rfl ⟨Nat.le_trans (Nat.le_of_ble_eq_true rfl) hRf, Nat.le_trans (Nat.le_of_ble_eq_true rfl) hRl⟩) hK hP hD hS (fun _ h => h) (fun u' => sW_adr u') 3 3 rfl rfl rfl hl.1 (Nat.le_of_ble_eq_true rfl) ⟨by omega, by omega⟩ dC_saturate_171 rfl (fun u5 H locs hu5 hP hD hS => ?_)
                      refine lv_aload_n hx hb dC_saturate_174 rfl (lv_at hl 5 rfl) ?_
                      refine gf_C_31 (v := .ref (a 18)) hx hb hA hown hK hP 3 rfl rfl dC_saturate_175 ?_
                      refine lv_iload_n hx hb dC_saturate_178 rfl (lv_at hl 3 rfl) ?_
                      refine lv_iload hx hb dC_saturate_179 (lv_at hl 0 rfl) ?_
                      refine lv_iconst (v := nI 1) hx hb dC_saturate_181 (by decide +kernel) ?_
                      refine tq_iadd hx hb dC_saturate_182 ?_
                      refine k_next ⟨hx, hb, hml, hown, hA⟩ (kw_C_69 hA rfl rfl ⟨Nat.le_trans (Nat.le_of_ble_eq_true rfl) hRf, Nat.le_trans (Nat.le_of_ble_eq_true rfl) hRl⟩) hK hP hS 18 19 1 rfl rfl rfl (by decide) (by omega) (by decide) (by decide) (by omega) (by omega) hl.1 (Nat.le_of_ble_eq_true rfl) ⟨by omega, by omega⟩ dC_saturate_183 (fun r6 H locs hr6 hP hS => ?_)
                      refine lv_istore (lv' := [(5, .int (nI r6)), (4, .int (nI i)), (3, .int (nI x)), (2, .int (nI (x * 7 + i))), (1, .int (nI n)), (0, .ref (a 3))]) hx hb dC_saturate_186 hl (by decide) rfl (fun ls hl => ?_)
                      refine lv_goto hx hb dC_saturate_188 (tgt := 57) (by decide) ?_
                      have hge := hr6.1
                      have hlt := hr6.2.1
                      exact ih57 r6 u5 ls H locs (in_step hi7 k1 (new_C (by omega) hbas hfx hu4 hu5) hr6) hr6.2.2.2 (by omega) hP hD hS (by omega) (lv_sub hl [0, 1, 2, 3, 4, 5] rfl)
                  · exact absurd h100 h79
                · refine lv_iload hx hb dC_saturate_82 (lv_at hl 0 rfl) ?_
                  refine lv_iconst (v := nI 1) hx hb dC_saturate_84 (by decide +kernel) ?_
                  refine tq_ne hx hb dC_saturate_85 (tgt := 96) (by decide) (by omega) (by omega) (fun h85 => ?_) (fun h85 => ?_)
                  · refine lv_iload hx hb dC_saturate_96 (lv_at hl 1 rfl) ?_
                    refine lv_bipush (v := nI 6) hx hb dC_saturate_98 (by decide +kernel) ?_
                    refine tq_ne hx hb dC_saturate_100 (tgt := 148) (by decide) (by omega) (by omega) (fun h100 => ?_) (fun h100 => ?_)
                    · exact absurd h79 h100
                    · refine lv_aload_n hx hb dC_saturate_103 rfl (lv_at hl 5 rfl) ?_
                      refine lv_iload_n hx hb dC_saturate_104 rfl (lv_at hl 2 rfl) ?_
                      refine ks_rv ⟨hx, hb, hml, hown, hA⟩ (c_isEmpty l D a kI kL kZ (va_up v2.1 2 (tm_drop (v2.1 2) (x * 7 + i) r), v2.2.1, v2.2.2) x (by omega)) (kw_C_65 hA rfl rfl ⟨Nat.le_trans (Nat.le_of_ble_eq_true rfl) hRf, Nat.le_trans (Nat.le_of_ble_eq_true rfl) hRl⟩) hK hP hS 3 3 rfl rfl rfl hl.1 (Nat.le_of_ble_eq_true rfl) ⟨by omega, by omega⟩ dC_saturate_105 rfl (fun H locs hP hS => ?_)
                      refine tq_i (y := bI ((v2.1 0) (x * 7 + 6) 1)) rfl ?_
                      refine tq_bt hx hb dC_saturate_108 (tgt := 148) (by decide) (fun h108 => ?_) (fun h108 => ?_)
                      · refine lv_aload_n hx hb dC_saturate_148 rfl (lv_at hl 5 rfl) ?_
                        refine lv_iload_n hx hb dC_saturate_149 rfl (lv_at hl 2 rfl) ?_
                        refine ks_rv ⟨hx, hb, hml, hown, hA⟩ (c_isEmpty l D a kI kL kZ (va_up v2.1 2 (tm_drop (v2.1 2) (x * 7 + i) r), v2.2.1, v2.2.2) x (by omega)) (kw_C_65 hA rfl rfl ⟨Nat.le_trans (Nat.le_of_ble_eq_true rfl) hRf, Nat.le_trans (Nat.le_of_ble_eq_true rfl) hRl⟩) hK hP hS 3 3 rfl rfl rfl hl.1 (Nat.le_of_ble_eq_true rfl) ⟨by omega, by omega⟩ dC_saturate_150 rfl (fun H locs hP hS => ?_)
                        refine tq_i (y := bI ((v2.1 0) (x * 7 + 6) 1)) rfl ?_
                        refine tq_bt hx hb dC_saturate_153 (tgt := 174) (by decide) (fun h153 => ?_) (fun h153 => ?_)
                        · refine lv_aload_n hx hb dC_saturate_174 rfl (lv_at hl 5 rfl) ?_
                          refine gf_C_31 (v := .ref (a 18)) hx hb hA hown hK hP 3 rfl rfl dC_saturate_175 ?_
                          refine lv_iload_n hx hb dC_saturate_178 rfl (lv_at hl 3 rfl) ?_
                          refine lv_iload hx hb dC_saturate_179 (lv_at hl 0 rfl) ?_
                          refine lv_iconst (v := nI 1) hx hb dC_saturate_181 (by decide +kernel) ?_
                          refine tq_iadd hx hb dC_saturate_182 ?_
                          refine k_next ⟨hx, hb, hml, hown, hA⟩ (kw_C_69 hA rfl rfl ⟨Nat.le_trans (Nat.le_of_ble_eq_true rfl) hRf, Nat.le_trans (Nat.le_of_ble_eq_true rfl) hRl⟩) hK hP hS 18 19 1 rfl rfl rfl (by decide) (by omega) (by decide) (by decide) (by omega) (by omega) hl.1 (Nat.le_of_ble_eq_true rfl) ⟨by omega, by omega⟩ dC_saturate_183 (fun r7 H locs hr7 hP hS => ?_)
                          refine lv_istore (lv' := [(5, .int (nI r7)), (4, .int (nI i)), (3, .int (nI x)), (2, .int (nI (x * 7 + i))), (1, .int (nI n)), (0, .ref (a 3))]) hx hb dC_saturate_186 hl (by decide) rfl (fun ls hl => ?_)
                          refine lv_goto hx hb dC_saturate_188 (tgt := 57) (by decide) ?_
                          have hge := hr7.1
                          have hlt := hr7.2.1
                          exact ih57 r7 (va_up v2.1 2 (tm_drop (v2.1 2) (x * 7 + i) r), v2.2.1, v2.2.2) ls H locs (in_step hi7 k1 (new_D hi7 hbas h108 (fun z => h85 z.2)) hr7) hr7.2.2.2 (by omega) hP hD hS (by omega) (lv_sub hl [0, 1, 2, 3, 4, 5] rfl)
                        · rw [h108] at h153; cases h153
                      · refine lv_aload_n hx hb dC_saturate_111 rfl (lv_at hl 5 rfl) ?_
                        refine lv_iload_n hx hb dC_saturate_112 rfl (lv_at hl 2 rfl) ?_
                        refine lv_bipush (v := nI 6) hx hb dC_saturate_113 (by decide +kernel) ?_
                        refine lv_aload_n hx hb dC_saturate_115 rfl (lv_at hl 5 rfl) ?_
                        refine gf_C_37 (v := .ref (a 22)) hx hb hA hown hK hP 3 rfl rfl dC_saturate_116 ?_
                        refine lv_iload hx hb dC_saturate_119 (lv_at hl 0 rfl) ?_
                        refine ks_v (wf := sW a kI kL kZ) (u := (va_up v2.1 2 (tm_drop (v2.1 2) (x * 7 + i) r), v2.2.1, v2.2.2)) ⟨hx, hb, hml, hown, hA⟩ (c_addAll4 l D a kI kL kZ (va_up v2.1 2 (tm_drop (v2.1 2) (x * 7 + i) r), v2.2.1, v2.2.2) x 6 r (by omega) (by omega) (by omega)) (kw_C_126 hA rfl rfl ⟨Nat.le_trans (Nat.le_of_ble_eq_true rfl) hRf, Nat.le_trans (Nat.le_of_ble_eq_true rfl) hRl⟩) hK hP hD hS (fun _ h => h) (fun u' => sW_adr u') 3 3 rfl rfl rfl hl.1 (Nat.le_of_ble_eq_true rfl) ⟨by omega, by omega⟩ dC_saturate_121 rfl (fun u8 H locs hu8 hP hD hS => ?_)
                        refine lv_aload_n hx hb dC_saturate_124 rfl (lv_at hl 5 rfl) ?_
                        refine lv_iload_n hx hb dC_saturate_125 rfl (lv_at hl 2 rfl) ?_
                        refine lv_iload hx hb dC_saturate_126 (lv_at hl 0 rfl) ?_
                        refine ks_v (wf := sW a kI kL kZ) (u := u8) ⟨hx, hb, hml, hown, hA⟩ (c_drawParts l D a kI kL kZ u8 N kd fa fb (tm_ext htm hu8.1) (tr_ext htr hu8.1) x r (by omega) (by omega)) (kw_C_130 hA rfl rfl ⟨Nat.le_trans (Nat.le_of_ble_eq_true rfl) hRf, Nat.le_trans (Nat.le_of_ble_eq_true rfl) hRl⟩) hK hP hD hS (fun _ h => h) (fun u' => sW_adr u') 3 3 rfl rfl rfl hl.1 (Nat.le_of_ble_eq_true rfl) ⟨by omega, by omega⟩ dC_saturate_128 rfl (fun u9 H locs hu9 hP hD hS => ?_)
                        refine lv_aload_n hx hb dC_saturate_131 rfl (lv_at hl 5 rfl) ?_
                        refine lv_iload_n hx hb dC_saturate_132 rfl (lv_at hl 2 rfl) ?_
                        refine lv_iload hx hb dC_saturate_133 (lv_at hl 0 rfl) ?_
                        refine ks_v (wf := sW a kI kL kZ) (u := u9) ⟨hx, hb, hml, hown, hA⟩ (c_drawBoths l D a kI kL kZ u9 N kd fa fb (tm_ext (tm_ext htm hu8.1) hu9.1) (tr_ext (tr_ext htr hu8.1) hu9.1) x r (by omega) (by omega)) (kw_C_133 hA rfl rfl ⟨Nat.le_trans (Nat.le_of_ble_eq_true rfl) hRf, Nat.le_trans (Nat.le_of_ble_eq_true rfl) hRl⟩) hK hP hD hS (fun _ h => h) (fun u' => sW_adr u') 3 3 rfl rfl rfl hl.1 (Nat.le_of_ble_eq_true rfl) ⟨by omega, by omega⟩ dC_saturate_135 rfl (fun u10 H locs hu10 hP hD hS => ?_)
                        refine lv_aload_n hx hb dC_saturate_138 rfl (lv_at hl 5 rfl) ?_
                        refine lv_iload_n hx hb dC_saturate_139 rfl (lv_at hl 2 rfl) ?_
                        refine lv_iload hx hb dC_saturate_140 (lv_at hl 0 rfl) ?_
                        refine ks_v (wf := sW a kI kL kZ) (u := u10) ⟨hx, hb, hml, hown, hA⟩ (c_drawSomes l D a kI kL kZ u10 N kd fa fb (tm_ext (tm_ext (tm_ext htm hu8.1) hu9.1) hu10.1) (tr_ext (tr_ext (tr_ext htr hu8.1) hu9.1) hu10.1) x r (by omega) (by omega)) (kw_C_136 hA rfl rfl ⟨Nat.le_trans (Nat.le_of_ble_eq_true rfl) hRf, Nat.le_trans (Nat.le_of_ble_eq_true rfl) hRl⟩) hK hP hD hS (fun _ h => h) (fun u' => sW_adr u') 3 3 rfl rfl rfl hl.1 (Nat.le_of_ble_eq_true rfl) ⟨by omega, by omega⟩ dC_saturate_142 rfl (fun u11 H locs hu11 hP hD hS => ?_)
                        refine lv_goto hx hb dC_saturate_145 (tgt := 174) (by decide) ?_
                        refine lv_aload_n hx hb dC_saturate_174 rfl (lv_at hl 5 rfl) ?_
                        refine gf_C_31 (v := .ref (a 18)) hx hb hA hown hK hP 3 rfl rfl dC_saturate_175 ?_
                        refine lv_iload_n hx hb dC_saturate_178 rfl (lv_at hl 3 rfl) ?_
                        refine lv_iload hx hb dC_saturate_179 (lv_at hl 0 rfl) ?_
                        refine lv_iconst (v := nI 1) hx hb dC_saturate_181 (by decide +kernel) ?_
                        refine tq_iadd hx hb dC_saturate_182 ?_
                        refine k_next ⟨hx, hb, hml, hown, hA⟩ (kw_C_69 hA rfl rfl ⟨Nat.le_trans (Nat.le_of_ble_eq_true rfl) hRf, Nat.le_trans (Nat.le_of_ble_eq_true rfl) hRl⟩) hK hP hS 18 19 1 rfl rfl rfl (by decide) (by omega) (by decide) (by decide) (by omega) (by omega) hl.1 (Nat.le_of_ble_eq_true rfl) ⟨by omega, by omega⟩ dC_saturate_183 (fun r12 H locs hr12 hP hS => ?_)
                        refine lv_istore (lv' := [(5, .int (nI r12)), (4, .int (nI i)), (3, .int (nI x)), (2, .int (nI (x * 7 + i))), (1, .int (nI n)), (0, .ref (a 3))]) hx hb dC_saturate_186 hl (by decide) rfl (fun ls hl => ?_)
                        refine lv_goto hx hb dC_saturate_188 (tgt := 57) (by decide) ?_
                        have hge := hr12.1
                        have hlt := hr12.2.1
                        exact ih57 r12 u11 ls H locs (in_step hi7 k1 (by subst h79; exact new_B hbas hfx h85 hu8 hu9 hu10 hu11) hr12) hr12.2.2.2 (by omega) hP hD hS (by omega) (lv_sub hl [0, 1, 2, 3, 4, 5] rfl)
                  · refine lv_aload_n hx hb dC_saturate_88 rfl (lv_at hl 5 rfl) ?_
                    refine lv_iload_n hx hb dC_saturate_89 rfl (lv_at hl 2 rfl) ?_
                    refine ks_v (wf := sW a kI kL kZ) (u := (va_up v2.1 2 (tm_drop (v2.1 2) (x * 7 + i) r), v2.2.1, v2.2.2)) ⟨hx, hb, hml, hown, hA⟩ (c_emptySources l D a kI kL kZ (va_up v2.1 2 (tm_drop (v2.1 2) (x * 7 + i) r), v2.2.1, v2.2.2) x htr (by omega)) (kw_C_123 hA rfl rfl ⟨Nat.le_trans (Nat.le_of_ble_eq_true rfl) hRf, Nat.le_trans (Nat.le_of_ble_eq_true rfl) hRl⟩) hK hP hD hS (fun _ h => h) (fun u' => sW_adr u') 3 3 rfl rfl rfl hl.1 (Nat.le_of_ble_eq_true rfl) ⟨by omega, by omega⟩ dC_saturate_90 rfl (fun u13 H locs hu13 hP hD hS => ?_)
                    refine lv_goto hx hb dC_saturate_93 (tgt := 174) (by decide) ?_
                    refine lv_aload_n hx hb dC_saturate_174 rfl (lv_at hl 5 rfl) ?_
                    refine gf_C_31 (v := .ref (a 18)) hx hb hA hown hK hP 3 rfl rfl dC_saturate_175 ?_
                    refine lv_iload_n hx hb dC_saturate_178 rfl (lv_at hl 3 rfl) ?_
                    refine lv_iload hx hb dC_saturate_179 (lv_at hl 0 rfl) ?_
                    refine lv_iconst (v := nI 1) hx hb dC_saturate_181 (by decide +kernel) ?_
                    refine tq_iadd hx hb dC_saturate_182 ?_
                    refine k_next ⟨hx, hb, hml, hown, hA⟩ (kw_C_69 hA rfl rfl ⟨Nat.le_trans (Nat.le_of_ble_eq_true rfl) hRf, Nat.le_trans (Nat.le_of_ble_eq_true rfl) hRl⟩) hK hP hS 18 19 1 rfl rfl rfl (by decide) (by omega) (by decide) (by decide) (by omega) (by omega) hl.1 (Nat.le_of_ble_eq_true rfl) ⟨by omega, by omega⟩ dC_saturate_183 (fun r14 H locs hr14 hP hS => ?_)
                    refine lv_istore (lv' := [(5, .int (nI r14)), (4, .int (nI i)), (3, .int (nI x)), (2, .int (nI (x * 7 + i))), (1, .int (nI n)), (0, .ref (a 3))]) hx hb dC_saturate_186 hl (by decide) rfl (fun ls hl => ?_)
                    refine lv_goto hx hb dC_saturate_188 (tgt := 57) (by decide) ?_
                    have hge := hr14.1
                    have hlt := hr14.2.1
                    exact ih57 r14 u13 ls H locs (in_step hi7 k1 (by subst h79; subst h85; exact new_A hbas hfx hu13.1 hu13.2) hr14) hr14.2.2.2 (by omega) hP hD hS (by omega) (lv_sub hl [0, 1, 2, 3, 4, 5] rfl)
          have g9 : s_out u v N kd fa fb (179199 - n + 1) := by rw [show 179199 - n + 1 = 179200 - n by omega]; exact g1
          have hlt := hr2.2.1
          exact lp _ r2 (va_up v.1 3 (tm_drop (v.1 3) 0 (x * 7 + i)), v.2.1, v.2.2) ls _ _ (in_enter g9 h22 hfr1 hr2) hr2.2.2.2 (by omega) hP hD hS (Nat.lt_succ_self _) (lv_sub hl [0, 1, 2, 3, 4, 5] rfl)
        · subst hQe
          exact W.vret hx hb hr (fun t ht hW => ⟨⟨v, rfl, out_done g1 (fun y hy z => (by rw [hr1.2.2.1 y (Nat.zero_le _) (by omega) hy] at z; cases z)), tq_hp ht hP⟩, hS.F ht⟩) hS.2.2 dC_saturate_25
  exact lp _ 0 u ls _ _ ⟨hbas0, hsat, hfr, mu_top hN.2.2 hbas0.2.2.1 hbas0.2.2.2.2.1, gro_refl u, snd_refl⟩ (by omega) hP hD hS (Nat.lt_succ_self _) (lv_sub hl [0, 1] rfl)
end
section
/-! What the facts mean: each follows; what is taken in. -/
def gB (TA TR : Nat → Nat → Prop) (TC : Nat → Nat → Nat → Prop) (N : Nat) (kd fa fb : Nat → Nat) (y b : Nat) : Prop :=
  y < N * 7 ∧ b < N ∧ (y % 7 = 6 → tm_Bel N kd fa fb TA TR TC (y / 7) b) ∧ ∀ r, r < 6 → y % 7 = r → tm_Lnk N kd fa fb TA TR TC r (y / 7) b
def s_sound (u : sU) (N : Nat) (kd fa fb : Nat → Nat) : Prop := ∀ y b, u.1 0 y b = true → gB (TAu u) (TRu u) (TCu u) N kd fa fb y b
theorem gB_6 {TA TR : Nat → Nat → Prop} {TC : Nat → Nat → Nat → Prop} {N : Nat} {kd fa fb : Nat → Nat} {x b : Nat} : gB TA TR TC N kd fa fb (x * 7 + 6) b ↔ x < N ∧ b < N ∧ tm_Bel N kd fa fb TA TR TC x b := by
  unfold gB
  rw [show (x * 7 + 6) % 7 = 6 by omega, show (x * 7 + 6) / 7 = x by omega]
  exact ⟨fun z => ⟨by omega, z.2.1, z.2.2.1 rfl⟩, fun z => ⟨by omega, z.2.1, fun _ => z.2.2, fun r hr e => by omega⟩⟩
theorem gB_r {TA TR : Nat → Nat → Prop} {TC : Nat → Nat → Nat → Prop} {N : Nat} {kd fa fb : Nat → Nat} {x r b : Nat} (hr : r < 6) : gB TA TR TC N kd fa fb (x * 7 + r) b ↔ x < N ∧ b < N ∧ tm_Lnk N kd fa fb TA TR TC r x b := by
  unfold gB
  rw [show (x * 7 + r) % 7 = r by omega, show (x * 7 + r) / 7 = x by omega]
  exact ⟨fun z => ⟨by omega, z.2.1, z.2.2.2 r hr rfl⟩, fun z => ⟨by omega, z.2.1, fun e => by omega, fun q _ e => e ▸ z.2.2⟩⟩
theorem gB_mono {TA TR TA' TR' : Nat → Nat → Prop} {TC TC' : Nat → Nat → Nat → Prop} {N N' : Nat} {kd fa fb kd' fa' fb' : Nat → Nat} {y b : Nat} (hn : N ≤ N') (hk : ∀ k, k < N → kd' k = kd k ∧ fa' k = fa k ∧ fb' k = fb k) (ha : ∀ a b, TA a b → TA' a b) (hr : ∀ r s, TR r s → TR' r s) (hc : ∀ r s t, TC r s t → TC' r s t)
    (h : gB TA TR TC N kd fa fb y b) : gB TA' TR' TC' N' kd' fa' fb' y b :=
  ⟨by have := h.1; omega, by have := h.2.1; omega, fun e => tm_Bel_mono hn hk ha hr hc (h.2.2.1 e), fun r hr' e => tm_Lnk_mono hn hk ha hr hc (h.2.2.2 r hr' e)⟩
theorem rules_gB {v : sU} {N : Nat} {kd fa fb : Nat → Nat} (hb : s_bas v N kd fa fb) : s_rules v N kd fa fb (gB (TAu v) (TRu v) (TCu v) N kd fa fb) := by
  obtain ⟨b1, b2, b3, b4, b5, ⟨t1, t2, t3⟩, b7⟩ := hb
  have hN := (tm_N b1).2.1
  obtain ⟨l1, l2, l3, l4, l5, l6, l7, l8, l9, l10⟩ := tm_least N kd fa fb (TAu v) (TRu v) (TCu v)
  refine ⟨fun x a b h z => ?_, fun x k hk h2 z => ?_, fun x k hk h2 z1 z2 => ?_, fun x k hk h3 z => ?_, fun x y k hk h3 z1 z2 => ?_, fun x y r t hr h z => ?_, fun x y z r q t hr hq h z1 z2 => ?_, fun x y r hr z => ?_, fun x y r hr z1 z2 => ?_⟩
  · have z := gB_6.mp z
    exact gB_6.mpr ⟨z.1, (t1 a b h).2, l2 x a b h z.2.2⟩
  · have z := gB_6.mp z
    have h9 := tm_2 b1 hk h2
    have h8 := l5 k x hk h2 z.2.2
    exact ⟨gB_6.mpr ⟨z.1, h9.2.2.1, h8.1⟩, gB_6.mpr ⟨z.1, h9.2.2.2, h8.2⟩⟩
  · have z1 := gB_6.mp z1
    have z2 := gB_6.mp z2
    exact gB_6.mpr ⟨z1.1, hk, l6 k x hk h2 z1.2.2 z2.2.2⟩
  · have z := gB_6.mp z
    have h9 := tm_3 b1 hk h3
    exact (gB_r h9.2.2.1).mpr ⟨z.1, h9.2.2.2, l7 k x hk h3 z.2.2⟩
  · have h9 := tm_3 b1 hk h3
    have z1 := (gB_r h9.2.2.1).mp z1
    have z2 := gB_6.mp z2
    exact gB_6.mpr ⟨z1.1, hk, l8 k x y hk h3 z1.2.2 z2.2.2⟩
  · have z := (gB_r hr).mp z
    exact (gB_r (t2 r t h).2).mpr ⟨z.1, z.2.1, l3 r t x y h z.2.2⟩
  · have z1 := (gB_r hr).mp z1
    have z2 := (gB_r hq).mp z2
    exact (gB_r (t3 _ t h).2).mpr ⟨z1.1, z2.2.1, l4 r q t x y z ⟨hr, hq, h⟩ z1.2.2 z2.2.2⟩
  · have z := (gB_r hr).mp z
    exact ⟨gB_6.mpr ⟨z.2.1, z.2.1, (l1 y z.2.1).1⟩, gB_6.mpr ⟨z.2.1, by omega, (l1 y z.2.1).2⟩⟩
  · have z1 := (gB_r hr).mp z1
    have z2 := gB_6.mp z2
    exact gB_6.mpr ⟨z1.1, by omega, l9 r x y z1.2.2 z2.2.2⟩
theorem tau_gro {u v : sU} (h : s_gro u v) : TAu v = TAu u ∧ TRu v = TRu u ∧ TCu v = TCu u := by
  unfold TAu TRu TCu
  rw [h.2.1 4 (by decide), h.2.1 5 (by decide), h.2.1 6 (by decide)]
  exact ⟨rfl, rfl, rfl⟩
/-- what was drawn follows -/
theorem sound_done {u v : sU} {N : Nat} {kd fa fb : Nat → Nat} (hb : s_bas u N kd fa fb) (hs : s_sound u N kd fa fb) (hg : s_gro u v) (h : s_snd u v (s_rules u N kd fa fb)) : s_sound v N kd fa fb := by
  unfold s_sound
  rw [(tau_gro hg).1, (tau_gro hg).2.1, (tau_gro hg).2.2]
  exact h _ hs (rules_gB hb)
/-- all is drawn: a begun one's facts are all that follows -/
theorem covers_iff {v : sU} {N : Nat} {kd fa fb : Nat → Nat} {d e : Nat} (hb : s_bas v N kd fa fb) (hs : s_sat v N kd fa fb) (hq : ∀ y b, ¬ v.1 2 y b = true) (ho : s_sound v N kd fa fb) (hd : v.1 0 (d * 7 + 6) d = true) (he : e < N) :
    (v.1 0 (d * 7 + 6) 1 = true ∨ v.1 0 (d * 7 + 6) e = true) ↔ tm_Bel N kd fa fb (TAu v) (TRu v) (TCu v) d e := by
  constructor
  · rintro (z | z)
    · exact (tm_least N kd fa fb (TAu v) (TRu v) (TCu v)).2.2.2.2.2.2.2.2.2 d e (gB_6.mp (ho _ _ z)).2.2 he
    · exact (gB_6.mp (ho _ _ z)).2.2
  · intro z
    have := tm_complete hs (fun c r d z => hq _ _ z.2) (fun x z => ⟨by decide, (hb.2.2.2.2.2.2 x 6 x (by decide) z.2).2⟩) (fun r t z => (hb.2.2.2.2.2.1.2.1 r t z).2) (fun r q t z => (hb.2.2.2.2.2.1.2.2 _ t z.2.2).2) (fun k hk h3 => (tm_3 hb.1 hk h3).2.2.1) (d := d) (e := e) ⟨by decide, hd⟩ z
    rcases this with z | z
    · exact Or.inl z.2
    · exact Or.inr z.2
/-- links: what a begun one reaches -/
theorem links_iff {v : sU} {N : Nat} {kd fa fb : Nat → Nat} {x i y : Nat} (hi : i < 6) (hb : s_bas v N kd fa fb) (hs : s_sat v N kd fa fb) (hq : ∀ y b, ¬ v.1 2 y b = true) (ho : s_sound v N kd fa fb) (hx : v.1 0 (x * 7 + 6) x = true) :
    (v.1 0 (x * 7 + 6) 1 = true ∨ ∃ d, d < 160 ∧ v.1 0 (x * 7 + i) d = true ∧ v.1 0 (d * 7 + 6) y = true) ↔ (tm_Bel N kd fa fb (TAu v) (TRu v) (TCu v) x 1 ∨ ∃ d, tm_Lnk N kd fa fb (TAu v) (TRu v) (TCu v) i x d ∧ tm_Bel N kd fa fb (TAu v) (TRu v) (TCu v) d y) := by
  have hN := tm_N hb.1
  constructor
  · rintro (z | ⟨d, _, z1, z2⟩)
    · exact Or.inl (gB_6.mp (ho _ _ z)).2.2
    · exact Or.inr ⟨d, ((gB_r hi).mp (ho _ _ z1)).2.2, (gB_6.mp (ho _ _ z2)).2.2⟩
  · intro z
    by_cases h1 : v.1 0 (x * 7 + 6) 1 = true
    · exact Or.inl h1
    · refine Or.inr ?_
      rcases z with z | ⟨d, z1, z2⟩
      · have := (covers_iff hb hs hq ho hx (show 1 < N by omega)).mpr z
        exact absurd (this.elim id id) h1
      · -- the pair of what is there is closed; so a link that follows is there
        have key := z1 (fun x e => FF v x 6 x → FF v x 6 1 ∨ FF v x 6 e) (fun r x y => FF v x 6 x → FF v x 6 1 ∨ (r < 6 ∧ FF v x r y)) (tm_closed hs (fun c r d z => hq _ _ z.2) (fun x z => ⟨by decide, (hb.2.2.2.2.2.2 x 6 x (by decide) z.2).2⟩) (fun r t z => (hb.2.2.2.2.2.1.2.1 r t z).2) (fun r q t z => (hb.2.2.2.2.2.1.2.2 _ t z.2.2).2) (fun k hk h3 => (tm_3 hb.1 hk h3).2.2.1)) ⟨by decide, hx⟩
        rcases key with k | ⟨_, k⟩
        · exact absurd k.2 h1
        · have hdx := hb.2.2.1 _ _ k.2
          have hbd : FF v d 6 d := hs.2.2.2.2.2.2.2.1 x d i hi k (fun z => hq _ _ z.2) (fun z => h1 z.2)
          have hne : ¬ v.1 0 (d * 7 + 6) 1 = true := fun z => h1 (hs.2.2.2.2.2.2.2.2 x d i hi k (fun z => hq _ _ z.2) ⟨by decide, z⟩ (fun z => hq _ _ z.2)).2
          have hyN : y < N := by
            refine Classical.byContradiction (fun hy => ?_)
            have := tm_complete hs (fun c r d z => hq _ _ z.2) (fun x z => ⟨by decide, (hb.2.2.2.2.2.2 x 6 x (by decide) z.2).2⟩) (fun r t z => (hb.2.2.2.2.2.1.2.1 r t z).2) (fun r q t z => (hb.2.2.2.2.2.1.2.2 _ t z.2.2).2) (fun k hk h3 => (tm_3 hb.1 hk h3).2.2.1) hbd z2
            rcases this with z | z
            · exact hne z.2
            · exact hy (hb.2.2.1 _ _ z.2).2
          have := (covers_iff hb hs hq ho hbd.2 hyN).mpr z2
          exact ⟨d, by omega, k.2, this.elim (fun z => absurd z hne) id⟩
end
section
/-! What is taken in: pure rows. so, xa, xb, xc: the axioms' kinds and numbers; U: which of them are told. -/
def x_TA (so xa xb : Nat → Nat) (U : Nat → Prop) (a b : Nat) : Prop := ∃ k, U k ∧ ((so k = 0 ∧ xa k = a ∧ xb k = b) ∨ (so k = 1 ∧ ((xa k = a ∧ xb k = b) ∨ (xa k = b ∧ xb k = a))))
def x_TR (so xa xb : Nat → Nat) (U : Nat → Prop) (r t : Nat) : Prop := ∃ k, U k ∧ so k = 2 ∧ xa k = r ∧ xb k = t
def x_TC (so xa xb xc : Nat → Nat) (U : Nat → Prop) (r q t : Nat) : Prop := ∃ k, U k ∧ so k = 3 ∧ xa k = r ∧ xb k = q ∧ xc k = t
def s_told (u : sU) (so xa xb xc : Nat → Nat) (U : Nat → Prop) : Prop := (∀ a b, u.1 4 a b = true ↔ x_TA so xa xb U a b) ∧ (∀ r t, u.1 5 r t = true ↔ x_TR so xa xb U r t) ∧ ∀ r q t, r < 6 → q < 6 → (u.1 6 (r * 6 + q) t = true ↔ x_TC so xa xb xc U r q t)
def s_mid (v : sU) (N : Nat) (kd fa fb : Nat → Nat) (n : Nat) : Prop := s_bas v N kd fa fb ∧ tm_Sat n kd fa fb (TAu v) (TRu v) (TCu v) (FF v) (QQ v) ∧ (∀ y b, v.1 2 y b = true → v.1 3 0 y = true) ∧ s_sound v N kd fa fb
theorem sat_ext {v w : sU} {n : Nat} {kd fa fb : Nat → Nat} {TA TR : Nat → Nat → Prop} {TC : Nat → Nat → Nat → Prop} (h : tm_Sat n kd fa fb TA TR TC (FF v) (QQ v)) (hx : s_ext v w) : tm_Sat n kd fa fb TA TR TC (FF w) (QQ w) :=
  tm_Sat_ext h (fun c r d z => ⟨z.1, hx.1 _ _ z.2⟩) (fun c r d z1 z2 => ⟨⟨z1.1, Classical.byContradiction (fun q => z2 ⟨z1.1, (hx.2.2.1 _ _).mpr (Or.inr ⟨z1.2, q⟩)⟩)⟩, fun q => z2 ⟨q.1, (hx.2.2.1 _ _).mpr (Or.inl q.2)⟩⟩)
/-- old facts that aren't fresh now weren't fresh before -/
theorem old_of {v w : sU} (hx : s_ext v w) {y b : Nat} (h1 : w.1 0 y b = true) (h2 : ¬ w.1 2 y b = true) : v.1 0 y b = true ∧ ¬ v.1 2 y b = true :=
  ⟨Classical.byContradiction (fun q => h2 ((hx.2.2.1 _ _).mpr (Or.inr ⟨h1, q⟩))), fun q => h2 ((hx.2.2.1 _ _).mpr (Or.inl q))⟩
theorem bas_ext {v w : sU} {N : Nat} {kd fa fb : Nat → Nat} (hb : s_bas v N kd fa fb) (hx : s_ext v w) (hR : ∀ y b, w.1 0 y b = true → y < N * 7 ∧ b < N) (hB : ∀ x r d, r < 7 → w.1 0 (x * 7 + r) d = true → s_beg w x) : s_bas w N kd fa fb := by
  obtain ⟨b1, b2, b3, b4, b5, b6, b7⟩ := hb
  refine ⟨tm_ext b1 hx, tr_ext b2 hx, hR, fun y b z => ?_, fun y z => ?_, ?_, hB⟩
  · rcases (hx.2.2.1 y b).mp z with z | z
    · exact hx.1 y b (b4 y b z)
    · exact z.1
  · rcases (hx.2.2.2.1 y).mp z with z | ⟨b, z⟩
    · obtain ⟨b, z⟩ := b5 y z
      exact ⟨b, hx.1 y b z⟩
    · exact ⟨b, z.1⟩
  · rw [hx.2.2.2.2.2.1 4 (by decide), hx.2.2.2.2.2.1 5 (by decide), hx.2.2.2.2.2.1 6 (by decide)]
    exact b6
theorem fr_ext {v w : sU} (hx : s_ext v w) (h : ∀ y b, v.1 2 y b = true → v.1 3 0 y = true) : ∀ y b, w.1 2 y b = true → w.1 3 0 y = true := fun y b z => by
  rcases (hx.2.2.1 y b).mp z with z | z
  · exact (hx.2.2.2.1 y).mpr (Or.inl (h y b z))
  · exact (hx.2.2.2.1 y).mpr (Or.inr ⟨b, z⟩)
theorem beg_row {v : sU} (h : ∀ x r d, r < 7 → v.1 0 (x * 7 + r) d = true → s_beg v x) : ∀ y b, v.1 0 y b = true → s_beg v (y / 7) := fun y b z =>
  h (y / 7) (y % 7) b (Nat.mod_lt _ (by decide)) (by rw [show y / 7 * 7 + y % 7 = y by omega]; exact z)
/-- more facts come, by a rule that range, beginning and meaning keep -/
theorem mid_ext {v w : sU} {N : Nat} {kd fa fb : Nat → Nat} {n n' : Nat} {rule : (Nat → Nat → Prop) → Prop} (h : s_mid v N kd fa fb n) (hx : s_ext v w) (hs : s_snd v w rule) (r1 : rule (fun y b => y < N * 7 ∧ b < N)) (r2 : rule (fun y _ => s_beg v (y / 7))) (r3 : rule (gB (TAu v) (TRu v) (TCu v) N kd fa fb))
    (hsat : tm_Sat n' kd fa fb (TAu v) (TRu v) (TCu v) (FF w) (QQ w)) : s_mid w N kd fa fb n' := by
  obtain ⟨h1, h2, h3, h4⟩ := h
  have e := tau_gro (gro_ext hx)
  refine ⟨bas_ext h1 hx (hs _ h1.2.2.1 r1) (fun x r d hr z => ?_), ?_, fr_ext hx h3, ?_⟩
  · have := hs _ (beg_row h1.2.2.2.2.2.2) r2 _ _ z
    rw [show (x * 7 + r) / 7 = x by omega] at this
    exact beg_mono hx.1 this
  · rw [e.1, e.2.1, e.2.2]; exact hsat
  · unfold s_sound
    rw [e.1, e.2.1, e.2.2]
    exact hs _ h4 r3
def s_adm (v : sU) (n : Nat) : Prop := ∀ y b, v.1 0 y b = true → ¬ v.1 2 y b = true → b < n
theorem adm_ext {v w : sU} {n : Nat} (h : s_adm v n) (hx : s_ext v w) : s_adm w (n + 1) := fun y b z1 z2 => by
  have := old_of hx z1 z2
  have := h y b this.1 this.2
  omega
theorem sat_skip {n : Nat} {kd fa fb : Nat → Nat} {TA TR : Nat → Nat → Prop} {TC : Nat → Nat → Nat → Prop} {F Q : Nat → Nat → Nat → Prop} (h : tm_Sat n kd fa fb TA TR TC F Q) (h2 : ¬ kd n = 2) (h3 : ¬ kd n = 3) : tm_Sat (n + 1) kd fa fb TA TR TC F Q := by
  have e2 : ∀ k, k < n + 1 → kd k = 2 → k < n := fun k hk e => by
    rcases Nat.lt_or_ge k n with z | z
    · exact z
    · exact absurd (by rw [show n = k by omega]; exact e) h2
  have e3 : ∀ k, k < n + 1 → kd k = 3 → k < n := fun k hk e => by
    rcases Nat.lt_or_ge k n with z | z
    · exact z
    · exact absurd (by rw [show n = k by omega]; exact e) h3
  obtain ⟨a1, a2, a3, a4, a5, a6, a7, a8, a9⟩ := h
  exact ⟨a1, fun c k hk hd => a2 c k (e2 k hk hd) hd, fun c k hk hd => a3 c k (e2 k hk hd) hd, fun c k hk hd => a4 c k (e3 k hk hd) hd, fun c y k hk hd => a5 c y k (e3 k hk hd) hd, a6, a7, a8, a9⟩
theorem sat_2 {n : Nat} {kd fa fb : Nat → Nat} {TA TR : Nat → Nat → Prop} {TC : Nat → Nat → Nat → Prop} {F Q : Nat → Nat → Nat → Prop} (h : tm_Sat n kd fa fb TA TR TC F Q) (h2 : kd n = 2) (k1 : ∀ c, F c 6 n → ¬ Q c 6 n → False) (k2 : ∀ c, F c 6 (fa n) → ¬ Q c 6 (fa n) → F c 6 (fb n) → ¬ Q c 6 (fb n) → F c 6 n) : tm_Sat (n + 1) kd fa fb TA TR TC F Q := by
  have lt : ∀ k, k < n + 1 → ¬ k = n → k < n := fun k hk e => by omega
  obtain ⟨a1, a2, a3, a4, a5, a6, a7, a8, a9⟩ := h
  refine ⟨a1, fun c k hk hd z1 z2 => ?_, fun c k hk hd z1 z2 z3 z4 z5 => ?_, fun c k hk hd => a4 c k (lt k hk (fun e => by rw [e, h2] at hd; cases hd)) hd, fun c y k hk hd => a5 c y k (lt k hk (fun e => by rw [e, h2] at hd; cases hd)) hd, a6, a7, a8, a9⟩
  · by_cases e : k = n
    · subst e; exact absurd (k1 c z1 z2) id
    · exact a2 c k (lt k hk e) hd z1 z2
  · by_cases e : k = n
    · subst e; exact k2 c z1 z2 z3 z4
    · exact a3 c k (lt k hk e) hd z1 z2 z3 z4 z5
theorem sat_3 {n : Nat} {kd fa fb : Nat → Nat} {TA TR : Nat → Nat → Prop} {TC : Nat → Nat → Nat → Prop} {F Q : Nat → Nat → Nat → Prop} (h : tm_Sat n kd fa fb TA TR TC F Q) (h3 : kd n = 3) (k1 : ∀ c, F c 6 n → ¬ Q c 6 n → False) (k2 : ∀ c y, F c (fa n) y → ¬ Q c (fa n) y → F y 6 (fb n) → ¬ Q y 6 (fb n) → F c 6 n) : tm_Sat (n + 1) kd fa fb TA TR TC F Q := by
  have lt : ∀ k, k < n + 1 → ¬ k = n → k < n := fun k hk e => by omega
  obtain ⟨a1, a2, a3, a4, a5, a6, a7, a8, a9⟩ := h
  refine ⟨a1, fun c k hk hd => a2 c k (lt k hk (fun e => by rw [e, h3] at hd; cases hd)) hd, fun c k hk hd => a3 c k (lt k hk (fun e => by rw [e, h3] at hd; cases hd)) hd, fun c k hk hd z1 z2 => ?_, fun c y k hk hd z1 z2 z3 z4 z5 z6 => ?_, a6, a7, a8, a9⟩
  · by_cases e : k = n
    · subst e; exact absurd (k1 c z1 z2) id
    · exact a4 c k (lt k hk e) hd z1 z2
  · by_cases e : k = n
    · subst e; exact k2 c y z1 z2 z3 z4
    · exact a5 c y k (lt k hk e) hd z1 z2 z3 z4 z5 z6
theorem mid_both {v w : sU} {N : Nat} {kd fa fb : Nat → Nat} {n : Nat} (h : s_mid v N kd fa fb n) (ha : s_adm v n) (hn : n < N) (h2 : kd n = 2) (hx : s_ext v w) (hs : s_snd v w (fun (G : Nat → Nat → Prop) => ∀ z, z < 160 → G (z * 7 + 6) (fa n) → G (z * 7 + 6) (fb n) → G (z * 7 + 6) n))
    (hc : ∀ b, b < 160 → (v.1 0 (b * 7 + 6) (fa n) = true → v.1 0 (b * 7 + 6) (fb n) = true → w.1 0 (b * 7 + 6) n = true)) : s_mid w N kd fa fb (n + 1) := by
  refine mid_ext h hx hs (fun z hz g1 g2 => ⟨g1.1, hn⟩) (fun z hz g1 g2 => g1) (fun z hz g1 g2 => (rules_gB h.1).2.2.1 z n hn h2 g1 g2) (sat_2 (sat_ext h.2.1 hx) h2 (fun c z1 z2 => ?_) (fun c z1 z2 z3 z4 => ?_))
  · have := old_of hx z1.2 (fun q => z2 ⟨by decide, q⟩)
    have := ha _ _ this.1 this.2
    omega
  · have o1 := old_of hx z1.2 (fun q => z2 ⟨by decide, q⟩)
    have o2 := old_of hx z3.2 (fun q => z4 ⟨by decide, q⟩)
    have hr := (h.1.2.2.1 _ _ o1.1).1
    have hN := (tm_N h.1.1).2.2
    exact ⟨by decide, hc c (by omega) o1.1 o2.1⟩
theorem mid_some {v w : sU} {N : Nat} {kd fa fb : Nat → Nat} {n : Nat} (h : s_mid v N kd fa fb n) (ha : s_adm v n) (hn : n < N) (h3 : kd n = 3) (hx : s_ext v w) (hs : s_snd v w (fun (G : Nat → Nat → Prop) => ∀ z d, z < 160 → G (z * 7 + fa n) d → G (d * 7 + 6) (fb n) → G (z * 7 + 6) n))
    (hc : ∀ b, b < 160 → (v.1 0 (b * 7 + 6) (fb n) = true → ∀ z, z < 160 → v.1 0 (z * 7 + fa n) b = true → w.1 0 (z * 7 + 6) n = true)) : s_mid w N kd fa fb (n + 1) := by
  have h9 := tm_3 h.1.1 hn h3
  have hN := (tm_N h.1.1).2.2
  refine mid_ext h hx hs (fun z d hz g1 g2 => ⟨by omega, hn⟩) (fun z d hz g1 g2 => ?_) (fun z d hz g1 g2 => (rules_gB h.1).2.2.2.2.1 z d n hn h3 g1 g2) (sat_3 (sat_ext h.2.1 hx) h3 (fun c z1 z2 => ?_) (fun c y z1 z2 z3 z4 => ?_))
  · have g : s_beg v ((z * 7 + fa n) / 7) := g1
    rw [show (z * 7 + fa n) / 7 = z by omega] at g
    show s_beg v ((z * 7 + 6) / 7)
    rw [show (z * 7 + 6) / 7 = z by omega]
    exact g
  · have := old_of hx z1.2 (fun q => z2 ⟨by decide, q⟩)
    have := ha _ _ this.1 this.2
    omega
  · have o1 := old_of hx z1.2 (fun q => z2 ⟨z1.1, q⟩)
    have o2 := old_of hx z3.2 (fun q => z4 ⟨by decide, q⟩)
    have hr1 := (h.1.2.2.1 _ _ o1.1)
    exact ⟨by decide, hc y (by omega) o2.1 c (by omega) o1.1⟩
theorem mid_skip {v : sU} {N : Nat} {kd fa fb : Nat → Nat} {n : Nat} (h : s_mid v N kd fa fb n) (h2 : ¬ kd n = 2) (h3 : ¬ kd n = 3) : s_mid v N kd fa fb (n + 1) := ⟨h.1, sat_skip h.2.1 h2 h3, h.2.2.1, h.2.2.2⟩
/-- more is told -/
theorem sat_told {n : Nat} {kd fa fb : Nat → Nat} {TA TR TA' TR' : Nat → Nat → Prop} {TC TC' : Nat → Nat → Nat → Prop} {F Q : Nat → Nat → Nat → Prop} (h : tm_Sat n kd fa fb TA TR TC F Q)
    (k1 : ∀ a b, TA' a b → TA a b ∨ ∀ c, F c 6 a → ¬ Q c 6 a → F c 6 b) (k2 : ∀ r t, TR' r t → TR r t ∨ ∀ c y, F c r y → ¬ Q c r y → F c t y) (k3 : ∀ r q t, TC' r q t → TC r q t ∨ ∀ c y z, F c r y → ¬ Q c r y → F y q z → ¬ Q y q z → F c t z) : tm_Sat n kd fa fb TA' TR' TC' F Q := by
  obtain ⟨a1, a2, a3, a4, a5, a6, a7, a8, a9⟩ := h
  refine ⟨fun c a b t z1 z2 z3 => ?_, a2, a3, a4, a5, fun c y r t hr ht z1 z2 z3 => ?_, fun c y z r q t hr hq ht z1 z2 z3 z4 z5 z6 => ?_, a8, a9⟩
  · exact (k1 a b t).elim (fun k => a1 c a b k z1 z2 z3) (fun k => k c z1 z2)
  · exact (k2 r t ht).elim (fun k => a6 c y r t hr k z1 z2 z3) (fun k => k c y z1 z2)
  · exact (k3 r q t ht).elim (fun k => a7 c y z r q t hr hq k z1 z2 z3 z4 z5 z6) (fun k => k c y z z1 z2 z3 z4)
end
section
/-! What is taken in: an axiom is heard. -/
theorem mid_hear {v v1 w : sU} {N : Nat} {kd fa fb : Nat → Nat} {n : Nat} {rule : (Nat → Nat → Prop) → Prop} (h : s_mid v N kd fa fb n) (e0 : v1.1 0 = v.1 0) (e1 : v1.1 1 = v.1 1) (e2 : v1.1 2 = v.1 2) (e3 : v1.1 3 = v.1 3) (e7 : v1.1 7 = v.1 7) (e8 : v1.1 8 = v.1 8) (e9 : v1.2 = v.2)
    (t4 : ∀ a b, v.1 4 a b = true → v1.1 4 a b = true) (t5 : ∀ a b, v.1 5 a b = true → v1.1 5 a b = true) (t6 : ∀ a b, v.1 6 a b = true → v1.1 6 a b = true)
    (rg : (∀ a b, v1.1 4 a b = true → a < N ∧ b < N) ∧ (∀ r t, v1.1 5 r t = true → r < 6 ∧ t < 6) ∧ (∀ q t, v1.1 6 q t = true → q < 36 ∧ t < 6)) (hx : s_ext v1 w) (hs : s_snd v1 w rule)
    (r1 : rule (fun y b => y < N * 7 ∧ b < N)) (r2 : rule (fun y _ => s_beg v1 (y / 7))) (r3 : s_bas v1 N kd fa fb → rule (gB (TAu v1) (TRu v1) (TCu v1) N kd fa fb))
    (k1 : ∀ a b, TAu v1 a b → TAu v a b ∨ ∀ c, FF w c 6 a → ¬ QQ w c 6 a → FF w c 6 b) (k2 : ∀ r t, TRu v1 r t → TRu v r t ∨ ∀ c y, FF w c r y → ¬ QQ w c r y → FF w c t y) (k3 : ∀ r q t, TCu v1 r q t → TCu v r q t ∨ ∀ c y z, FF w c r y → ¬ QQ w c r y → FF w y q z → ¬ QQ w y q z → FF w c t z) : s_mid w N kd fa fb n := by
  obtain ⟨⟨b1, b2, b3, b4, b5, b6, b7⟩, h2, h3, h4⟩ := h
  have tm1 : s_tm v1 N kd fa fb := by unfold s_tm; rw [e9, e7, e8]; exact b1
  have tr1 : s_tr v1 := by unfold s_tr; rw [e0, e1]; exact b2
  have bas1 : s_bas v1 N kd fa fb := ⟨tm1, tr1, by rw [e0]; exact b3, by rw [e0, e2]; exact b4, by rw [e0, e3]; exact b5, rg, by unfold s_beg; rw [e0]; exact b7⟩
  have snd1 : s_sound v1 N kd fa fb := by
    unfold s_sound
    rw [e0]
    exact fun y b z => gB_mono (Nat.le_refl _) (fun k _ => ⟨rfl, rfl, rfl⟩) t4 t5 (fun r q t z => ⟨z.1, z.2.1, t6 _ _ z.2.2⟩) (h4 y b z)
  have ef : FF v1 = FF v := by unfold FF; rw [e0]
  have eq : QQ v1 = QQ v := by unfold QQ; rw [e2]
  have fr1 : ∀ y b, v1.1 2 y b = true → v1.1 3 0 y = true := by rw [e2, e3]; exact h3
  have sat1 : tm_Sat n kd fa fb (TAu v) (TRu v) (TCu v) (FF v1) (QQ v1) := by rw [ef, eq]; exact h2
  have e := tau_gro (gro_ext hx)
  refine ⟨bas_ext bas1 hx (hs _ bas1.2.2.1 r1) (fun x r d hr z => ?_), ?_, fr_ext hx fr1, ?_⟩
  · have := hs _ (beg_row bas1.2.2.2.2.2.2) r2 _ _ z
    rw [show (x * 7 + r) / 7 = x by omega] at this
    exact beg_mono hx.1 this
  · rw [e.1, e.2.1, e.2.2]
    exact sat_told (sat_ext sat1 hx) k1 k2 k3
  · unfold s_sound
    rw [e.1, e.2.1, e.2.2]
    exact hs _ snd1 (r3 bas1)
section HE
variable {v w : sU} {N : Nat} {kd fa fb : Nat → Nat} {n x y : Nat}
theorem beg_6 {u : sU} {z : Nat} {b b' : Nat} (h : (fun y (_ : Nat) => s_beg u (y / 7)) (z * 7 + 6) b) : (fun y (_ : Nat) => s_beg u (y / 7)) (z * 7 + 6) b' := h
theorem mid_hear0 (h : s_mid v N kd fa fb n) (hx1 : x < N) (hy1 : y < N) (hw : s_ext (s_put v 4 x y) w ∧ s_from (s_put v 4 x y) w (x * 7 + 6) 6 y 160) : s_mid w N kd fa fb n := by
  have hN := (tm_N h.1.1).2.2
  have tr1 : s_tr (s_put v 4 x y) := h.1.2.1
  have hs := from_snd (rule := fun (G : Nat → Nat → Prop) => ∀ z, z < 160 → G (z * 7 + 6) x → G (z * 7 + 6) y) (show x < 160 by omega) (show 6 < 7 by decide) tr1 snd_refl hw.2 (fun G hr _ z hz g => hr z hz g)
  refine mid_hear (v1 := s_put v 4 x y) h rfl rfl rfl rfl rfl rfl rfl (fun a b z => tm_put_iff.mpr (Or.inl z)) (fun a b z => z) (fun a b z => z) ⟨fun a b z => ?_, h.1.2.2.2.2.2.1.2.1, h.1.2.2.2.2.2.1.2.2⟩ hw.1 hs (fun z _ g => ⟨g.1, hy1⟩) (fun z _ g => g) (fun bas1 z _ g => (rules_gB bas1).1 z x y (tm_put_iff.mpr (Or.inr ⟨rfl, rfl⟩)) g) (fun a b z => ?_) (fun r t z => Or.inl z) (fun r q t z => Or.inl z)
  · rcases tm_put_iff.mp z with z | z
    · exact h.1.2.2.2.2.2.1.1 a b z
    · exact ⟨by omega, by omega⟩
  · rcases tm_put_iff.mp z with z | z
    · exact Or.inl z
    · refine Or.inr (fun c z1 z2 => ⟨by decide, ?_⟩)
      rw [z.1] at z1 z2
      have o := old_of hw.1 z1.2 (fun q => z2 ⟨by decide, q⟩)
      have hr := (h.1.2.2.1 _ _ o.1).1
      rw [z.2]
      exact from_all (show x < 160 by omega) (by decide) tr1 (ext_refl _) hw.2 (show c < 160 by omega) o.1
theorem mid_hear1 (h : s_mid v N kd fa fb n) (hx1 : x < N) (hy1 : y < N) (hw : ∃ v', (s_ext (s_put2 v x y) v' ∧ s_from (s_put2 v x y) v' (x * 7 + 6) 6 y 160) ∧ s_ext v' w ∧ s_from v' w (y * 7 + 6) 6 x 160) : s_mid w N kd fa fb n ∧ s_ext (s_put2 v x y) w := by
  obtain ⟨v', hv, hw⟩ := hw
  have hN := (tm_N h.1.1).2.2
  have tr1 : s_tr (s_put2 v x y) := h.1.2.1
  have tr2 := tr_ext tr1 hv.1
  have hx := ext_trans hv.1 hw.1
  have hp : ∀ a b, tm_put (tm_put (v.1 4) x y) y x a b = true ↔ v.1 4 a b = true ∨ (a = x ∧ b = y) ∨ (a = y ∧ b = x) := fun a b => by
    rw [tm_put_iff, tm_put_iff]
    exact ⟨fun z => z.elim (fun z => z.elim Or.inl (fun z => Or.inr (Or.inl z))) (fun z => Or.inr (Or.inr z)), fun z => z.elim (fun z => Or.inl (Or.inl z)) (fun z => z.elim (fun z => Or.inl (Or.inr z)) Or.inr)⟩
  have hs := from_snd (rule := fun (G : Nat → Nat → Prop) => ∀ z, z < 160 → (G (z * 7 + 6) x → G (z * 7 + 6) y) ∧ (G (z * 7 + 6) y → G (z * 7 + 6) x)) (show y < 160 by omega) (show 6 < 7 by decide) tr2 (from_snd (show x < 160 by omega) (show 6 < 7 by decide) tr1 snd_refl hv.2 (fun G hr _ z hz g => (hr z hz).1 g)) hw.2 (fun G hr _ z hz g => (hr z hz).2 g)
  refine ⟨mid_hear (v1 := s_put2 v x y) h rfl rfl rfl rfl rfl rfl rfl (fun a b z => (hp a b).mpr (Or.inl z)) (fun a b z => z) (fun a b z => z) ⟨fun a b z => ?_, h.1.2.2.2.2.2.1.2.1, h.1.2.2.2.2.2.1.2.2⟩ hx hs (fun z _ => ⟨fun g => ⟨g.1, hy1⟩, fun g => ⟨g.1, hx1⟩⟩) (fun z _ => ⟨fun g => g, fun g => g⟩)
    (fun bas1 z _ => ⟨fun g => (rules_gB bas1).1 z x y ((hp x y).mpr (Or.inr (Or.inl ⟨rfl, rfl⟩))) g, fun g => (rules_gB bas1).1 z y x ((hp y x).mpr (Or.inr (Or.inr ⟨rfl, rfl⟩))) g⟩) (fun a b z => ?_) (fun r t z => Or.inl z) (fun r q t z => Or.inl z), hx⟩
  · rcases (hp a b).mp z with z | z | z
    · exact h.1.2.2.2.2.2.1.1 a b z
    · exact ⟨by omega, by omega⟩
    · exact ⟨by omega, by omega⟩
  · rcases (hp a b).mp z with z | z | z
    · exact Or.inl z
    · refine Or.inr (fun c z1 z2 => ⟨by decide, ?_⟩)
      rw [z.1] at z1 z2
      have o := old_of hx z1.2 (fun q => z2 ⟨by decide, q⟩)
      have hr := (h.1.2.2.1 _ _ o.1).1
      rw [z.2]
      exact hw.1.1 _ _ (from_all (show x < 160 by omega) (by decide) tr1 (ext_refl _) hv.2 (show c < 160 by omega) o.1)
    · refine Or.inr (fun c z1 z2 => ⟨by decide, ?_⟩)
      rw [z.1] at z1 z2
      have o := old_of hx z1.2 (fun q => z2 ⟨by decide, q⟩)
      have hr := (h.1.2.2.1 _ _ o.1).1
      rw [z.2]
      exact from_all (show y < 160 by omega) (by decide) tr2 hv.1 hw.2 (show c < 160 by omega) o.1
theorem beg_q {u : sU} {z q t b b' : Nat} (hq : q < 7) (ht : t < 7) (h : s_beg u ((z * 7 + q) / 7)) : s_beg u ((z * 7 + t) / 7) := by
  rw [show (z * 7 + q) / 7 = z by omega] at h
  rw [show (z * 7 + t) / 7 = z by omega]
  exact h
theorem mid_hear2 (h : s_mid v N kd fa fb n) (hx1 : x < 6) (hy1 : y < 6) (hw : s_ext (s_put v 5 x y) w ∧ s_snd (s_put v 5 x y) w (fun (G : Nat → Nat → Prop) => ∀ z d, z < 160 → G (z * 7 + x) d → G (z * 7 + y) d) ∧ ∀ b, b < N → ∀ z, z < 160 → v.1 0 (z * 7 + x) b = true → w.1 0 (z * 7 + y) b = true) : s_mid w N kd fa fb n := by
  have hN := (tm_N h.1.1).2.2
  refine mid_hear (v1 := s_put v 5 x y) h rfl rfl rfl rfl rfl rfl rfl (fun a b z => z) (fun a b z => tm_put_iff.mpr (Or.inl z)) (fun a b z => z) ⟨h.1.2.2.2.2.2.1.1, fun r t z => ?_, h.1.2.2.2.2.2.1.2.2⟩ hw.1 hw.2.1 (fun z d _ g => ⟨by omega, g.2⟩) (fun z d _ g => beg_q (b := 0) (b' := 0) (by omega) (by omega) g) (fun bas1 z d _ g => (rules_gB bas1).2.2.2.2.2.1 z d x y hx1 (tm_put_iff.mpr (Or.inr ⟨rfl, rfl⟩)) g) (fun a b z => Or.inl z) (fun r t z => ?_) (fun r q t z => Or.inl z)
  · rcases tm_put_iff.mp z with z | z
    · exact h.1.2.2.2.2.2.1.2.1 r t z
    · exact ⟨by omega, by omega⟩
  · rcases tm_put_iff.mp z with z | z
    · exact Or.inl z
    · refine Or.inr (fun c d z1 z2 => ?_)
      rw [z.1] at z1 z2
      have o := old_of hw.1 z1.2 (fun q => z2 ⟨z1.1, q⟩)
      have hr := h.1.2.2.1 _ _ o.1
      rw [z.2]
      exact ⟨by omega, hw.2.2 d hr.2 c (by omega) o.1⟩
theorem mid_hear3 {t : Nat} (h : s_mid v N kd fa fb n) (hx1 : x < 6) (hy1 : y < 6) (ht1 : t < 6) (hw : s_ext (s_put v 6 (x * 6 + y) t) w ∧ s_snd (s_put v 6 (x * 6 + y) t) w (fun (G : Nat → Nat → Prop) => ∀ z d b, z < 160 → G (z * 7 + x) d → G (d * 7 + y) b → G (z * 7 + t) b) ∧ ∀ d, d < N → ∀ b, b < 160 → v.1 0 (d * 7 + y) b = true → ∀ z, z < 160 → v.1 0 (z * 7 + x) d = true → w.1 0 (z * 7 + t) b = true) : s_mid w N kd fa fb n := by
  have hN := (tm_N h.1.1).2.2
  refine mid_hear (v1 := s_put v 6 (x * 6 + y) t) h rfl rfl rfl rfl rfl rfl rfl (fun a b z => z) (fun a b z => z) (fun a b z => tm_put_iff.mpr (Or.inl z)) ⟨h.1.2.2.2.2.2.1.1, h.1.2.2.2.2.2.1.2.1, fun r q z => ?_⟩ hw.1 hw.2.1 (fun z d b _ g1 g2 => ⟨by omega, g2.2⟩) (fun z d b _ g1 g2 => beg_q (b := 0) (b' := 0) (by omega) (by omega) g1) (fun bas1 z d b _ g1 g2 => (rules_gB bas1).2.2.2.2.2.2.1 z d b x y t hx1 hy1 (tm_put_iff.mpr (Or.inr ⟨rfl, rfl⟩)) g1 g2) (fun a b z => Or.inl z) (fun r t z => Or.inl z) (fun r q t' z => ?_)
  · rcases tm_put_iff.mp z with z | z
    · exact h.1.2.2.2.2.2.1.2.2 r q z
    · exact ⟨by omega, by omega⟩
  · obtain ⟨a1, a2, z⟩ := z
    rcases tm_put_iff.mp z with z | z
    · exact Or.inl ⟨a1, a2, z⟩
    · have e1 : r = x := by omega
      have e2 : q = y := by omega
      subst e1 e2
      refine Or.inr (fun c d b z1 z2 z3 z4 => ?_)
      have o1 := old_of hw.1 z1.2 (fun q => z2 ⟨z1.1, q⟩)
      have o2 := old_of hw.1 z3.2 (fun q => z4 ⟨z3.1, q⟩)
      have hr1 := h.1.2.2.1 _ _ o1.1
      have hr2 := h.1.2.2.1 _ _ o2.1
      rw [z.2]
      exact ⟨by omega, hw.2.2 d hr1.2 b (by omega) o2.1 c (by omega) o1.1⟩
end HE
/-- the told tables behind it -/
def x_or (U : Nat → Prop) (k0 : Nat) : Nat → Prop := fun k => U k ∨ k = k0
section TO
variable {so xa xb xc : Nat → Nat} {U : Nat → Prop} {k0 : Nat}
theorem or_TA {a b : Nat} : x_TA so xa xb (x_or U k0) a b ↔ x_TA so xa xb U a b ∨ ((so k0 = 0 ∧ xa k0 = a ∧ xb k0 = b) ∨ (so k0 = 1 ∧ ((xa k0 = a ∧ xb k0 = b) ∨ (xa k0 = b ∧ xb k0 = a)))) := by
  constructor
  · rintro ⟨k, z | z, h⟩
    · exact Or.inl ⟨k, z, h⟩
    · subst z; exact Or.inr h
  · rintro (⟨k, z, h⟩ | h)
    · exact ⟨k, Or.inl z, h⟩
    · exact ⟨k0, Or.inr rfl, h⟩
theorem or_TR {r t : Nat} : x_TR so xa xb (x_or U k0) r t ↔ x_TR so xa xb U r t ∨ (so k0 = 2 ∧ xa k0 = r ∧ xb k0 = t) := by
  constructor
  · rintro ⟨k, z | z, h⟩
    · exact Or.inl ⟨k, z, h⟩
    · subst z; exact Or.inr h
  · rintro (⟨k, z, h⟩ | h)
    · exact ⟨k, Or.inl z, h⟩
    · exact ⟨k0, Or.inr rfl, h⟩
theorem or_TC {r q t : Nat} : x_TC so xa xb xc (x_or U k0) r q t ↔ x_TC so xa xb xc U r q t ∨ (so k0 = 3 ∧ xa k0 = r ∧ xb k0 = q ∧ xc k0 = t) := by
  constructor
  · rintro ⟨k, z | z, h⟩
    · exact Or.inl ⟨k, z, h⟩
    · subst z; exact Or.inr h
  · rintro (⟨k, z, h⟩ | h)
    · exact ⟨k, Or.inl z, h⟩
    · exact ⟨k0, Or.inr rfl, h⟩
theorem told_0 {v w : sU} (h : s_told v so xa xb xc U) (e : so k0 = 0) (hx : s_ext (s_put v 4 (xa k0) (xb k0)) w) : s_told w so xa xb xc (x_or U k0) := by
  unfold s_told
  rw [hx.2.2.2.2.2.1 4 (by decide), hx.2.2.2.2.2.1 5 (by decide), hx.2.2.2.2.2.1 6 (by decide)]
  refine ⟨fun a b => ?_, fun r t => ?_, fun r q t h1 h2 => ?_⟩
  · show tm_put (v.1 4) _ _ a b = true ↔ _
    rw [tm_put_iff, h.1, or_TA, e]
    exact ⟨fun z => z.elim Or.inl (fun z => Or.inr (Or.inl ⟨rfl, z.1.symm, z.2.symm⟩)), fun z => z.elim Or.inl (fun z => z.elim (fun z => Or.inr ⟨z.2.1.symm, z.2.2.symm⟩) (fun z => absurd z.1 (by decide)))⟩
  · show v.1 5 r t = true ↔ _
    rw [h.2.1, or_TR, e]
    exact ⟨Or.inl, fun z => z.elim id (fun z => absurd z.1 (by decide))⟩
  · show v.1 6 _ t = true ↔ _
    rw [h.2.2 r q t h1 h2, or_TC, e]
    exact ⟨Or.inl, fun z => z.elim id (fun z => absurd z.1 (by decide))⟩
theorem told_1 {v w : sU} (h : s_told v so xa xb xc U) (e : so k0 = 1) (hx : s_ext (s_put2 v (xa k0) (xb k0)) w) : s_told w so xa xb xc (x_or U k0) := by
  unfold s_told
  rw [hx.2.2.2.2.2.1 4 (by decide), hx.2.2.2.2.2.1 5 (by decide), hx.2.2.2.2.2.1 6 (by decide)]
  refine ⟨fun a b => ?_, fun r t => ?_, fun r q t h1 h2 => ?_⟩
  · show tm_put (tm_put (v.1 4) _ _) _ _ a b = true ↔ _
    rw [tm_put_iff, tm_put_iff, h.1, or_TA, e]
    constructor
    · rintro ((z | z) | z)
      · exact Or.inl z
      · exact Or.inr (Or.inr ⟨rfl, Or.inl ⟨z.1.symm, z.2.symm⟩⟩)
      · exact Or.inr (Or.inr ⟨rfl, Or.inr ⟨z.2.symm, z.1.symm⟩⟩)
    · rintro (z | ⟨z, _⟩ | ⟨_, z | z⟩)
      · exact Or.inl (Or.inl z)
      · exact absurd z (by decide)
      · exact Or.inl (Or.inr ⟨z.1.symm, z.2.symm⟩)
      · exact Or.inr ⟨z.2.symm, z.1.symm⟩
  · show v.1 5 r t = true ↔ _
    rw [h.2.1, or_TR, e]
    exact ⟨Or.inl, fun z => z.elim id (fun z => absurd z.1 (by decide))⟩
  · show v.1 6 _ t = true ↔ _
    rw [h.2.2 r q t h1 h2, or_TC, e]
    exact ⟨Or.inl, fun z => z.elim id (fun z => absurd z.1 (by decide))⟩
theorem told_2 {v w : sU} (h : s_told v so xa xb xc U) (e : so k0 = 2) (hx : s_ext (s_put v 5 (xa k0) (xb k0)) w) : s_told w so xa xb xc (x_or U k0) := by
  unfold s_told
  rw [hx.2.2.2.2.2.1 4 (by decide), hx.2.2.2.2.2.1 5 (by decide), hx.2.2.2.2.2.1 6 (by decide)]
  refine ⟨fun a b => ?_, fun r t => ?_, fun r q t h1 h2 => ?_⟩
  · show v.1 4 a b = true ↔ _
    rw [h.1, or_TA, e]
    exact ⟨Or.inl, fun z => z.elim id (fun z => z.elim (fun z => absurd z.1 (by decide)) (fun z => absurd z.1 (by decide)))⟩
  · show tm_put (v.1 5) _ _ r t = true ↔ _
    rw [tm_put_iff, h.2.1, or_TR, e]
    exact ⟨fun z => z.elim Or.inl (fun z => Or.inr ⟨rfl, z.1.symm, z.2.symm⟩), fun z => z.elim Or.inl (fun z => Or.inr ⟨z.2.1.symm, z.2.2.symm⟩)⟩
  · show v.1 6 _ t = true ↔ _
    rw [h.2.2 r q t h1 h2, or_TC, e]
    exact ⟨Or.inl, fun z => z.elim id (fun z => absurd z.1 (by decide))⟩
theorem told_3 {v w : sU} (h : s_told v so xa xb xc U) (e : so k0 = 3) (ha : xa k0 < 6) (hb : xb k0 < 6) (hx : s_ext (s_put v 6 (xa k0 * 6 + xb k0) (xc k0)) w) : s_told w so xa xb xc (x_or U k0) := by
  unfold s_told
  rw [hx.2.2.2.2.2.1 4 (by decide), hx.2.2.2.2.2.1 5 (by decide), hx.2.2.2.2.2.1 6 (by decide)]
  refine ⟨fun a b => ?_, fun r t => ?_, fun r q t h1 h2 => ?_⟩
  · show v.1 4 a b = true ↔ _
    rw [h.1, or_TA, e]
    exact ⟨Or.inl, fun z => z.elim id (fun z => z.elim (fun z => absurd z.1 (by decide)) (fun z => absurd z.1 (by decide)))⟩
  · show v.1 5 r t = true ↔ _
    rw [h.2.1, or_TR, e]
    exact ⟨Or.inl, fun z => z.elim id (fun z => absurd z.1 (by decide))⟩
  · show tm_put (v.1 6) _ _ _ t = true ↔ _
    rw [tm_put_iff, h.2.2 r q t h1 h2, or_TC, e]
    refine ⟨fun z => z.elim Or.inl (fun z => Or.inr ⟨rfl, by omega, by omega, z.2.symm⟩), fun z => z.elim Or.inl (fun z => Or.inr ⟨by rw [z.2.1, z.2.2.1], z.2.2.2.symm⟩)⟩
end TO
end
section
/-! Axioms as the tables have them; hearing any axiom; forgetting. -/
theorem tq_mono {l : Launch} {y : MethodName} {ws : List Cond} {rm : Room} {Pc : Array Value → State → Prop} {Qc Qc' : Array Value → State → Outcome → State → Prop} {mc ms : Nat} {free : Addr → Prop} (hM : Met l y ws rm Pc Qc mc ms free) (h : ∀ a st o t, Qc a st o t → Qc' a st o t) : Met l y ws rm Pc Qc' mc ms free :=
  fun p e ha hc hk s m args below hf happ hP hK => by
    obtain ⟨n, o, h1, h2, h3, h4, h5⟩ := hM p e ha hc hk s m args below hf happ hP hK
    exact ⟨n, o, h1, h2, h3, h _ _ _ _ h4, h5⟩
theorem tq_monoV {S : Type} {post post' : S → Prop} {B : S → State → Prop} {A : Nat → Prop} (h : ∀ u, post u → post' u) : ∀ (a : Array Value) (st : State) (o : Outcome) (t : State), va_Qv post B A a st o t → va_Qv post' B A a st o t :=
  fun _ _ _ _ z => ⟨by obtain ⟨u, z1, z2, z3⟩ := z.1; exact ⟨u, z1, h u z2, z3⟩, z.2⟩
theorem tq_monoI {S : Type} {post post' : Int32 → S → Prop} {B : S → State → Prop} {A : Nat → Prop} (h : ∀ r u, post r u → post' r u) : ∀ (a : Array Value) (st : State) (o : Outcome) (t : State), va_Qi post B A a st o t → va_Qi post' B A a st o t :=
  fun _ _ _ _ z => ⟨by obtain ⟨r, u, z1, z2, z3⟩ := z.1; exact ⟨r, u, z1, h r u z2, z3⟩, z.2⟩
def s_ax (u : sU) (T N : Nat) (so xa xb xc : Nat → Nat) : Prop := u.2.2 2 = T ∧ T ≤ 100 ∧ ∀ k, 1 ≤ k → k ≤ T → (u.2.1 4 (k - 1) = nI (so k) ∧ so k ≤ 3 ∧ u.2.1 5 (k - 1) = nI (xa k) ∧ u.2.1 6 (k - 1) = nI (xb k) ∧ (so k ≤ 1 → xa k < N ∧ xb k < N) ∧ (2 ≤ so k → xa k < 6 ∧ xb k < 6) ∧ (so k = 3 → u.2.1 7 (k - 1) = nI (xc k) ∧ xc k < 6))
def x_inf (u : sU) (k : Nat) : Prop := 1 ≤ k ∧ k ≤ u.2.2 2 ∧ u.2.1 8 (k - 1) = 0
theorem told_congr {u : sU} {so xa xb xc : Nat → Nat} {U V : Nat → Prop} (h : s_told u so xa xb xc U) (e : ∀ k, U k ↔ V k) : s_told u so xa xb xc V := by
  have : U = V := funext (fun k => propext (e k))
  rw [← this]; exact h
def s_heard (u v : sU) (N : Nat) (kd fa fb : Nat → Nat) (n : Nat) (so xa xb xc : Nat → Nat) (U : Nat → Prop) (k : Nat) : Prop := s_mid v N kd fa fb n ∧ s_told v so xa xb xc (x_or U k) ∧ v.2 = u.2 ∧ (∀ y b, u.1 0 y b = true → v.1 0 y b = true)
theorem c_hearK (l : Launch) (D : va_G) (a : Nat → Nat) (kI kL kZ : ClassId) (u : sU) (N : Nat) (kd fa fb : Nat → Nat) (n T : Nat) (so xa xb xc : Nat → Nat) (U : Nat → Prop) (hm : s_mid u N kd fa fb n) (ht : s_told u so xa xb xc U) (hax : s_ax u T N so xa xb xc) (k : Nat) (h1 : 1 ≤ k) (h2 : k ≤ T) :
    Met l yC_hear (wC_hear :: wA) ({ frames := 3, cells := 0, slots := 0, locals := 74 }) (va_Pc [.ref (a 3), .int (nI k)] (tq_wB D vwA (sW a kI kL kZ u) (sT kI kL kZ))) (va_Qv (fun (u' : sU) => s_heard u u' N kd fa fb n so xa xb xc U k) (fun u' t => va_P D vwA (sW a kI kL kZ u') t.heap) (sA a)) 0 0 (sA a) := by
  obtain ⟨e4, e3, e5, e6, b1, b2, b3⟩ := hax.2.2 k h1 h2
  have hT := hax.2.1
  have hN := tm_N hm.1.1
  have hk : so k = 0 ∨ so k = 1 ∨ so k = 2 ∨ so k = 3 := by omega
  rcases hk with e | e | e | e
  · have hb := b1 (by omega)
    exact tq_mono (c_hear0 l D a kI kL kZ u k (xa k) (xb k) h1 (by omega) (by rw [e4, e]) e5 e6 hm.1.2.1 (by omega) (by omega)) (tq_monoV (fun v z => ⟨mid_hear0 hm hb.1 hb.2 z, told_0 ht e z.1, z.1.2.2.2.2.2.2, z.1.1⟩))
  · have hb := b1 (by omega)
    exact tq_mono (c_hear1 l D a kI kL kZ u k (xa k) (xb k) h1 (by omega) (by rw [e4, e]) e5 e6 hm.1.2.1 (by omega) (by omega)) (tq_monoV (fun v z => by
      have h9 := mid_hear1 hm hb.1 hb.2 z
      exact ⟨h9.1, told_1 ht e h9.2, h9.2.2.2.2.2.2.2, h9.2.1⟩))
  · have hb := b2 (by omega)
    exact tq_mono (c_hear2 l D a kI kL kZ u N kd fa fb hm.1.1 hm.1.2.1 k (xa k) (xb k) h1 (by omega) (by rw [e4, e]) e5 e6 (by omega) (by omega)) (tq_monoV (fun v z => ⟨mid_hear2 hm hb.1 hb.2 z, told_2 ht e z.1, z.1.2.2.2.2.2.2, z.1.1⟩))
  · have hb := b2 (by omega)
    have hc := b3 e
    exact tq_mono (c_hear3 l D a kI kL kZ u N kd fa fb hm.1.1 hm.1.2.1 (xc k) k (xa k) (xb k) h1 (by omega) (by rw [e4, e]) e5 e6 hc.1 (by omega) (by omega) hc.2) (tq_monoV (fun v z => ⟨mid_hear3 hm hb.1 hb.2 hc.2 z, told_3 ht e hb.1 hb.2 z.1, z.1.2.2.2.2.2.2, z.1.1⟩))
/-- after forgetting nothing is there -/
theorem forget_0 {u : sU} {N : Nat} {kd fa fb : Nat → Nat} (hb : s_bas u N kd fa fb) : (∀ y b, ¬ (s_forget u).1 0 y b = true) ∧ (∀ y b, ¬ (s_forget u).1 2 y b = true) ∧ (∀ y, ¬ (s_forget u).1 3 0 y = true) ∧ (∀ c r d, r < 7 → c < 160 → d < 160 → ¬ (s_forget u).1 1 (d * 7 + r) c = true) ∧ (∀ y b, ¬ (s_forget u).1 4 y b = true) ∧ (∀ y b, ¬ (s_forget u).1 5 y b = true) ∧ (∀ y b, ¬ (s_forget u).1 6 y b = true) := by
  obtain ⟨b1, b2, b3, b4, b5, b6, b7⟩ := hb
  have hN := tm_N b1
  have e : u.2.2 0 = N := hN.1
  refine ⟨fun y b z => ?_, fun y b z => ?_, fun y z => ?_, fun c r d h1 h2 h3 z => ?_, fun y b z => ?_, fun y b z => ?_, fun y b z => ?_⟩
  · have z := tm_clr_iff.mp (z : tm_clr (u.1 0) (u.2.2 0 * 7) y b = true)
    have := (b3 y b z.2).1
    omega
  · have z := tm_clr_iff.mp (z : tm_clr (u.1 2) (u.2.2 0 * 7) y b = true)
    have := (b3 y b (b4 y b z.2)).1
    omega
  · have z2 : tm_clr (u.1 3) 1 0 y = true := z
    have := (tm_clr_iff.mp z2).1
    omega
  · have z := tm_clr_iff.mp (z : tm_clr (u.1 1) (u.2.2 0 * 7) (d * 7 + r) c = true)
    have := (b3 _ _ ((b2 c r d h1 h2 h3).mp z.2)).2
    omega
  · have z := tm_clr_iff.mp (z : tm_clr (u.1 4) (u.2.2 0) y b = true)
    have := (b6.1 y b z.2).1
    omega
  · have z := tm_clr_iff.mp (z : tm_clr (u.1 5) 6 y b = true)
    have := (b6.2.1 y b z.2).1
    omega
  · have z := tm_clr_iff.mp (z : tm_clr (u.1 6) 36 y b = true)
    have := (b6.2.2 y b z.2).1
    omega
theorem forget_mid {u : sU} {N : Nat} {kd fa fb : Nat → Nat} (hb : s_bas u N kd fa fb) (n : Nat) : s_mid (s_forget u) N kd fa fb n := by
  obtain ⟨f0, f2, f3, f1, f4, f5, f6⟩ := forget_0 hb
  have htm : s_tm (s_forget u) N kd fa fb := hb.1
  have nF : ∀ c r d, ¬ FF (s_forget u) c r d := fun c r d z => f0 _ _ z.2
  refine ⟨⟨htm, fun c r d h1 h2 h3 => ⟨fun z => absurd z (f1 c r d h1 h2 h3), fun z => absurd z (f0 _ _)⟩, fun y b z => absurd z (f0 _ _), fun y b z => absurd z (f2 _ _), fun y z => absurd z (f3 _), ⟨fun a b z => absurd z (f4 _ _), fun a b z => absurd z (f5 _ _), fun a b z => absurd z (f6 _ _)⟩, fun x r d _ z => absurd z (f0 _ _)⟩, ?_, fun y b z => absurd z (f2 _ _), fun y b z => absurd z (f0 _ _)⟩
  exact ⟨fun _ _ _ _ z => absurd z (nF _ _ _), fun _ _ _ _ z => absurd z (nF _ _ _), fun _ _ _ _ z => absurd z (nF _ _ _), fun _ _ _ _ z => absurd z (nF _ _ _), fun _ _ _ _ _ z => absurd z (nF _ _ _), fun _ _ _ _ _ _ z => absurd z (nF _ _ _), fun _ _ _ _ _ _ _ _ _ z => absurd z (nF _ _ _), fun _ _ _ _ z => absurd z (nF _ _ _), fun _ _ _ _ z => absurd z (nF _ _ _)⟩
theorem forget_told {u : sU} {N : Nat} {kd fa fb : Nat → Nat} (hb : s_bas u N kd fa fb) (so xa xb xc : Nat → Nat) : s_told (s_forget u) so xa xb xc (fun _ => False) := by
  obtain ⟨f0, f2, f3, f1, f4, f5, f6⟩ := forget_0 hb
  exact ⟨fun a b => ⟨fun z => absurd z (f4 _ _), fun ⟨_, z, _⟩ => z.elim⟩, fun a b => ⟨fun z => absurd z (f5 _ _), fun ⟨_, z, _⟩ => z.elim⟩, fun r q t _ _ => ⟨fun z => absurd z (f6 _ _), fun ⟨_, z, _⟩ => z.elim⟩⟩
theorem forget_adm {u : sU} {N : Nat} {kd fa fb : Nat → Nat} (hb : s_bas u N kd fa fb) (n : Nat) : s_adm (s_forget u) n := fun y b z _ => absurd z ((forget_0 hb).1 y b)
section TQZ
variable {p : Program} {l : Launch} {e : Env} {R : Room} {s : State} {m : MethodId} {args : Array Value} {below : List Frame} {meth : Method} {c : Code} {H : Heap} {locs : List Loc} {cells slots : Nat} {Q : State → Prop}
variable {cc : ByteArray} {pc : Nat} {ls : Array Slot} {rest : List Value}
theorem tq_zeq (hx : p.tables.exec = Jvm.exec) (hb : c.code = cc) {a : Nat} {off : Int} {tgt : Nat} (hdg : decode cc pc = .ok (.ifCond .eq off, 3)) (ht : (pc : Int) + off = (tgt : Int)) (ha : a < 2 ^ 31)
    (kt : a = 0 → W p l e R s m args below meth c H locs cells slots Q (F0 m tgt ls rest)) (kf : ¬ a = 0 → W p l e R s m args below meth c H locs cells slots Q (F0 m (pc + 3) ls rest)) : W p l e R s m args below meth c H locs cells slots Q (F0 m pc ls (.int (nI a) :: rest)) :=
  lv_if_eq hx hb hdg ht (fun h => kt ((nI_eq ha (by decide)).mp (h.trans nI_0.symm))) (fun h => kf (fun z => h (by rw [z]; exact nI_0)))
theorem tq_zne (hx : p.tables.exec = Jvm.exec) (hb : c.code = cc) {a : Nat} {off : Int} {tgt : Nat} (hdg : decode cc pc = .ok (.ifCond .ne off, 3)) (ht : (pc : Int) + off = (tgt : Int)) (ha : a < 2 ^ 31)
    (kt : ¬ a = 0 → W p l e R s m args below meth c H locs cells slots Q (F0 m tgt ls rest)) (kf : a = 0 → W p l e R s m args below meth c H locs cells slots Q (F0 m (pc + 3) ls rest)) : W p l e R s m args below meth c H locs cells slots Q (F0 m pc ls (.int (nI a) :: rest)) :=
  lv_if_ne hx hb hdg ht (fun h => kt (fun z => h (by rw [z]; exact nI_0))) (fun h => kf ((nI_eq ha (by decide)).mp (h.trans nI_0.symm)))
end TQZ
/-- the closure between calls -/
def s_cinv (u : sU) (N : Nat) (kd fa fb : Nat → Nat) (T : Nat) (so xa xb xc : Nat → Nat) : Prop :=
  s_bas u N kd fa fb ∧ (∀ y b, ¬ u.1 2 y b = true) ∧ s_ax u T N so xa xb xc ∧ u.2.2 4 ≤ N ∧ u.2.2 5 ≤ T ∧ u.2.2 6 ≤ 1 ∧
  (u.2.2 6 = 0 → tm_Sat (u.2.2 4) kd fa fb (TAu u) (TRu u) (TCu u) (FF u) (QQ u) ∧ s_adm u (u.2.2 4) ∧ s_sound u N kd fa fb ∧ ∃ U, s_told u so xa xb xc U ∧ (∀ k, U k → x_inf u k) ∧ (∀ k, k ≤ u.2.2 5 → x_inf u k → U k))
/-- as catching up begins -/
def s_st (u v : sU) (N : Nat) (kd fa fb : Nat → Nat) (T : Nat) (so xa xb xc : Nat → Nat) (U : Nat → Prop) : Prop :=
  s_mid v N kd fa fb (v.2.2 4) ∧ s_adm v (v.2.2 4) ∧ s_told v so xa xb xc U ∧ (∀ k, U k → x_inf u k) ∧ (∀ k, k ≤ v.2.2 5 → x_inf u k → U k) ∧ v.2.1 = u.2.1 ∧ (∀ j, ¬ j = 4 → ¬ j = 5 → ¬ j = 6 → v.2.2 j = u.2.2 j) ∧ v.2.2 6 = 0 ∧ v.2.2 4 ≤ N ∧ v.2.2 5 ≤ T
def s_caught (u v : sU) (N : Nat) (kd fa fb : Nat → Nat) (T : Nat) (so xa xb xc : Nat → Nat) : Prop :=
  s_mid v N kd fa fb N ∧ s_told v so xa xb xc (x_inf u) ∧ v.2.1 = u.2.1 ∧ (∀ j, ¬ j = 4 → ¬ j = 5 → ¬ j = 6 → v.2.2 j = u.2.2 j) ∧ v.2.2 4 = N ∧ v.2.2 5 = T ∧ v.2.2 6 = 0
theorem catch_0 {u : sU} {N : Nat} {kd fa fb : Nat → Nat} {T : Nat} {so xa xb xc : Nat → Nat} (h : s_cinv u N kd fa fb T so xa xb xc) (h6 : u.2.2 6 = 0) : ∃ U, s_st u u N kd fa fb T so xa xb xc U := by
  obtain ⟨a1, a2, a3, a4, a5, a6, a7⟩ := h
  obtain ⟨b1, b2, b3, U, b4, b5, b6⟩ := a7 h6
  exact ⟨U, ⟨a1, b1, fun y b z => absurd z (a2 y b), b3⟩, b2, b4, b5, b6, rfl, fun _ _ _ _ => rfl, h6, a4, a5⟩
theorem catch_1 {u : sU} {N : Nat} {kd fa fb : Nat → Nat} {T : Nat} {so xa xb xc : Nat → Nat} (h : s_cinv u N kd fa fb T so xa xb xc) : ∃ U, s_st u (s_forget u) N kd fa fb T so xa xb xc U := by
  obtain ⟨a1, a2, a3, a4, a5, a6, a7⟩ := h
  refine ⟨fun _ => False, forget_mid a1 _, forget_adm a1 _, forget_told a1 so xa xb xc, fun k z => z.elim, fun k z1 z2 => ?_, rfl, fun j h4 h5 h6 => ?_, rfl, ?_, Nat.zero_le _⟩
  · have : k ≤ 0 := z1
    have := z2.1
    omega
  · show va_up (va_up (va_up u.2.2 4 (u.2.2 0)) 5 0) 6 0 j = _
    rw [va_up_ne _ _ h6, va_up_ne _ _ h5, va_up_ne _ _ h4]
  · show u.2.2 0 ≤ N
    rw [(tm_N a1.1).1]
    exact Nat.le_refl _
theorem told_ext {v w : sU} {so xa xb xc : Nat → Nat} {U : Nat → Prop} (h : s_told v so xa xb xc U) (hx : s_ext v w) : s_told w so xa xb xc U := by
  unfold s_told
  rw [hx.2.2.2.2.2.1 4 (by decide), hx.2.2.2.2.2.1 5 (by decide), hx.2.2.2.2.2.1 6 (by decide)]
  exact h
theorem ax_of {u v : sU} {T N : Nat} {so xa xb xc : Nat → Nat} (h : s_ax u T N so xa xb xc) (e1 : v.2.1 = u.2.1) (e2 : v.2.2 2 = u.2.2 2) : s_ax v T N so xa xb xc := by
  unfold s_ax
  rw [e1, e2]
  exact h
theorem inf_iff {u v : sU} {q T : Nat} (e1 : v.2.1 = u.2.1) (e2 : v.2.2 2 = T) (e3 : u.2.2 2 = T) (hT : T ≤ 100) (h1 : 1 ≤ q) (h2 : q ≤ T) : s_inf v (nI q) = true ↔ x_inf u q := by
  rw [s_inf_k h1 (by omega) (by omega), decide_eq_true_iff, e1]
  exact ⟨fun z => ⟨h1, by omega, z⟩, fun z => z.2.2⟩
def x_upto (u : sU) (U : Nat → Prop) (h q : Nat) : Nat → Prop := fun k => U k ∨ (h < k ∧ k < q ∧ x_inf u k)
theorem upto_0 {u v : sU} {so xa xb xc : Nat → Nat} {U : Nat → Prop} {h : Nat} (k : s_told v so xa xb xc U) : s_told v so xa xb xc (x_upto u U h (h + 1)) := told_congr k (fun j => ⟨Or.inl, fun z => z.elim id (fun z => by omega)⟩)
theorem upto_no {u v : sU} {so xa xb xc : Nat → Nat} {U : Nat → Prop} {h q : Nat} (k : s_told v so xa xb xc (x_upto u U h q)) (hq : ¬ x_inf u q) : s_told v so xa xb xc (x_upto u U h (q + 1)) := told_congr k (fun j => ⟨fun z => z.elim Or.inl (fun z => Or.inr ⟨z.1, by omega, z.2.2⟩), fun z => z.elim Or.inl (fun z => by
  by_cases e : j = q
  · subst e; exact absurd z.2.2 hq
  · exact Or.inr ⟨z.1, by omega, z.2.2⟩)⟩)
theorem upto_yes {u v : sU} {so xa xb xc : Nat → Nat} {U : Nat → Prop} {h q : Nat} (k : s_told v so xa xb xc (x_or (x_upto u U h q) q)) (hq : x_inf u q) (hh : h < q) : s_told v so xa xb xc (x_upto u U h (q + 1)) := told_congr k (fun j => ⟨fun z => z.elim (fun z => z.elim Or.inl (fun z => Or.inr ⟨z.1, by omega, z.2.2⟩)) (fun z => by subst z; exact Or.inr ⟨hh, by omega, hq⟩), fun z => z.elim (fun z => Or.inl (Or.inl z)) (fun z => by
  by_cases e : j = q
  · exact Or.inr e
  · exact Or.inl (Or.inr ⟨z.1, by omega, z.2.2⟩))⟩)
theorem upto_end {u v w : sU} {N : Nat} {kd fa fb : Nat → Nat} {T : Nat} {so xa xb xc : Nat → Nat} {U : Nat → Prop} {q : Nat} (hst : s_st u v N kd fa fb T so xa xb xc U) (hT : u.2.2 2 = T) (k : s_told w so xa xb xc (x_upto u U (v.2.2 5) q)) (hq : T < q) : s_told w so xa xb xc (x_inf u) :=
  told_congr k (fun j => ⟨fun z => z.elim (hst.2.2.2.1 j) (fun z => z.2.2), fun z => by
    rcases Nat.lt_or_ge (v.2.2 5) j with h | h
    · exact Or.inr ⟨h, by have := z.2.1; omega, z⟩
    · exact Or.inl (hst.2.2.2.2.1 j h z)⟩)
theorem catch_end {u v w : sU} {N : Nat} {kd fa fb : Nat → Nat} {T : Nat} {so xa xb xc : Nat → Nat} {U : Nat → Prop} {q : Nat} (hst : s_st u v N kd fa fb T so xa xb xc U) (hT : u.2.2 2 = T) (k1 : s_mid w N kd fa fb N) (k2 : s_told w so xa xb xc (x_upto u U (v.2.2 5) q)) (k3 : w.2 = (v.2.1, va_up v.2.2 4 N)) (hq : T < q) :
    s_caught u (w.1, w.2.1, va_up w.2.2 5 T) N kd fa fb T so xa xb xc := by
  have e1 : w.2.1 = v.2.1 := by rw [k3]
  have e2 : w.2.2 = va_up v.2.2 4 N := by rw [k3]
  refine ⟨k1, upto_end hst hT k2 hq, ?_, fun j h4 h5 h6 => ?_, ?_, rfl, ?_⟩
  · show w.2.1 = u.2.1
    rw [e1]; exact hst.2.2.2.2.2.1
  · show va_up w.2.2 5 T j = _
    rw [va_up_ne _ _ h5, e2, va_up_ne _ _ h4]
    exact hst.2.2.2.2.2.2.1 j h4 h5 h6
  · show va_up w.2.2 5 T 4 = N
    rw [e2]; rfl
  · show va_up w.2.2 5 T 6 = 0
    rw [e2]; exact hst.2.2.2.2.2.2.2.1
end
section
/-! The contract of Closure.catchUp. Written by wip/whole/gen/genclos7.py. -/
set_option maxHeartbeats 4000000 in
set_option maxRecDepth 100000 in
/-- Closure.catchUp -/
theorem c_catchUp (l : Launch) (D : va_G) (a : Nat → Nat) (kI kL kZ : ClassId) (u : sU) (N : Nat) (kd fa fb : Nat → Nat) (T : Nat) (so xa xb xc : Nat → Nat) (hc : s_cinv u N kd fa fb T so xa xb xc) : Met l yC_catchUp (wC_catchUp :: wA) ({ frames := 4, cells := 0, slots := 0, locals := 100 }) (va_Pc [.ref (a 3)] (tq_wB D vwA (sW a kI kL kZ u) (sT kI kL kZ))) (va_Qv (fun (u' : sU) => s_caught u u' N kd fa fb T so xa xb xc) (fun u' t => va_P D vwA (sW a kI kL kZ u') t.heap) (sA a)) 0 0 (sA a) := by
  refine Met.ofW (cc := bC_catchUp) (maxL := 2) (ret := none) (by decide +kernel) rfl ?_
  intro p e s m args below meth c s₁ B1 hml hv
  obtain ⟨rfl, hP, hK, hD0⟩ := hv
  have hx := B1.exec
  have hb := B1.bytes
  have hr := B1.returns
  have hA : ∀ w ∈ wA, w.before ([.ref (a 3)] : List Value).toArray s = true := fun w h => atoms_spec (ws := wC_catchUp :: wA) B1.pre w (List.mem_cons_of_mem _ h)
  have hown : s.vm.findClass RcC = some m.cls := findClass_of_methodNamed B1.named
  have hlocks := B1.notSynchronized
  have hS : va_S (sA a) s.heap s.heap [] := va_S.rf
  have hl := lv_entry ([.ref (a 3)]) (n := 2) (Nat.le_of_ble_eq_true rfl)
  rw [lg_entry_eq]
  generalize (lg_sl ([.ref (a 3)]) ++ List.replicate (2 - (lg_sl ([.ref (a 3)])).length) Slot.unset).toArray = ls at hl ⊢
  have hl : lv_has ls 2 [(0, .ref (a 3))] := hl
  refine tq_gen (fun R Q hRe hQe => ?_)
  have hRf : 4 ≤ R.frames := by rw [hRe]; exact Nat.le_of_ble_eq_true rfl
  have hRl : 100 ≤ R.locals := by rw [hRe]; exact Nat.le_of_ble_eq_true rfl
  have hRc : 0 ≤ R.cells := by rw [hRe]; exact Nat.le_of_ble_eq_true rfl
  have hRs : 0 ≤ R.slots := by rw [hRe]; exact Nat.le_of_ble_eq_true rfl
  have hD := sA_D hD0
  have htm := hc.1.1
  have htr := hc.1.2.1
  have hN := tm_N htm
  have hT : u.2.2 2 = T := hc.2.2.1.1
  have hTl := hc.2.2.1.2.1
  have h6 := hc.2.2.2.2.2.1
  refine lv_aload_n hx hb dC_catchUp_0 rfl (lv_at hl 0 rfl) ?_
  refine gf_C_53 (v := .int (nI (u.2.2 6))) hx hb hA hown hK hP 3 rfl rfl dC_catchUp_1 ?_
  refine tq_zeq hx hb dC_catchUp_4 (tgt := 11) (by decide) (by omega) (fun h4 => ?_) (fun h4 => ?_)
  · obtain ⟨U, hst⟩ := catch_0 hc h4
    have hT2 : u.2.2 2 = T := hT
    refine lv_aload_n hx hb dC_catchUp_11 rfl (lv_at hl 0 rfl) ?_
    refine gf_C_46 (v := .int (nI (u.2.2 4))) hx hb hA hown hK hP 3 rfl rfl dC_catchUp_12 ?_
    refine lv_istore_n (lv' := [(1, .int (nI (u.2.2 4))), (0, .ref (a 3))]) hx hb dC_catchUp_15 rfl hl (by decide) rfl (fun ls hl => ?_)
    have lp : ∀ (fu : Nat) (n : Nat) (v : sU) (ls : Array Slot) (H : Heap) (locs : List Loc), s_mid v N kd fa fb n → s_adm v n → s_told v so xa xb xc U → v.2 = u.2 → n ≤ N → va_P D vwA (sW a kI kL kZ v) H → va_D (sA a) (sW a kI kL kZ v) → va_S (sA a) s.heap H locs → N - n < fu → lv_has ls 2 [(1, .int (nI n)), (0, .ref (a 3))] → W p l e R s m ([.ref (a 3)] : List Value).toArray below meth c H locs 0 0 Q (F0 m 16 ls []) := by
      intro fu
      induction fu with
      | zero => intros; omega
      | succ fu ih16 =>
        intro n v ls H locs g1 g2 g3 g4 g5 hP hD hS hfu hl
        refine lv_iload_n hx hb dC_catchUp_16 rfl (lv_at hl 0 rfl) ?_
        refine lv_aload_n hx hb dC_catchUp_17 rfl (lv_at hl 1 rfl) ?_
        refine gf_C_11 (v := .ref (a 1)) hx hb hA hown hK hP 3 rfl rfl dC_catchUp_18 ?_
        refine ks_rv ⟨hx, hb, hml, hown, hA⟩ (c_size l D a kI kL kZ v  ) (kw_C_82 hA rfl rfl ⟨Nat.le_trans (Nat.le_of_ble_eq_true rfl) hRf, Nat.le_trans (Nat.le_of_ble_eq_true rfl) hRl⟩) hK hP hS 1 1 rfl rfl rfl hl.1 (Nat.le_of_ble_eq_true rfl) ⟨by omega, by omega⟩ dC_catchUp_21 rfl (fun H locs hP hS => ?_)
        refine tq_i (congrArg nI (tm_N g1.1.1).1) ?_
        refine tq_ge hx hb dC_catchUp_24 (tgt := 70) (by decide) (by omega) (by omega) (fun h24 => ?_) (fun h24 => ?_)
        · refine lv_aload_n hx hb dC_catchUp_70 rfl (lv_at hl 1 rfl) ?_
          refine lv_aload_n hx hb dC_catchUp_71 rfl (lv_at hl 1 rfl) ?_
          refine gf_C_11 (v := .ref (a 1)) hx hb hA hown hK hP 3 rfl rfl dC_catchUp_72 ?_
          refine ks_rv ⟨hx, hb, hml, hown, hA⟩ (c_size l D a kI kL kZ v  ) (kw_C_82 hA rfl rfl ⟨Nat.le_trans (Nat.le_of_ble_eq_true rfl) hRf, Nat.le_trans (Nat.le_of_ble_eq_true rfl) hRl⟩) hK hP hS 1 1 rfl rfl rfl hl.1 (Nat.le_of_ble_eq_true rfl) ⟨by omega, by omega⟩ dC_catchUp_75 rfl (fun H locs hP hS => ?_)
          refine tq_i (congrArg nI (tm_N g1.1.1).1) ?_
          refine pf_C_46 (v := .int (nI N)) hx hb hA hown hK hP hD hS 3 rfl rfl rfl (Nat.le_of_ble_eq_true rfl) dC_catchUp_78 (fun H locs hP hD hS => ?_)
          have hP : va_P D vwA (sW a kI kL kZ (v.1, v.2.1, va_up v.2.2 4 N)) H := hP
          have hD : va_D (sA a) (sW a kI kL kZ (v.1, v.2.1, va_up v.2.2 4 N)) := hD
          refine lv_aload_n hx hb dC_catchUp_81 rfl (lv_at hl 1 rfl) ?_
          refine gf_C_50 (v := .int (nI (v.2.2 5))) hx hb hA hown hK hP 3 rfl rfl dC_catchUp_82 ?_
          refine lv_iconst (v := nI 1) hx hb dC_catchUp_85 (by decide +kernel) ?_
          refine tq_iadd hx hb dC_catchUp_86 ?_
          refine lv_istore_n (lv' := [(1, .int (nI ((v.2.2 5) + 1))), (0, .ref (a 3))]) hx hb dC_catchUp_87 rfl hl (by decide) rfl (fun ls hl => ?_)
          have lp : ∀ (fu : Nat) (q : Nat) (v2 : sU) (ls : Array Slot) (H : Heap) (locs : List Loc), s_mid v2 N kd fa fb N → s_told v2 so xa xb xc (x_upto u U (u.2.2 5) q) → v2.2 = (u.2.1, va_up u.2.2 4 N) → q ≤ T + 1 → u.2.2 5 < q → va_P D vwA (sW a kI kL kZ v2) H → va_D (sA a) (sW a kI kL kZ v2) → va_S (sA a) s.heap H locs → T + 1 - q < fu → lv_has ls 2 [(1, .int (nI q)), (0, .ref (a 3))] → W p l e R s m ([.ref (a 3)] : List Value).toArray below meth c H locs 0 0 Q (F0 m 88 ls []) := by
            intro fu
            induction fu with
            | zero => intros; omega
            | succ fu ih88 =>
              intro q v2 ls H locs k1 k2 k3 k4 k5 hP hD hS hfu hl
              have hE1 : v2.2.1 = u.2.1 := (congrArg Prod.fst k3).trans hst.2.2.2.2.2.1
              have hE2 : v2.2.2 2 = T := (congrFun (congrArg Prod.snd k3) 2).trans hT2
              refine lv_iload_n hx hb dC_catchUp_88 rfl (lv_at hl 0 rfl) ?_
              refine lv_aload_n hx hb dC_catchUp_89 rfl (lv_at hl 1 rfl) ?_
              refine gf_C_15 (v := .ref (a 2)) hx hb hA hown hK hP 3 rfl rfl dC_catchUp_90 ?_
              refine ks_rv ⟨hx, hb, hml, hown, hA⟩ (c_told l D a kI kL kZ v2  ) (kw_C_155 hA rfl rfl ⟨Nat.le_trans (Nat.le_of_ble_eq_true rfl) hRf, Nat.le_trans (Nat.le_of_ble_eq_true rfl) hRl⟩) hK hP hS 2 2 rfl rfl rfl hl.1 (Nat.le_of_ble_eq_true rfl) ⟨by omega, by omega⟩ dC_catchUp_93 rfl (fun H locs hP hS => ?_)
              refine tq_i (congrArg nI (show v2.2.2 2 = T from hE2)) ?_
              refine tq_gt hx hb dC_catchUp_96 (tgt := 121) (by decide) (by omega) (by omega) (fun h96 => ?_) (fun h96 => ?_)
              · refine lv_aload_n hx hb dC_catchUp_121 rfl (lv_at hl 1 rfl) ?_
                refine lv_aload_n hx hb dC_catchUp_122 rfl (lv_at hl 1 rfl) ?_
                refine gf_C_15 (v := .ref (a 2)) hx hb hA hown hK hP 3 rfl rfl dC_catchUp_123 ?_
                refine ks_rv ⟨hx, hb, hml, hown, hA⟩ (c_told l D a kI kL kZ v2  ) (kw_C_155 hA rfl rfl ⟨Nat.le_trans (Nat.le_of_ble_eq_true rfl) hRf, Nat.le_trans (Nat.le_of_ble_eq_true rfl) hRl⟩) hK hP hS 2 2 rfl rfl rfl hl.1 (Nat.le_of_ble_eq_true rfl) ⟨by omega, by omega⟩ dC_catchUp_126 rfl (fun H locs hP hS => ?_)
                refine tq_i (congrArg nI (show v2.2.2 2 = T from hE2)) ?_
                refine pf_C_50 (v := .int (nI T)) hx hb hA hown hK hP hD hS 3 rfl rfl rfl (Nat.le_of_ble_eq_true rfl) dC_catchUp_129 (fun H locs hP hD hS => ?_)
                have hP : va_P D vwA (sW a kI kL kZ (v2.1, v2.2.1, va_up v2.2.2 5 T)) H := hP
                have hD : va_D (sA a) (sW a kI kL kZ (v2.1, v2.2.1, va_up v2.2.2 5 T)) := hD
                subst hQe
                exact W.vret hx hb hr (fun t ht hW => ⟨⟨(v2.1, v2.2.1, va_up v2.2.2 5 T), rfl, catch_end hst hT k1 k2 k3 (by omega), tq_hp ht hP⟩, hS.F ht⟩) hS.2.2 dC_catchUp_132
              · refine lv_aload_n hx hb dC_catchUp_99 rfl (lv_at hl 1 rfl) ?_
                refine gf_C_15 (v := .ref (a 2)) hx hb hA hown hK hP 3 rfl rfl dC_catchUp_100 ?_
                refine lv_iload_n hx hb dC_catchUp_103 rfl (lv_at hl 0 rfl) ?_
                refine ks_rv ⟨hx, hb, hml, hown, hA⟩ (c_isInForce l D a kI kL kZ v2 (nI q) (by omega)) (kw_C_158 hA rfl rfl ⟨Nat.le_trans (Nat.le_of_ble_eq_true rfl) hRf, Nat.le_trans (Nat.le_of_ble_eq_true rfl) hRl⟩) hK hP hS 2 2 rfl rfl rfl hl.1 (Nat.le_of_ble_eq_true rfl) ⟨by omega, by omega⟩ dC_catchUp_104 rfl (fun H locs hP hS => ?_)
                refine tq_bf hx hb dC_catchUp_107 (tgt := 115) (by decide) (fun h107 => ?_) (fun h107 => ?_)
                · refine lv_iinc (k := 0) (lv' := [(1, .int (nI (q + 1))), (0, .ref (a 3))]) hx hb dC_catchUp_115 hl rfl (nI_1 _) (by decide) rfl (fun ls hl => ?_)
                  refine lv_goto hx hb dC_catchUp_118 (tgt := 88) (by decide) ?_
                  exact ih88 (q + 1) v2 ls H locs k1 (upto_no k2 (fun z => by rw [(inf_iff hE1 hE2 hT hTl (by omega) (by omega)).mpr z] at h107; cases h107)) k3 (by omega) (by omega) hP hD hS (by omega) (lv_sub hl [0, 1] rfl)
                · refine lv_aload_n hx hb dC_catchUp_110 rfl (lv_at hl 1 rfl) ?_
                  refine lv_iload_n hx hb dC_catchUp_111 rfl (lv_at hl 0 rfl) ?_
                  refine ks_v (wf := sW a kI kL kZ) (u := v2) ⟨hx, hb, hml, hown, hA⟩ (c_hearK l D a kI kL kZ v2 N kd fa fb N T so xa xb xc (x_upto u U (u.2.2 5) q) k1 k2 (ax_of hc.2.2.1 hE1 (hE2.trans hT.symm)) q (by omega) (by omega)) (kw_C_161 hA rfl rfl ⟨Nat.le_trans (Nat.le_of_ble_eq_true rfl) hRf, Nat.le_trans (Nat.le_of_ble_eq_true rfl) hRl⟩) hK hP hD hS (fun _ h => h) (fun u' => sW_adr u') 3 3 rfl rfl rfl hl.1 (Nat.le_of_ble_eq_true rfl) ⟨by omega, by omega⟩ dC_catchUp_112 rfl (fun u1 H locs hu1 hP hD hS => ?_)
                  refine lv_iinc (k := 0) (lv' := [(1, .int (nI (q + 1))), (0, .ref (a 3))]) hx hb dC_catchUp_115 hl rfl (nI_1 _) (by decide) rfl (fun ls hl => ?_)
                  refine lv_goto hx hb dC_catchUp_118 (tgt := 88) (by decide) ?_
                  exact ih88 (q + 1) u1 ls H locs hu1.1 (upto_yes hu1.2.1 ((inf_iff hE1 hE2 hT hTl (by omega) (by omega)).mp h107) (by omega)) (hu1.2.2.1.trans k3) (by omega) (by omega) hP hD hS (by omega) (lv_sub hl [0, 1] rfl)
          have hnN : n = N := by omega
          subst hnN
          exact lp _ (v.2.2 5 + 1) (v.1, v.2.1, va_up v.2.2 4 n) ls _ _ g1 (by rw [g4]; exact upto_0 g3) (by rw [g4]) (by rw [g4]; have := hst.2.2.2.2.2.2.2.2.2; omega) (by rw [g4]; omega) hP hD hS (Nat.lt_succ_self _) (lv_sub hl [0, 1] rfl)
        · refine lv_aload_n hx hb dC_catchUp_27 rfl (lv_at hl 1 rfl) ?_
          refine gf_C_11 (v := .ref (a 1)) hx hb hA hown hK hP 3 rfl rfl dC_catchUp_28 ?_
          refine lv_iload_n hx hb dC_catchUp_31 rfl (lv_at hl 0 rfl) ?_
          refine ks_rv ⟨hx, hb, hml, hown, hA⟩ (c_kind l D a kI kL kZ v n (by omega)) (kw_C_148 hA rfl rfl ⟨Nat.le_trans (Nat.le_of_ble_eq_true rfl) hRf, Nat.le_trans (Nat.le_of_ble_eq_true rfl) hRl⟩) hK hP hS 1 1 rfl rfl rfl hl.1 (Nat.le_of_ble_eq_true rfl) ⟨by omega, by omega⟩ dC_catchUp_32 rfl (fun H locs hP hS => ?_)
          refine lv_iconst (v := nI 2) hx hb dC_catchUp_35 (by decide +kernel) ?_
          refine lv_icmp_ne hx hb dC_catchUp_36 (tgt := 47) (by decide) (fun h36 => ?_) (fun h36 => ?_)
          · have hk2 : ¬ kd n = 2 := fun z => h36 ((tm_k g1.1.1 h24 (by decide)).mpr z)
            refine lv_aload_n hx hb dC_catchUp_47 rfl (lv_at hl 1 rfl) ?_
            refine gf_C_11 (v := .ref (a 1)) hx hb hA hown hK hP 3 rfl rfl dC_catchUp_48 ?_
            refine lv_iload_n hx hb dC_catchUp_51 rfl (lv_at hl 0 rfl) ?_
            refine ks_rv ⟨hx, hb, hml, hown, hA⟩ (c_kind l D a kI kL kZ v n (by omega)) (kw_C_148 hA rfl rfl ⟨Nat.le_trans (Nat.le_of_ble_eq_true rfl) hRf, Nat.le_trans (Nat.le_of_ble_eq_true rfl) hRl⟩) hK hP hS 1 1 rfl rfl rfl hl.1 (Nat.le_of_ble_eq_true rfl) ⟨by omega, by omega⟩ dC_catchUp_52 rfl (fun H locs hP hS => ?_)
            refine lv_iconst (v := nI 3) hx hb dC_catchUp_55 (by decide +kernel) ?_
            refine lv_icmp_ne hx hb dC_catchUp_56 (tgt := 64) (by decide) (fun h56 => ?_) (fun h56 => ?_)
            · have hk3 : ¬ kd n = 3 := fun z => h56 ((tm_k g1.1.1 h24 (by decide)).mpr z)
              refine lv_iinc (k := 0) (lv' := [(1, .int (nI (n + 1))), (0, .ref (a 3))]) hx hb dC_catchUp_64 hl rfl (nI_1 _) (by decide) rfl (fun ls hl => ?_)
              refine lv_goto hx hb dC_catchUp_67 (tgt := 16) (by decide) ?_
              exact ih16 (n + 1) v ls H locs (mid_skip g1 hk2 hk3) (fun y b z1 z2 => Nat.lt_succ_of_lt (g2 y b z1 z2)) g3 g4 (by omega) hP hD hS (by omega) (lv_sub hl [0, 1] rfl)
            · have hk := (tm_k g1.1.1 h24 (by decide)).mp h56
              refine lv_aload_n hx hb dC_catchUp_59 rfl (lv_at hl 1 rfl) ?_
              refine lv_iload_n hx hb dC_catchUp_60 rfl (lv_at hl 0 rfl) ?_
              refine ks_v (wf := sW a kI kL kZ) (u := v) ⟨hx, hb, hml, hown, hA⟩ (c_admitSome l D a kI kL kZ v N kd fa fb g1.1.1 g1.1.2.1 n (by omega) hk) (kw_C_152 hA rfl rfl ⟨Nat.le_trans (Nat.le_of_ble_eq_true rfl) hRf, Nat.le_trans (Nat.le_of_ble_eq_true rfl) hRl⟩) hK hP hD hS (fun _ h => h) (fun u' => sW_adr u') 3 3 rfl rfl rfl hl.1 (Nat.le_of_ble_eq_true rfl) ⟨by omega, by omega⟩ dC_catchUp_61 rfl (fun u2 H locs hu2 hP hD hS => ?_)
              refine lv_iinc (k := 0) (lv' := [(1, .int (nI (n + 1))), (0, .ref (a 3))]) hx hb dC_catchUp_64 hl rfl (nI_1 _) (by decide) rfl (fun ls hl => ?_)
              refine lv_goto hx hb dC_catchUp_67 (tgt := 16) (by decide) ?_
              exact ih16 (n + 1) u2 ls H locs (mid_some g1 g2 h24 hk hu2.1 hu2.2.1 hu2.2.2) (adm_ext g2 hu2.1) (told_ext g3 hu2.1) (hu2.1.2.2.2.2.2.2.trans g4) (by omega) hP hD hS (by omega) (lv_sub hl [0, 1] rfl)
          · have hk := (tm_k g1.1.1 h24 (by decide)).mp h36
            refine lv_aload_n hx hb dC_catchUp_39 rfl (lv_at hl 1 rfl) ?_
            refine lv_iload_n hx hb dC_catchUp_40 rfl (lv_at hl 0 rfl) ?_
            refine ks_v (wf := sW a kI kL kZ) (u := v) ⟨hx, hb, hml, hown, hA⟩ (c_admitBoth l D a kI kL kZ v N kd fa fb g1.1.1 g1.1.2.1 n (by omega) hk) (kw_C_149 hA rfl rfl ⟨Nat.le_trans (Nat.le_of_ble_eq_true rfl) hRf, Nat.le_trans (Nat.le_of_ble_eq_true rfl) hRl⟩) hK hP hD hS (fun _ h => h) (fun u' => sW_adr u') 3 3 rfl rfl rfl hl.1 (Nat.le_of_ble_eq_true rfl) ⟨by omega, by omega⟩ dC_catchUp_41 rfl (fun u3 H locs hu3 hP hD hS => ?_)
            refine lv_goto hx hb dC_catchUp_44 (tgt := 64) (by decide) ?_
            refine lv_iinc (k := 0) (lv' := [(1, .int (nI (n + 1))), (0, .ref (a 3))]) hx hb dC_catchUp_64 hl rfl (nI_1 _) (by decide) rfl (fun ls hl => ?_)
            refine lv_goto hx hb dC_catchUp_67 (tgt := 16) (by decide) ?_
            exact ih16 (n + 1) u3 ls H locs (mid_both g1 g2 h24 hk hu3.1 hu3.2.1 hu3.2.2) (adm_ext g2 hu3.1) (told_ext g3 hu3.1) (hu3.1.2.2.2.2.2.2.trans g4) (by omega) hP hD hS (by omega) (lv_sub hl [0, 1] rfl)
    exact lp _ (u.2.2 4) u ls _ _ hst.1 hst.2.1 hst.2.2.1 rfl hst.2.2.2.2.2.2.2.2.1 hP hD hS (Nat.lt_succ_self _) (lv_sub hl [0, 1] rfl)
  · refine lv_aload_n hx hb dC_catchUp_7 rfl (lv_at hl 0 rfl) ?_
    refine ks_v (wf := sW a kI kL kZ) (u := u) ⟨hx, hb, hml, hown, hA⟩ (c_forget l D a kI kL kZ u  (by omega)) (kw_C_145 hA rfl rfl ⟨Nat.le_trans (Nat.le_of_ble_eq_true rfl) hRf, Nat.le_trans (Nat.le_of_ble_eq_true rfl) hRl⟩) hK hP hD hS (fun _ h => h) (fun u' => sW_adr u') 3 3 rfl rfl rfl hl.1 (Nat.le_of_ble_eq_true rfl) ⟨by omega, by omega⟩ dC_catchUp_8 rfl (fun u4 H locs hu4 hP hD hS => ?_)
    obtain ⟨U, hst⟩ := catch_1 hc
    rw [← hu4] at hst
    have hT2 : u4.2.2 2 = T := (hst.2.2.2.2.2.2.1 2 (by decide) (by decide) (by decide)).trans hT
    refine lv_aload_n hx hb dC_catchUp_11 rfl (lv_at hl 0 rfl) ?_
    refine gf_C_46 (v := .int (nI (u4.2.2 4))) hx hb hA hown hK hP 3 rfl rfl dC_catchUp_12 ?_
    refine lv_istore_n (lv' := [(1, .int (nI (u4.2.2 4))), (0, .ref (a 3))]) hx hb dC_catchUp_15 rfl hl (by decide) rfl (fun ls hl => ?_)
    have lp : ∀ (fu : Nat) (n : Nat) (v : sU) (ls : Array Slot) (H : Heap) (locs : List Loc), s_mid v N kd fa fb n → s_adm v n → s_told v so xa xb xc U → v.2 = u4.2 → n ≤ N → va_P D vwA (sW a kI kL kZ v) H → va_D (sA a) (sW a kI kL kZ v) → va_S (sA a) s.heap H locs → N - n < fu → lv_has ls 2 [(1, .int (nI n)), (0, .ref (a 3))] → W p l e R s m ([.ref (a 3)] : List Value).toArray below meth c H locs 0 0 Q (F0 m 16 ls []) := by
      intro fu
      induction fu with
      | zero => intros; omega
      | succ fu ih16 =>
        intro n v ls H locs g1 g2 g3 g4 g5 hP hD hS hfu hl
        refine lv_iload_n hx hb dC_catchUp_16 rfl (lv_at hl 0 rfl) ?_
        refine lv_aload_n hx hb dC_catchUp_17 rfl (lv_at hl 1 rfl) ?_
        refine gf_C_11 (v := .ref (a 1)) hx hb hA hown hK hP 3 rfl rfl dC_catchUp_18 ?_
        refine ks_rv ⟨hx, hb, hml, hown, hA⟩ (c_size l D a kI kL kZ v  ) (kw_C_82 hA rfl rfl ⟨Nat.le_trans (Nat.le_of_ble_eq_true rfl) hRf, Nat.le_trans (Nat.le_of_ble_eq_true rfl) hRl⟩) hK hP hS 1 1 rfl rfl rfl hl.1 (Nat.le_of_ble_eq_true rfl) ⟨by omega, by omega⟩ dC_catchUp_21 rfl (fun H locs hP hS => ?_)
        refine tq_i (congrArg nI (tm_N g1.1.1).1) ?_
        refine tq_ge hx hb dC_catchUp_24 (tgt := 70) (by decide) (by omega) (by omega) (fun h24 => ?_) (fun h24 => ?_)
        · refine lv_aload_n hx hb dC_catchUp_70 rfl (lv_at hl 1 rfl) ?_
          refine lv_aload_n hx hb dC_catchUp_71 rfl (lv_at hl 1 rfl) ?_
          refine gf_C_11 (v := .ref (a 1)) hx hb hA hown hK hP 3 rfl rfl dC_catchUp_72 ?_
          refine ks_rv ⟨hx, hb, hml, hown, hA⟩ (c_size l D a kI kL kZ v  ) (kw_C_82 hA rfl rfl ⟨Nat.le_trans (Nat.le_of_ble_eq_true rfl) hRf, Nat.le_trans (Nat.le_of_ble_eq_true rfl) hRl⟩) hK hP hS 1 1 rfl rfl rfl hl.1 (Nat.le_of_ble_eq_true rfl) ⟨by omega, by omega⟩ dC_catchUp_75 rfl (fun H locs hP hS => ?_)
          refine tq_i (congrArg nI (tm_N g1.1.1).1) ?_
          refine pf_C_46 (v := .int (nI N)) hx hb hA hown hK hP hD hS 3 rfl rfl rfl (Nat.le_of_ble_eq_true rfl) dC_catchUp_78 (fun H locs hP hD hS => ?_)
          have hP : va_P D vwA (sW a kI kL kZ (v.1, v.2.1, va_up v.2.2 4 N)) H := hP
          have hD : va_D (sA a) (sW a kI kL kZ (v.1, v.2.1, va_up v.2.2 4 N)) := hD
          refine lv_aload_n hx hb dC_catchUp_81 rfl (lv_at hl 1 rfl) ?_
          refine gf_C_50 (v := .int (nI (v.2.2 5))) hx hb hA hown hK hP 3 rfl rfl dC_catchUp_82 ?_
          refine lv_iconst (v := nI 1) hx hb dC_catchUp_85 (by decide +kernel) ?_
          refine tq_iadd hx hb dC_catchUp_86 ?_
          refine lv_istore_n (lv' := [(1, .int (nI ((v.2.2 5) + 1))), (0, .ref (a 3))]) hx hb dC_catchUp_87 rfl hl (by decide) rfl (fun ls hl => ?_)
          have lp : ∀ (fu : Nat) (q : Nat) (v2 : sU) (ls : Array Slot) (H : Heap) (locs : List Loc), s_mid v2 N kd fa fb N → s_told v2 so xa xb xc (x_upto u U (u4.2.2 5) q) → v2.2 = (u4.2.1, va_up u4.2.2 4 N) → q ≤ T + 1 → u4.2.2 5 < q → va_P D vwA (sW a kI kL kZ v2) H → va_D (sA a) (sW a kI kL kZ v2) → va_S (sA a) s.heap H locs → T + 1 - q < fu → lv_has ls 2 [(1, .int (nI q)), (0, .ref (a 3))] → W p l e R s m ([.ref (a 3)] : List Value).toArray below meth c H locs 0 0 Q (F0 m 88 ls []) := by
            intro fu
            induction fu with
            | zero => intros; omega
            | succ fu ih88 =>
              intro q v2 ls H locs k1 k2 k3 k4 k5 hP hD hS hfu hl
              have hE1 : v2.2.1 = u.2.1 := (congrArg Prod.fst k3).trans hst.2.2.2.2.2.1
              have hE2 : v2.2.2 2 = T := (congrFun (congrArg Prod.snd k3) 2).trans hT2
              refine lv_iload_n hx hb dC_catchUp_88 rfl (lv_at hl 0 rfl) ?_
              refine lv_aload_n hx hb dC_catchUp_89 rfl (lv_at hl 1 rfl) ?_
              refine gf_C_15 (v := .ref (a 2)) hx hb hA hown hK hP 3 rfl rfl dC_catchUp_90 ?_
              refine ks_rv ⟨hx, hb, hml, hown, hA⟩ (c_told l D a kI kL kZ v2  ) (kw_C_155 hA rfl rfl ⟨Nat.le_trans (Nat.le_of_ble_eq_true rfl) hRf, Nat.le_trans (Nat.le_of_ble_eq_true rfl) hRl⟩) hK hP hS 2 2 rfl rfl rfl hl.1 (Nat.le_of_ble_eq_true rfl) ⟨by omega, by omega⟩ dC_catchUp_93 rfl (fun H locs hP hS => ?_)
              refine tq_i (congrArg nI (show v2.2.2 2 = T from hE2)) ?_
              refine tq_gt hx hb dC_catchUp_96 (tgt := 121) (by decide) (by omega) (by omega) (fun h96 => ?_) (fun h96 => ?_)
              · refine lv_aload_n hx hb dC_catchUp_121 rfl (lv_at hl 1 rfl) ?_
                refine lv_aload_n hx hb dC_catchUp_122 rfl (lv_at hl 1 rfl) ?_
                refine gf_C_15 (v := .ref (a 2)) hx hb hA hown hK hP 3 rfl rfl dC_catchUp_123 ?_
                refine ks_rv ⟨hx, hb, hml, hown, hA⟩ (c_told l D a kI kL kZ v2  ) (kw_C_155 hA rfl rfl ⟨Nat.le_trans (Nat.le_of_ble_eq_true rfl) hRf, Nat.le_trans (Nat.le_of_ble_eq_true rfl) hRl⟩) hK hP hS 2 2 rfl rfl rfl hl.1 (Nat.le_of_ble_eq_true rfl) ⟨by omega, by omega⟩ dC_catchUp_126 rfl (fun H locs hP hS => ?_)
                refine tq_i (congrArg nI (show v2.2.2 2 = T from hE2)) ?_
                refine pf_C_50 (v := .int (nI T)) hx hb hA hown hK hP hD hS 3 rfl rfl rfl (Nat.le_of_ble_eq_true rfl) dC_catchUp_129 (fun H locs hP hD hS => ?_)
                have hP : va_P D vwA (sW a kI kL kZ (v2.1, v2.2.1, va_up v2.2.2 5 T)) H := hP
                have hD : va_D (sA a) (sW a kI kL kZ (v2.1, v2.2.1, va_up v2.2.2 5 T)) := hD
                subst hQe
                exact W.vret hx hb hr (fun t ht hW => ⟨⟨(v2.1, v2.2.1, va_up v2.2.2 5 T), rfl, catch_end hst hT k1 k2 k3 (by omega), tq_hp ht hP⟩, hS.F ht⟩) hS.2.2 dC_catchUp_132
              · refine lv_aload_n hx hb dC_catchUp_99 rfl (lv_at hl 1 rfl) ?_
                refine gf_C_15 (v := .ref (a 2)) hx hb hA hown hK hP 3 rfl rfl dC_catchUp_100 ?_
                refine lv_iload_n hx hb dC_catchUp_103 rfl (lv_at hl 0 rfl) ?_
                refine ks_rv ⟨hx, hb, hml, hown, hA⟩ (c_isInForce l D a kI kL kZ v2 (nI q) (by omega)) (kw_C_158 hA rfl rfl ⟨Nat.le_trans (Nat.le_of_ble_eq_true rfl) hRf, Nat.le_trans (Nat.le_of_ble_eq_true rfl) hRl⟩) hK hP hS 2 2 rfl rfl rfl hl.1 (Nat.le_of_ble_eq_true rfl) ⟨by omega, by omega⟩ dC_catchUp_104 rfl (fun H locs hP hS => ?_)
                refine tq_bf hx hb dC_catchUp_107 (tgt := 115) (by decide) (fun h107 => ?_) (fun h107 => ?_)
                · refine lv_iinc (k := 0) (lv' := [(1, .int (nI (q + 1))), (0, .ref (a 3))]) hx hb dC_catchUp_115 hl rfl (nI_1 _) (by decide) rfl (fun ls hl => ?_)
                  refine lv_goto hx hb dC_catchUp_118 (tgt := 88) (by decide) ?_
                  exact ih88 (q + 1) v2 ls H locs k1 (upto_no k2 (fun z => by rw [(inf_iff hE1 hE2 hT hTl (by omega) (by omega)).mpr z] at h107; cases h107)) k3 (by omega) (by omega) hP hD hS (by omega) (lv_sub hl [0, 1] rfl)
                · refine lv_aload_n hx hb dC_catchUp_110 rfl (lv_at hl 1 rfl) ?_
                  refine lv_iload_n hx hb dC_catchUp_111 rfl (lv_at hl 0 rfl) ?_
                  refine ks_v (wf := sW a kI kL kZ) (u := v2) ⟨hx, hb, hml, hown, hA⟩ (c_hearK l D a kI kL kZ v2 N kd fa fb N T so xa xb xc (x_upto u U (u4.2.2 5) q) k1 k2 (ax_of hc.2.2.1 hE1 (hE2.trans hT.symm)) q (by omega) (by omega)) (kw_C_161 hA rfl rfl ⟨Nat.le_trans (Nat.le_of_ble_eq_true rfl) hRf, Nat.le_trans (Nat.le_of_ble_eq_true rfl) hRl⟩) hK hP hD hS (fun _ h => h) (fun u' => sW_adr u') 3 3 rfl rfl rfl hl.1 (Nat.le_of_ble_eq_true rfl) ⟨by omega, by omega⟩ dC_catchUp_112 rfl (fun u5 H locs hu5 hP hD hS => ?_)
                  refine lv_iinc (k := 0) (lv' := [(1, .int (nI (q + 1))), (0, .ref (a 3))]) hx hb dC_catchUp_115 hl rfl (nI_1 _) (by decide) rfl (fun ls hl => ?_)
                  refine lv_goto hx hb dC_catchUp_118 (tgt := 88) (by decide) ?_
                  exact ih88 (q + 1) u5 ls H locs hu5.1 (upto_yes hu5.2.1 ((inf_iff hE1 hE2 hT hTl (by omega) (by omega)).mp h107) (by omega)) (hu5.2.2.1.trans k3) (by omega) (by omega) hP hD hS (by omega) (lv_sub hl [0, 1] rfl)
          have hnN : n = N := by omega
          subst hnN
          exact lp _ (v.2.2 5 + 1) (v.1, v.2.1, va_up v.2.2 4 n) ls _ _ g1 (by rw [g4]; exact upto_0 g3) (by rw [g4]) (by rw [g4]; have := hst.2.2.2.2.2.2.2.2.2; omega) (by rw [g4]; omega) hP hD hS (Nat.lt_succ_self _) (lv_sub hl [0, 1] rfl)
        · refine lv_aload_n hx hb dC_catchUp_27 rfl (lv_at hl 1 rfl) ?_
          refine gf_C_11 (v := .ref (a 1)) hx hb hA hown hK hP 3 rfl rfl dC_catchUp_28 ?_
          refine lv_iload_n hx hb dC_catchUp_31 rfl (lv_at hl 0 rfl) ?_
          refine ks_rv ⟨hx, hb, hml, hown, hA⟩ (c_kind l D a kI kL kZ v n (by omega)) (kw_C_148 hA rfl rfl ⟨Nat.le_trans (Nat.le_of_ble_eq_true rfl) hRf, Nat.le_trans (Nat.le_of_ble_eq_true rfl) hRl⟩) hK hP hS 1 1 rfl rfl rfl hl.1 (Nat.le_of_ble_eq_true rfl) ⟨by omega, by omega⟩ dC_catchUp_32 rfl (fun H locs hP hS => ?_)
          refine lv_iconst (v := nI 2) hx hb dC_catchUp_35 (by decide +kernel) ?_
          refine lv_icmp_ne hx hb dC_catchUp_36 (tgt := 47) (by decide) (fun h36 => ?_) (fun h36 => ?_)
          · have hk2 : ¬ kd n = 2 := fun z => h36 ((tm_k g1.1.1 h24 (by decide)).mpr z)
            refine lv_aload_n hx hb dC_catchUp_47 rfl (lv_at hl 1 rfl) ?_
            refine gf_C_11 (v := .ref (a 1)) hx hb hA hown hK hP 3 rfl rfl dC_catchUp_48 ?_
            refine lv_iload_n hx hb dC_catchUp_51 rfl (lv_at hl 0 rfl) ?_
            refine ks_rv ⟨hx, hb, hml, hown, hA⟩ (c_kind l D a kI kL kZ v n (by omega)) (kw_C_148 hA rfl rfl ⟨Nat.le_trans (Nat.le_of_ble_eq_true rfl) hRf, Nat.le_trans (Nat.le_of_ble_eq_true rfl) hRl⟩) hK hP hS 1 1 rfl rfl rfl hl.1 (Nat.le_of_ble_eq_true rfl) ⟨by omega, by omega⟩ dC_catchUp_52 rfl (fun H locs hP hS => ?_)
            refine lv_iconst (v := nI 3) hx hb dC_catchUp_55 (by decide +kernel) ?_
            refine lv_icmp_ne hx hb dC_catchUp_56 (tgt := 64) (by decide) (fun h56 => ?_) (fun h56 => ?_)
            · have hk3 : ¬ kd n = 3 := fun z => h56 ((tm_k g1.1.1 h24 (by decide)).mpr z)
              refine lv_iinc (k := 0) (lv' := [(1, .int (nI (n + 1))), (0, .ref (a 3))]) hx hb dC_catchUp_64 hl rfl (nI_1 _) (by decide) rfl (fun ls hl => ?_)
              refine lv_goto hx hb dC_catchUp_67 (tgt := 16) (by decide) ?_
              exact ih16 (n + 1) v ls H locs (mid_skip g1 hk2 hk3) (fun y b z1 z2 => Nat.lt_succ_of_lt (g2 y b z1 z2)) g3 g4 (by omega) hP hD hS (by omega) (lv_sub hl [0, 1] rfl)
            · have hk := (tm_k g1.1.1 h24 (by decide)).mp h56
              refine lv_aload_n hx hb dC_catchUp_59 rfl (lv_at hl 1 rfl) ?_
              refine lv_iload_n hx hb dC_catchUp_60 rfl (lv_at hl 0 rfl) ?_
              refine ks_v (wf := sW a kI kL kZ) (u := v) ⟨hx, hb, hml, hown, hA⟩ (c_admitSome l D a kI kL kZ v N kd fa fb g1.1.1 g1.1.2.1 n (by omega) hk) (kw_C_152 hA rfl rfl ⟨Nat.le_trans (Nat.le_of_ble_eq_true rfl) hRf, Nat.le_trans (Nat.le_of_ble_eq_true rfl) hRl⟩) hK hP hD hS (fun _ h => h) (fun u' => sW_adr u') 3 3 rfl rfl rfl hl.1 (Nat.le_of_ble_eq_true rfl) ⟨by omega, by omega⟩ dC_catchUp_61 rfl (fun u6 H locs hu6 hP hD hS => ?_)
              refine lv_iinc (k := 0) (lv' := [(1, .int (nI (n + 1))), (0, .ref (a 3))]) hx hb dC_catchUp_64 hl rfl (nI_1 _) (by decide) rfl (fun ls hl => ?_)
              refine lv_goto hx hb dC_catchUp_67 (tgt := 16) (by decide) ?_
              exact ih16 (n + 1) u6 ls H locs (mid_some g1 g2 h24 hk hu6.1 hu6.2.1 hu6.2.2) (adm_ext g2 hu6.1) (told_ext g3 hu6.1) (hu6.1.2.2.2.2.2.2.trans g4) (by omega) hP hD hS (by omega) (lv_sub hl [0, 1] rfl)
          · have hk := (tm_k g1.1.1 h24 (by decide)).mp h36
            refine lv_aload_n hx hb dC_catchUp_39 rfl (lv_at hl 1 rfl) ?_
            refine lv_iload_n hx hb dC_catchUp_40 rfl (lv_at hl 0 rfl) ?_
            refine ks_v (wf := sW a kI kL kZ) (u := v) ⟨hx, hb, hml, hown, hA⟩ (c_admitBoth l D a kI kL kZ v N kd fa fb g1.1.1 g1.1.2.1 n (by omega) hk) (kw_C_149 hA rfl rfl ⟨Nat.le_trans (Nat.le_of_ble_eq_true rfl) hRf, Nat.le_trans (Nat.le_of_ble_eq_true rfl) hRl⟩) hK hP hD hS (fun _ h => h) (fun u' => sW_adr u') 3 3 rfl rfl rfl hl.1 (Nat.le_of_ble_eq_true rfl) ⟨by omega, by omega⟩ dC_catchUp_41 rfl (fun u7 H locs hu7 hP hD hS => ?_)
            refine lv_goto hx hb dC_catchUp_44 (tgt := 64) (by decide) ?_
            refine lv_iinc (k := 0) (lv' := [(1, .int (nI (n + 1))), (0, .ref (a 3))]) hx hb dC_catchUp_64 hl rfl (nI_1 _) (by decide) rfl (fun ls hl => ?_)
            refine lv_goto hx hb dC_catchUp_67 (tgt := 16) (by decide) ?_
            exact ih16 (n + 1) u7 ls H locs (mid_both g1 g2 h24 hk hu7.1 hu7.2.1 hu7.2.2) (adm_ext g2 hu7.1) (told_ext g3 hu7.1) (hu7.1.2.2.2.2.2.2.trans g4) (by omega) hP hD hS (by omega) (lv_sub hl [0, 1] rfl)
    exact lp _ (u4.2.2 4) u4 ls _ _ hst.1 hst.2.1 hst.2.2.1 rfl hst.2.2.2.2.2.2.2.2.1 hP hD hS (Nat.lt_succ_self _) (lv_sub hl [0, 1] rfl)
end
