section
-- ===== PART A: goes FIRST, ahead of the names: the tables' words, and 'selects' of the private methods out of them =====
/-- a private method of a class that the tables say can be made, by its rows of tables_1 -/
def lw_okq (q : MethodName × Nat) : Prop := (q.1.cls ≠ "java/lang/invoke/MethodHandle" ∧ q.1.cls ≠ "java/lang/invoke/VarHandle") ∧ Cond.instantiable q.1.cls q.2 ∈ tables_1 ∧ Cond.privateMethod q.1 ∈ tables_1 ∧ Cond.instanceMethod q.1 ∈ tables_1
theorem lw_p0 : lw_okq (⟨"KnotTable", "isFull", "()Z"⟩, 20) := ⟨⟨by decide +kernel, by decide +kernel⟩, List.mem_of_getElem? (i := 18) (by decide +kernel), List.mem_of_getElem? (i := 440) (by decide +kernel), List.mem_of_getElem? (i := 441) (by decide +kernel)⟩
theorem lw_p1 : lw_okq (⟨"KnotTable", "refuse", "(I)I"⟩, 20) := ⟨⟨by decide +kernel, by decide +kernel⟩, List.mem_of_getElem? (i := 18) (by decide +kernel), List.mem_of_getElem? (i := 444) (by decide +kernel), List.mem_of_getElem? (i := 445) (by decide +kernel)⟩
theorem lw_p2 : lw_okq (⟨"KnotTable", "addLike", "(LKnotTable$Picture;)I"⟩, 20) := ⟨⟨by decide +kernel, by decide +kernel⟩, List.mem_of_getElem? (i := 18) (by decide +kernel), List.mem_of_getElem? (i := 452) (by decide +kernel), List.mem_of_getElem? (i := 453) (by decide +kernel)⟩
theorem lw_p3 : lw_okq (⟨"KnotTable", "grant", "(I)I"⟩, 20) := ⟨⟨by decide +kernel, by decide +kernel⟩, List.mem_of_getElem? (i := 18) (by decide +kernel), List.mem_of_getElem? (i := 463) (by decide +kernel), List.mem_of_getElem? (i := 464) (by decide +kernel)⟩
theorem lw_p4 : lw_okq (⟨"KnotTable", "hasPicture", "(I)Z"⟩, 20) := ⟨⟨by decide +kernel, by decide +kernel⟩, List.mem_of_getElem? (i := 18) (by decide +kernel), List.mem_of_getElem? (i := 471) (by decide +kernel), List.mem_of_getElem? (i := 472) (by decide +kernel)⟩
theorem lw_p5 : lw_okq (⟨"KnotTable$Look", "findFault", "(LKnotTable$Picture;)V"⟩, 18) := ⟨⟨by decide +kernel, by decide +kernel⟩, List.mem_of_getElem? (i := 51) (by decide +kernel), List.mem_of_getElem? (i := 530) (by decide +kernel), List.mem_of_getElem? (i := 531) (by decide +kernel)⟩
theorem lw_p6 : lw_okq (⟨"KnotTable$Look", "blame", "(II)V"⟩, 18) := ⟨⟨by decide +kernel, by decide +kernel⟩, List.mem_of_getElem? (i := 51) (by decide +kernel), List.mem_of_getElem? (i := 534) (by decide +kernel), List.mem_of_getElem? (i := 535) (by decide +kernel)⟩
theorem lw_p7 : lw_okq (⟨"KnotTable$Look", "walkRegion", "(I)V"⟩, 18) := ⟨⟨by decide +kernel, by decide +kernel⟩, List.mem_of_getElem? (i := 51) (by decide +kernel), List.mem_of_getElem? (i := 547) (by decide +kernel), List.mem_of_getElem? (i := 548) (by decide +kernel)⟩
theorem lw_p8 : lw_okq (⟨"KnotTable$Look", "findParts", "()V"⟩, 18) := ⟨⟨by decide +kernel, by decide +kernel⟩, List.mem_of_getElem? (i := 51) (by decide +kernel), List.mem_of_getElem? (i := 554) (by decide +kernel), List.mem_of_getElem? (i := 555) (by decide +kernel)⟩
theorem lw_p9 : lw_okq (⟨"KnotTable$Look", "spreadPart", "(I)V"⟩, 18) := ⟨⟨by decide +kernel, by decide +kernel⟩, List.mem_of_getElem? (i := 51) (by decide +kernel), List.mem_of_getElem? (i := 558) (by decide +kernel), List.mem_of_getElem? (i := 559) (by decide +kernel)⟩
theorem lw_p10 : lw_okq (⟨"KnotTable$Look", "findPieces", "()V"⟩, 18) := ⟨⟨by decide +kernel, by decide +kernel⟩, List.mem_of_getElem? (i := 51) (by decide +kernel), List.mem_of_getElem? (i := 562) (by decide +kernel), List.mem_of_getElem? (i := 563) (by decide +kernel)⟩
theorem lw_p11 : lw_okq (⟨"KnotTable$Look", "walkPiece", "(I)V"⟩, 18) := ⟨⟨by decide +kernel, by decide +kernel⟩, List.mem_of_getElem? (i := 51) (by decide +kernel), List.mem_of_getElem? (i := 566) (by decide +kernel), List.mem_of_getElem? (i := 567) (by decide +kernel)⟩
theorem lw_p12 : lw_okq (⟨"KnotTable$Look", "findSigns", "()V"⟩, 18) := ⟨⟨by decide +kernel, by decide +kernel⟩, List.mem_of_getElem? (i := 51) (by decide +kernel), List.mem_of_getElem? (i := 570) (by decide +kernel), List.mem_of_getElem? (i := 571) (by decide +kernel)⟩
theorem lw_p13 : lw_okq (⟨"KnotTable", "isWhole", "(ILKnotTable$Look;)Z"⟩, 20) := ⟨⟨by decide +kernel, by decide +kernel⟩, List.mem_of_getElem? (i := 18) (by decide +kernel), List.mem_of_getElem? (i := 582) (by decide +kernel), List.mem_of_getElem? (i := 583) (by decide +kernel)⟩
theorem lw_p14 : lw_okq (⟨"KnotTable$Picture", "swap", "(II)V"⟩, 7) := ⟨⟨by decide +kernel, by decide +kernel⟩, List.mem_of_getElem? (i := 133) (by decide +kernel), List.mem_of_getElem? (i := 614) (by decide +kernel), List.mem_of_getElem? (i := 615) (by decide +kernel)⟩
theorem lw_p15 : lw_okq (⟨"KnotTable$Colouring", "findStrands", "(LKnotTable$Look;)V"⟩, 3) := ⟨⟨by decide +kernel, by decide +kernel⟩, List.mem_of_getElem? (i := 220) (by decide +kernel), List.mem_of_getElem? (i := 683) (by decide +kernel), List.mem_of_getElem? (i := 684) (by decide +kernel)⟩
def lw_privs_1 : List (MethodName × Nat) := [(⟨"KnotTable", "isFull", "()Z"⟩, 20), (⟨"KnotTable", "refuse", "(I)I"⟩, 20), (⟨"KnotTable", "addLike", "(LKnotTable$Picture;)I"⟩, 20), (⟨"KnotTable", "grant", "(I)I"⟩, 20), (⟨"KnotTable", "hasPicture", "(I)Z"⟩, 20), (⟨"KnotTable$Look", "findFault", "(LKnotTable$Picture;)V"⟩, 18), (⟨"KnotTable$Look", "blame", "(II)V"⟩, 18), (⟨"KnotTable$Look", "walkRegion", "(I)V"⟩, 18), (⟨"KnotTable$Look", "findParts", "()V"⟩, 18), (⟨"KnotTable$Look", "spreadPart", "(I)V"⟩, 18), (⟨"KnotTable$Look", "findPieces", "()V"⟩, 18), (⟨"KnotTable$Look", "walkPiece", "(I)V"⟩, 18), (⟨"KnotTable$Look", "findSigns", "()V"⟩, 18), (⟨"KnotTable", "isWhole", "(ILKnotTable$Look;)Z"⟩, 20), (⟨"KnotTable$Picture", "swap", "(II)V"⟩, 7), (⟨"KnotTable$Colouring", "findStrands", "(LKnotTable$Look;)V"⟩, 3)]
theorem lw_r1 : ∀ q ∈ lw_privs_1, lw_okq q := List.forall_mem_cons.mpr ⟨lw_p0, List.forall_mem_cons.mpr ⟨lw_p1, List.forall_mem_cons.mpr ⟨lw_p2, List.forall_mem_cons.mpr ⟨lw_p3, List.forall_mem_cons.mpr ⟨lw_p4, List.forall_mem_cons.mpr ⟨lw_p5, List.forall_mem_cons.mpr ⟨lw_p6, List.forall_mem_cons.mpr ⟨lw_p7, List.forall_mem_cons.mpr ⟨lw_p8, List.forall_mem_cons.mpr ⟨lw_p9, List.forall_mem_cons.mpr ⟨lw_p10, List.forall_mem_cons.mpr ⟨lw_p11, List.forall_mem_cons.mpr ⟨lw_p12, List.forall_mem_cons.mpr ⟨lw_p13, List.forall_mem_cons.mpr ⟨lw_p14, List.forall_mem_cons.mpr ⟨lw_p15, fun _ h => absurd h List.not_mem_nil⟩⟩⟩⟩⟩⟩⟩⟩⟩⟩⟩⟩⟩⟩⟩⟩
theorem lw_p16 : lw_okq (⟨"KnotTable$Colouring", "walkStrand", "(LKnotTable$Look;I)V"⟩, 3) := ⟨⟨by decide +kernel, by decide +kernel⟩, List.mem_of_getElem? (i := 220) (by decide +kernel), List.mem_of_getElem? (i := 688) (by decide +kernel), List.mem_of_getElem? (i := 689) (by decide +kernel)⟩
theorem lw_p17 : lw_okq (⟨"KnotTable$Colouring", "rank", "(II)I"⟩, 3) := ⟨⟨by decide +kernel, by decide +kernel⟩, List.mem_of_getElem? (i := 220) (by decide +kernel), List.mem_of_getElem? (i := 696) (by decide +kernel), List.mem_of_getElem? (i := 697) (by decide +kernel)⟩
theorem lw_p18 : lw_okq (⟨"KnotTable$Colouring", "pivotOf", "(III)I"⟩, 3) := ⟨⟨by decide +kernel, by decide +kernel⟩, List.mem_of_getElem? (i := 220) (by decide +kernel), List.mem_of_getElem? (i := 700) (by decide +kernel), List.mem_of_getElem? (i := 701) (by decide +kernel)⟩
theorem lw_p19 : lw_okq (⟨"KnotTable$Colouring", "clearBelow", "(IIII)V"⟩, 3) := ⟨⟨by decide +kernel, by decide +kernel⟩, List.mem_of_getElem? (i := 220) (by decide +kernel), List.mem_of_getElem? (i := 704) (by decide +kernel), List.mem_of_getElem? (i := 705) (by decide +kernel)⟩
theorem lw_p20 : lw_okq (⟨"KnotTable", "whyNoBracket", "(II)I"⟩, 20) := ⟨⟨by decide +kernel, by decide +kernel⟩, List.mem_of_getElem? (i := 18) (by decide +kernel), List.mem_of_getElem? (i := 715) (by decide +kernel), List.mem_of_getElem? (i := 716) (by decide +kernel)⟩
theorem lw_p21 : lw_okq (⟨"KnotTable$Smoothing", "smoothFrom", "(III)V"⟩, 4) := ⟨⟨by decide +kernel, by decide +kernel⟩, List.mem_of_getElem? (i := 180) (by decide +kernel), List.mem_of_getElem? (i := 736) (by decide +kernel), List.mem_of_getElem? (i := 737) (by decide +kernel)⟩
theorem lw_p22 : lw_okq (⟨"KnotTable$Smoothing", "tie", "(II)I"⟩, 4) := ⟨⟨by decide +kernel, by decide +kernel⟩, List.mem_of_getElem? (i := 180) (by decide +kernel), List.mem_of_getElem? (i := 740) (by decide +kernel), List.mem_of_getElem? (i := 741) (by decide +kernel)⟩
theorem lw_p23 : lw_okq (⟨"KnotTable$Smoothing", "untie", "(II)V"⟩, 4) := ⟨⟨by decide +kernel, by decide +kernel⟩, List.mem_of_getElem? (i := 180) (by decide +kernel), List.mem_of_getElem? (i := 744) (by decide +kernel), List.mem_of_getElem? (i := 745) (by decide +kernel)⟩
theorem lw_p24 : lw_okq (⟨"KnotTable$Laurent", "swapRows", "()V"⟩, 3) := ⟨⟨by decide +kernel, by decide +kernel⟩, List.mem_of_getElem? (i := 202) (by decide +kernel), List.mem_of_getElem? (i := 763) (by decide +kernel), List.mem_of_getElem? (i := 764) (by decide +kernel)⟩
theorem lw_p25 : lw_okq (⟨"KnotTable$Picture", "closePiece", "(III)V"⟩, 7) := ⟨⟨by decide +kernel, by decide +kernel⟩, List.mem_of_getElem? (i := 133) (by decide +kernel), List.mem_of_getElem? (i := 863) (by decide +kernel), List.mem_of_getElem? (i := 864) (by decide +kernel)⟩
theorem lw_p26 : lw_okq (⟨"KnotTable$Picture", "drawPass", "(III)Z"⟩, 7) := ⟨⟨by decide +kernel, by decide +kernel⟩, List.mem_of_getElem? (i := 133) (by decide +kernel), List.mem_of_getElem? (i := 875) (by decide +kernel), List.mem_of_getElem? (i := 876) (by decide +kernel)⟩
theorem lw_p27 : lw_okq (⟨"KnotTable", "hasMove", "(I)Z"⟩, 20) := ⟨⟨by decide +kernel, by decide +kernel⟩, List.mem_of_getElem? (i := 18) (by decide +kernel), List.mem_of_getElem? (i := 908) (by decide +kernel), List.mem_of_getElem? (i := 909) (by decide +kernel)⟩
theorem lw_p28 : lw_okq (⟨"KnotTable", "tryMove", "(II)I"⟩, 20) := ⟨⟨by decide +kernel, by decide +kernel⟩, List.mem_of_getElem? (i := 18) (by decide +kernel), List.mem_of_getElem? (i := 938) (by decide +kernel), List.mem_of_getElem? (i := 939) (by decide +kernel)⟩
theorem lw_p29 : lw_okq (⟨"KnotTable$Move", "twist", "(LKnotTable$Picture;LKnotTable$Look;)I"⟩, 4) := ⟨⟨by decide +kernel, by decide +kernel⟩, List.mem_of_getElem? (i := 885) (by decide +kernel), List.mem_of_getElem? (i := 946) (by decide +kernel), List.mem_of_getElem? (i := 947) (by decide +kernel)⟩
theorem lw_p30 : lw_okq (⟨"KnotTable$Move", "addKink", "(LKnotTable$Picture;III)V"⟩, 4) := ⟨⟨by decide +kernel, by decide +kernel⟩, List.mem_of_getElem? (i := 885) (by decide +kernel), List.mem_of_getElem? (i := 952) (by decide +kernel), List.mem_of_getElem? (i := 953) (by decide +kernel)⟩
theorem lw_p31 : lw_okq (⟨"KnotTable$Move", "poke", "(LKnotTable$Picture;LKnotTable$Look;)I"⟩, 4) := ⟨⟨by decide +kernel, by decide +kernel⟩, List.mem_of_getElem? (i := 885) (by decide +kernel), List.mem_of_getElem? (i := 957) (by decide +kernel), List.mem_of_getElem? (i := 958) (by decide +kernel)⟩
def lw_privs_2 : List (MethodName × Nat) := [(⟨"KnotTable$Colouring", "walkStrand", "(LKnotTable$Look;I)V"⟩, 3), (⟨"KnotTable$Colouring", "rank", "(II)I"⟩, 3), (⟨"KnotTable$Colouring", "pivotOf", "(III)I"⟩, 3), (⟨"KnotTable$Colouring", "clearBelow", "(IIII)V"⟩, 3), (⟨"KnotTable", "whyNoBracket", "(II)I"⟩, 20), (⟨"KnotTable$Smoothing", "smoothFrom", "(III)V"⟩, 4), (⟨"KnotTable$Smoothing", "tie", "(II)I"⟩, 4), (⟨"KnotTable$Smoothing", "untie", "(II)V"⟩, 4), (⟨"KnotTable$Laurent", "swapRows", "()V"⟩, 3), (⟨"KnotTable$Picture", "closePiece", "(III)V"⟩, 7), (⟨"KnotTable$Picture", "drawPass", "(III)Z"⟩, 7), (⟨"KnotTable", "hasMove", "(I)Z"⟩, 20), (⟨"KnotTable", "tryMove", "(II)I"⟩, 20), (⟨"KnotTable$Move", "twist", "(LKnotTable$Picture;LKnotTable$Look;)I"⟩, 4), (⟨"KnotTable$Move", "addKink", "(LKnotTable$Picture;III)V"⟩, 4), (⟨"KnotTable$Move", "poke", "(LKnotTable$Picture;LKnotTable$Look;)I"⟩, 4)]
theorem lw_r2 : ∀ q ∈ lw_privs_2, lw_okq q := List.forall_mem_cons.mpr ⟨lw_p16, List.forall_mem_cons.mpr ⟨lw_p17, List.forall_mem_cons.mpr ⟨lw_p18, List.forall_mem_cons.mpr ⟨lw_p19, List.forall_mem_cons.mpr ⟨lw_p20, List.forall_mem_cons.mpr ⟨lw_p21, List.forall_mem_cons.mpr ⟨lw_p22, List.forall_mem_cons.mpr ⟨lw_p23, List.forall_mem_cons.mpr ⟨lw_p24, List.forall_mem_cons.mpr ⟨lw_p25, List.forall_mem_cons.mpr ⟨lw_p26, List.forall_mem_cons.mpr ⟨lw_p27, List.forall_mem_cons.mpr ⟨lw_p28, List.forall_mem_cons.mpr ⟨lw_p29, List.forall_mem_cons.mpr ⟨lw_p30, List.forall_mem_cons.mpr ⟨lw_p31, fun _ h => absurd h List.not_mem_nil⟩⟩⟩⟩⟩⟩⟩⟩⟩⟩⟩⟩⟩⟩⟩⟩
theorem lw_p32 : lw_okq (⟨"KnotTable$Move", "flype", "(LKnotTable$Picture;LKnotTable$Look;I)I"⟩, 4) := ⟨⟨by decide +kernel, by decide +kernel⟩, List.mem_of_getElem? (i := 885) (by decide +kernel), List.mem_of_getElem? (i := 978) (by decide +kernel), List.mem_of_getElem? (i := 979) (by decide +kernel)⟩
theorem lw_p33 : lw_okq (⟨"KnotTable$Move", "smooth", "(LKnotTable$Picture;)I"⟩, 4) := ⟨⟨by decide +kernel, by decide +kernel⟩, List.mem_of_getElem? (i := 885) (by decide +kernel), List.mem_of_getElem? (i := 998) (by decide +kernel), List.mem_of_getElem? (i := 999) (by decide +kernel)⟩
theorem lw_p34 : lw_okq (⟨"KnotTable$Move", "change", "(LKnotTable$Picture;I)I"⟩, 4) := ⟨⟨by decide +kernel, by decide +kernel⟩, List.mem_of_getElem? (i := 885) (by decide +kernel), List.mem_of_getElem? (i := 1014) (by decide +kernel), List.mem_of_getElem? (i := 1015) (by decide +kernel)⟩
theorem lw_p35 : lw_okq (⟨"KnotTable", "settle", "(II)I"⟩, 20) := ⟨⟨by decide +kernel, by decide +kernel⟩, List.mem_of_getElem? (i := 18) (by decide +kernel), List.mem_of_getElem? (i := 1023) (by decide +kernel), List.mem_of_getElem? (i := 1024) (by decide +kernel)⟩
theorem lw_p36 : lw_okq (⟨"KnotTable", "tryUndoing", "(II)I"⟩, 20) := ⟨⟨by decide +kernel, by decide +kernel⟩, List.mem_of_getElem? (i := 18) (by decide +kernel), List.mem_of_getElem? (i := 1031) (by decide +kernel), List.mem_of_getElem? (i := 1032) (by decide +kernel)⟩
theorem lw_p37 : lw_okq (⟨"KnotTable$Likeness", "findsPart", "([I[III)Z"⟩, 4) := ⟨⟨by decide +kernel, by decide +kernel⟩, List.mem_of_getElem? (i := 275) (by decide +kernel), List.mem_of_getElem? (i := 1070) (by decide +kernel), List.mem_of_getElem? (i := 1071) (by decide +kernel)⟩
theorem lw_p38 : lw_okq (⟨"KnotTable$Likeness", "assign", "(II)V"⟩, 4) := ⟨⟨by decide +kernel, by decide +kernel⟩, List.mem_of_getElem? (i := 275) (by decide +kernel), List.mem_of_getElem? (i := 1074) (by decide +kernel), List.mem_of_getElem? (i := 1075) (by decide +kernel)⟩
theorem lw_p39 : lw_okq (⟨"KnotTable$Likeness", "spreads", "([I[I)Z"⟩, 4) := ⟨⟨by decide +kernel, by decide +kernel⟩, List.mem_of_getElem? (i := 275) (by decide +kernel), List.mem_of_getElem? (i := 1078) (by decide +kernel), List.mem_of_getElem? (i := 1079) (by decide +kernel)⟩
theorem lw_p40 : lw_okq (⟨"KnotTable$Likeness", "withdraw", "()V"⟩, 4) := ⟨⟨by decide +kernel, by decide +kernel⟩, List.mem_of_getElem? (i := 275) (by decide +kernel), List.mem_of_getElem? (i := 1083) (by decide +kernel), List.mem_of_getElem? (i := 1084) (by decide +kernel)⟩
theorem lw_p41 : lw_okq (⟨"KnotTable$Search", "keep", "(II)V"⟩, 16) := ⟨⟨by decide +kernel, by decide +kernel⟩, List.mem_of_getElem? (i := 237) (by decide +kernel), List.mem_of_getElem? (i := 1099) (by decide +kernel), List.mem_of_getElem? (i := 1100) (by decide +kernel)⟩
theorem lw_p42 : lw_okq (⟨"KnotTable$Search", "enter", "(I)V"⟩, 16) := ⟨⟨by decide +kernel, by decide +kernel⟩, List.mem_of_getElem? (i := 237) (by decide +kernel), List.mem_of_getElem? (i := 1120) (by decide +kernel), List.mem_of_getElem? (i := 1121) (by decide +kernel)⟩
theorem lw_p43 : lw_okq (⟨"KnotTable$Search", "enterNext", "()Z"⟩, 16) := ⟨⟨by decide +kernel, by decide +kernel⟩, List.mem_of_getElem? (i := 237) (by decide +kernel), List.mem_of_getElem? (i := 1134) (by decide +kernel), List.mem_of_getElem? (i := 1135) (by decide +kernel)⟩
theorem lw_p44 : lw_okq (⟨"KnotTable", "partingNumber", "()I"⟩, 20) := ⟨⟨by decide +kernel, by decide +kernel⟩, List.mem_of_getElem? (i := 18) (by decide +kernel), List.mem_of_getElem? (i := 1175) (by decide +kernel), List.mem_of_getElem? (i := 1176) (by decide +kernel)⟩
theorem lw_p45 : lw_okq (⟨"KnotTable", "goWays", "()Z"⟩, 20) := ⟨⟨by decide +kernel, by decide +kernel⟩, List.mem_of_getElem? (i := 18) (by decide +kernel), List.mem_of_getElem? (i := 1204) (by decide +kernel), List.mem_of_getElem? (i := 1205) (by decide +kernel)⟩
theorem lw_p46 : lw_okq (⟨"KnotTableModel", "no", "(I)I"⟩, 65) := ⟨⟨by decide +kernel, by decide +kernel⟩, List.mem_of_getElem? (i := 1259) (by decide +kernel), List.mem_of_getElem? (i := 1468) (by decide +kernel), List.mem_of_getElem? (i := 1469) (by decide +kernel)⟩
theorem lw_p47 : lw_okq (⟨"KnotTableModel", "well", "(I)I"⟩, 65) := ⟨⟨by decide +kernel, by decide +kernel⟩, List.mem_of_getElem? (i := 1259) (by decide +kernel), List.mem_of_getElem? (i := 1472) (by decide +kernel), List.mem_of_getElem? (i := 1473) (by decide +kernel)⟩
def lw_privs_3 : List (MethodName × Nat) := [(⟨"KnotTable$Move", "flype", "(LKnotTable$Picture;LKnotTable$Look;I)I"⟩, 4), (⟨"KnotTable$Move", "smooth", "(LKnotTable$Picture;)I"⟩, 4), (⟨"KnotTable$Move", "change", "(LKnotTable$Picture;I)I"⟩, 4), (⟨"KnotTable", "settle", "(II)I"⟩, 20), (⟨"KnotTable", "tryUndoing", "(II)I"⟩, 20), (⟨"KnotTable$Likeness", "findsPart", "([I[III)Z"⟩, 4), (⟨"KnotTable$Likeness", "assign", "(II)V"⟩, 4), (⟨"KnotTable$Likeness", "spreads", "([I[I)Z"⟩, 4), (⟨"KnotTable$Likeness", "withdraw", "()V"⟩, 4), (⟨"KnotTable$Search", "keep", "(II)V"⟩, 16), (⟨"KnotTable$Search", "enter", "(I)V"⟩, 16), (⟨"KnotTable$Search", "enterNext", "()Z"⟩, 16), (⟨"KnotTable", "partingNumber", "()I"⟩, 20), (⟨"KnotTable", "goWays", "()Z"⟩, 20), (⟨"KnotTableModel", "no", "(I)I"⟩, 65), (⟨"KnotTableModel", "well", "(I)I"⟩, 65)]
theorem lw_r3 : ∀ q ∈ lw_privs_3, lw_okq q := List.forall_mem_cons.mpr ⟨lw_p32, List.forall_mem_cons.mpr ⟨lw_p33, List.forall_mem_cons.mpr ⟨lw_p34, List.forall_mem_cons.mpr ⟨lw_p35, List.forall_mem_cons.mpr ⟨lw_p36, List.forall_mem_cons.mpr ⟨lw_p37, List.forall_mem_cons.mpr ⟨lw_p38, List.forall_mem_cons.mpr ⟨lw_p39, List.forall_mem_cons.mpr ⟨lw_p40, List.forall_mem_cons.mpr ⟨lw_p41, List.forall_mem_cons.mpr ⟨lw_p42, List.forall_mem_cons.mpr ⟨lw_p43, List.forall_mem_cons.mpr ⟨lw_p44, List.forall_mem_cons.mpr ⟨lw_p45, List.forall_mem_cons.mpr ⟨lw_p46, List.forall_mem_cons.mpr ⟨lw_p47, fun _ h => absurd h List.not_mem_nil⟩⟩⟩⟩⟩⟩⟩⟩⟩⟩⟩⟩⟩⟩⟩⟩
theorem lw_p48 : lw_okq (⟨"KnotTableModel", "isPicture", "(I)Z"⟩, 65) := ⟨⟨by decide +kernel, by decide +kernel⟩, List.mem_of_getElem? (i := 1259) (by decide +kernel), List.mem_of_getElem? (i := 1480) (by decide +kernel), List.mem_of_getElem? (i := 1481) (by decide +kernel)⟩
theorem lw_p49 : lw_okq (⟨"KnotTableModel", "append", "(IIIII)V"⟩, 65) := ⟨⟨by decide +kernel, by decide +kernel⟩, List.mem_of_getElem? (i := 1259) (by decide +kernel), List.mem_of_getElem? (i := 1492) (by decide +kernel), List.mem_of_getElem? (i := 1493) (by decide +kernel)⟩
theorem lw_p50 : lw_okq (⟨"KnotTableModel", "meets", "(I)I"⟩, 65) := ⟨⟨by decide +kernel, by decide +kernel⟩, List.mem_of_getElem? (i := 1259) (by decide +kernel), List.mem_of_getElem? (i := 1501) (by decide +kernel), List.mem_of_getElem? (i := 1502) (by decide +kernel)⟩
theorem lw_p51 : lw_okq (⟨"KnotTableModel", "lacks", "(III)I"⟩, 65) := ⟨⟨by decide +kernel, by decide +kernel⟩, List.mem_of_getElem? (i := 1259) (by decide +kernel), List.mem_of_getElem? (i := 1509) (by decide +kernel), List.mem_of_getElem? (i := 1510) (by decide +kernel)⟩
theorem lw_p52 : lw_okq (⟨"KnotTableModel", "openOf", "(I)I"⟩, 65) := ⟨⟨by decide +kernel, by decide +kernel⟩, List.mem_of_getElem? (i := 1259) (by decide +kernel), List.mem_of_getElem? (i := 1530) (by decide +kernel), List.mem_of_getElem? (i := 1531) (by decide +kernel)⟩
theorem lw_p53 : lw_okq (⟨"KnotTableModel", "link", "(I)V"⟩, 65) := ⟨⟨by decide +kernel, by decide +kernel⟩, List.mem_of_getElem? (i := 1259) (by decide +kernel), List.mem_of_getElem? (i := 1534) (by decide +kernel), List.mem_of_getElem? (i := 1535) (by decide +kernel)⟩
theorem lw_p54 : lw_okq (⟨"KnotTableModel", "facesOf", "(I)I"⟩, 65) := ⟨⟨by decide +kernel, by decide +kernel⟩, List.mem_of_getElem? (i := 1259) (by decide +kernel), List.mem_of_getElem? (i := 1538) (by decide +kernel), List.mem_of_getElem? (i := 1539) (by decide +kernel)⟩
theorem lw_p55 : lw_okq (⟨"KnotTableModel", "nextOfFace", "(I)I"⟩, 65) := ⟨⟨by decide +kernel, by decide +kernel⟩, List.mem_of_getElem? (i := 1259) (by decide +kernel), List.mem_of_getElem? (i := 1542) (by decide +kernel), List.mem_of_getElem? (i := 1543) (by decide +kernel)⟩
theorem lw_p56 : lw_okq (⟨"KnotTableModel", "partsOf", "(I)I"⟩, 65) := ⟨⟨by decide +kernel, by decide +kernel⟩, List.mem_of_getElem? (i := 1259) (by decide +kernel), List.mem_of_getElem? (i := 1549) (by decide +kernel), List.mem_of_getElem? (i := 1550) (by decide +kernel)⟩
theorem lw_p57 : lw_okq (⟨"KnotTableModel", "refusal", "(I)I"⟩, 65) := ⟨⟨by decide +kernel, by decide +kernel⟩, List.mem_of_getElem? (i := 1259) (by decide +kernel), List.mem_of_getElem? (i := 1562) (by decide +kernel), List.mem_of_getElem? (i := 1563) (by decide +kernel)⟩
theorem lw_p58 : lw_okq (⟨"KnotTableModel", "piecesOf", "(I)I"⟩, 65) := ⟨⟨by decide +kernel, by decide +kernel⟩, List.mem_of_getElem? (i := 1259) (by decide +kernel), List.mem_of_getElem? (i := 1566) (by decide +kernel), List.mem_of_getElem? (i := 1567) (by decide +kernel)⟩
theorem lw_p59 : lw_okq (⟨"KnotTableModel", "writheOf", "(I)I"⟩, 65) := ⟨⟨by decide +kernel, by decide +kernel⟩, List.mem_of_getElem? (i := 1259) (by decide +kernel), List.mem_of_getElem? (i := 1570) (by decide +kernel), List.mem_of_getElem? (i := 1571) (by decide +kernel)⟩
theorem lw_p60 : lw_okq (⟨"KnotTableModel", "signAt", "(I)I"⟩, 65) := ⟨⟨by decide +kernel, by decide +kernel⟩, List.mem_of_getElem? (i := 1259) (by decide +kernel), List.mem_of_getElem? (i := 1574) (by decide +kernel), List.mem_of_getElem? (i := 1575) (by decide +kernel)⟩
theorem lw_p61 : lw_okq (⟨"KnotTableModel", "coloursOf", "(II)I"⟩, 65) := ⟨⟨by decide +kernel, by decide +kernel⟩, List.mem_of_getElem? (i := 1259) (by decide +kernel), List.mem_of_getElem? (i := 1594) (by decide +kernel), List.mem_of_getElem? (i := 1595) (by decide +kernel)⟩
theorem lw_p62 : lw_okq (⟨"KnotTableModel", "spends", "(II)I"⟩, 65) := ⟨⟨by decide +kernel, by decide +kernel⟩, List.mem_of_getElem? (i := 1259) (by decide +kernel), List.mem_of_getElem? (i := 1605) (by decide +kernel), List.mem_of_getElem? (i := 1606) (by decide +kernel)⟩
theorem lw_p63 : lw_okq (⟨"KnotTableModel", "bracketOf", "(I)V"⟩, 65) := ⟨⟨by decide +kernel, by decide +kernel⟩, List.mem_of_getElem? (i := 1259) (by decide +kernel), List.mem_of_getElem? (i := 1610) (by decide +kernel), List.mem_of_getElem? (i := 1611) (by decide +kernel)⟩
def lw_privs_4 : List (MethodName × Nat) := [(⟨"KnotTableModel", "isPicture", "(I)Z"⟩, 65), (⟨"KnotTableModel", "append", "(IIIII)V"⟩, 65), (⟨"KnotTableModel", "meets", "(I)I"⟩, 65), (⟨"KnotTableModel", "lacks", "(III)I"⟩, 65), (⟨"KnotTableModel", "openOf", "(I)I"⟩, 65), (⟨"KnotTableModel", "link", "(I)V"⟩, 65), (⟨"KnotTableModel", "facesOf", "(I)I"⟩, 65), (⟨"KnotTableModel", "nextOfFace", "(I)I"⟩, 65), (⟨"KnotTableModel", "partsOf", "(I)I"⟩, 65), (⟨"KnotTableModel", "refusal", "(I)I"⟩, 65), (⟨"KnotTableModel", "piecesOf", "(I)I"⟩, 65), (⟨"KnotTableModel", "writheOf", "(I)I"⟩, 65), (⟨"KnotTableModel", "signAt", "(I)I"⟩, 65), (⟨"KnotTableModel", "coloursOf", "(II)I"⟩, 65), (⟨"KnotTableModel", "spends", "(II)I"⟩, 65), (⟨"KnotTableModel", "bracketOf", "(I)V"⟩, 65)]
theorem lw_r4 : ∀ q ∈ lw_privs_4, lw_okq q := List.forall_mem_cons.mpr ⟨lw_p48, List.forall_mem_cons.mpr ⟨lw_p49, List.forall_mem_cons.mpr ⟨lw_p50, List.forall_mem_cons.mpr ⟨lw_p51, List.forall_mem_cons.mpr ⟨lw_p52, List.forall_mem_cons.mpr ⟨lw_p53, List.forall_mem_cons.mpr ⟨lw_p54, List.forall_mem_cons.mpr ⟨lw_p55, List.forall_mem_cons.mpr ⟨lw_p56, List.forall_mem_cons.mpr ⟨lw_p57, List.forall_mem_cons.mpr ⟨lw_p58, List.forall_mem_cons.mpr ⟨lw_p59, List.forall_mem_cons.mpr ⟨lw_p60, List.forall_mem_cons.mpr ⟨lw_p61, List.forall_mem_cons.mpr ⟨lw_p62, List.forall_mem_cons.mpr ⟨lw_p63, fun _ h => absurd h List.not_mem_nil⟩⟩⟩⟩⟩⟩⟩⟩⟩⟩⟩⟩⟩⟩⟩⟩
theorem lw_p64 : lw_okq (⟨"KnotTableModel", "circlesOf", "(II)I"⟩, 65) := ⟨⟨by decide +kernel, by decide +kernel⟩, List.mem_of_getElem? (i := 1259) (by decide +kernel), List.mem_of_getElem? (i := 1614) (by decide +kernel), List.mem_of_getElem? (i := 1615) (by decide +kernel)⟩
theorem lw_p65 : lw_okq (⟨"KnotTableModel", "timesCircle", "()V"⟩, 65) := ⟨⟨by decide +kernel, by decide +kernel⟩, List.mem_of_getElem? (i := 1259) (by decide +kernel), List.mem_of_getElem? (i := 1618) (by decide +kernel), List.mem_of_getElem? (i := 1619) (by decide +kernel)⟩
theorem lw_p66 : lw_okq (⟨"KnotTableModel", "shown", "()I"⟩, 65) := ⟨⟨by decide +kernel, by decide +kernel⟩, List.mem_of_getElem? (i := 1259) (by decide +kernel), List.mem_of_getElem? (i := 1622) (by decide +kernel), List.mem_of_getElem? (i := 1623) (by decide +kernel)⟩
theorem lw_p67 : lw_okq (⟨"KnotTableModel", "polynomialOf", "(I)V"⟩, 65) := ⟨⟨by decide +kernel, by decide +kernel⟩, List.mem_of_getElem? (i := 1259) (by decide +kernel), List.mem_of_getElem? (i := 1630) (by decide +kernel), List.mem_of_getElem? (i := 1631) (by decide +kernel)⟩
theorem lw_p68 : lw_okq (⟨"KnotTableModel", "readsGauss", "()Z"⟩, 65) := ⟨⟨by decide +kernel, by decide +kernel⟩, List.mem_of_getElem? (i := 1259) (by decide +kernel), List.mem_of_getElem? (i := 1668) (by decide +kernel), List.mem_of_getElem? (i := 1669) (by decide +kernel)⟩
theorem lw_p69 : lw_okq (⟨"KnotTableModel", "passes", "()I"⟩, 65) := ⟨⟨by decide +kernel, by decide +kernel⟩, List.mem_of_getElem? (i := 1259) (by decide +kernel), List.mem_of_getElem? (i := 1672) (by decide +kernel), List.mem_of_getElem? (i := 1673) (by decide +kernel)⟩
theorem lw_p70 : lw_okq (⟨"KnotTableModel", "added", "(I)I"⟩, 65) := ⟨⟨by decide +kernel, by decide +kernel⟩, List.mem_of_getElem? (i := 1259) (by decide +kernel), List.mem_of_getElem? (i := 1679) (by decide +kernel), List.mem_of_getElem? (i := 1680) (by decide +kernel)⟩
theorem lw_p71 : lw_okq (⟨"KnotTableModel", "copySlot", "(II)V"⟩, 65) := ⟨⟨by decide +kernel, by decide +kernel⟩, List.mem_of_getElem? (i := 1259) (by decide +kernel), List.mem_of_getElem? (i := 1683) (by decide +kernel), List.mem_of_getElem? (i := 1684) (by decide +kernel)⟩
theorem lw_p72 : lw_okq (⟨"KnotTableModel", "isMove", "(I)Z"⟩, 65) := ⟨⟨by decide +kernel, by decide +kernel⟩, List.mem_of_getElem? (i := 1259) (by decide +kernel), List.mem_of_getElem? (i := 1695) (by decide +kernel), List.mem_of_getElem? (i := 1696) (by decide +kernel)⟩
theorem lw_p73 : lw_okq (⟨"KnotTableModel", "moreOf", "(I)I"⟩, 65) := ⟨⟨by decide +kernel, by decide +kernel⟩, List.mem_of_getElem? (i := 1259) (by decide +kernel), List.mem_of_getElem? (i := 1699) (by decide +kernel), List.mem_of_getElem? (i := 1700) (by decide +kernel)⟩
theorem lw_p74 : lw_okq (⟨"KnotTableModel", "body", "(I)V"⟩, 65) := ⟨⟨by decide +kernel, by decide +kernel⟩, List.mem_of_getElem? (i := 1259) (by decide +kernel), List.mem_of_getElem? (i := 1703) (by decide +kernel), List.mem_of_getElem? (i := 1704) (by decide +kernel)⟩
theorem lw_p75 : lw_okq (⟨"KnotTableModel", "tried", "(IIZ)I"⟩, 65) := ⟨⟨by decide +kernel, by decide +kernel⟩, List.mem_of_getElem? (i := 1259) (by decide +kernel), List.mem_of_getElem? (i := 1719) (by decide +kernel), List.mem_of_getElem? (i := 1720) (by decide +kernel)⟩
theorem lw_p76 : lw_okq (⟨"KnotTableModel", "unmoved", "(III)I"⟩, 65) := ⟨⟨by decide +kernel, by decide +kernel⟩, List.mem_of_getElem? (i := 1259) (by decide +kernel), List.mem_of_getElem? (i := 1723) (by decide +kernel), List.mem_of_getElem? (i := 1724) (by decide +kernel)⟩
theorem lw_p77 : lw_okq (⟨"KnotTableModel", "untwist", "(I)I"⟩, 65) := ⟨⟨by decide +kernel, by decide +kernel⟩, List.mem_of_getElem? (i := 1259) (by decide +kernel), List.mem_of_getElem? (i := 1727) (by decide +kernel), List.mem_of_getElem? (i := 1728) (by decide +kernel)⟩
theorem lw_p78 : lw_okq (⟨"KnotTableModel", "isEnd", "(II)Z"⟩, 65) := ⟨⟨by decide +kernel, by decide +kernel⟩, List.mem_of_getElem? (i := 1259) (by decide +kernel), List.mem_of_getElem? (i := 1731) (by decide +kernel), List.mem_of_getElem? (i := 1732) (by decide +kernel)⟩
theorem lw_p79 : lw_okq (⟨"KnotTableModel", "arcAt", "(I)I"⟩, 65) := ⟨⟨by decide +kernel, by decide +kernel⟩, List.mem_of_getElem? (i := 1259) (by decide +kernel), List.mem_of_getElem? (i := 1735) (by decide +kernel), List.mem_of_getElem? (i := 1736) (by decide +kernel)⟩
def lw_privs_5 : List (MethodName × Nat) := [(⟨"KnotTableModel", "circlesOf", "(II)I"⟩, 65), (⟨"KnotTableModel", "timesCircle", "()V"⟩, 65), (⟨"KnotTableModel", "shown", "()I"⟩, 65), (⟨"KnotTableModel", "polynomialOf", "(I)V"⟩, 65), (⟨"KnotTableModel", "readsGauss", "()Z"⟩, 65), (⟨"KnotTableModel", "passes", "()I"⟩, 65), (⟨"KnotTableModel", "added", "(I)I"⟩, 65), (⟨"KnotTableModel", "copySlot", "(II)V"⟩, 65), (⟨"KnotTableModel", "isMove", "(I)Z"⟩, 65), (⟨"KnotTableModel", "moreOf", "(I)I"⟩, 65), (⟨"KnotTableModel", "body", "(I)V"⟩, 65), (⟨"KnotTableModel", "tried", "(IIZ)I"⟩, 65), (⟨"KnotTableModel", "unmoved", "(III)I"⟩, 65), (⟨"KnotTableModel", "untwist", "(I)I"⟩, 65), (⟨"KnotTableModel", "isEnd", "(II)Z"⟩, 65), (⟨"KnotTableModel", "arcAt", "(I)I"⟩, 65)]
theorem lw_r5 : ∀ q ∈ lw_privs_5, lw_okq q := List.forall_mem_cons.mpr ⟨lw_p64, List.forall_mem_cons.mpr ⟨lw_p65, List.forall_mem_cons.mpr ⟨lw_p66, List.forall_mem_cons.mpr ⟨lw_p67, List.forall_mem_cons.mpr ⟨lw_p68, List.forall_mem_cons.mpr ⟨lw_p69, List.forall_mem_cons.mpr ⟨lw_p70, List.forall_mem_cons.mpr ⟨lw_p71, List.forall_mem_cons.mpr ⟨lw_p72, List.forall_mem_cons.mpr ⟨lw_p73, List.forall_mem_cons.mpr ⟨lw_p74, List.forall_mem_cons.mpr ⟨lw_p75, List.forall_mem_cons.mpr ⟨lw_p76, List.forall_mem_cons.mpr ⟨lw_p77, List.forall_mem_cons.mpr ⟨lw_p78, List.forall_mem_cons.mpr ⟨lw_p79, fun _ h => absurd h List.not_mem_nil⟩⟩⟩⟩⟩⟩⟩⟩⟩⟩⟩⟩⟩⟩⟩⟩
theorem lw_p80 : lw_okq (⟨"KnotTableModel", "joinArcs", "(III)V"⟩, 65) := ⟨⟨by decide +kernel, by decide +kernel⟩, List.mem_of_getElem? (i := 1259) (by decide +kernel), List.mem_of_getElem? (i := 1740) (by decide +kernel), List.mem_of_getElem? (i := 1741) (by decide +kernel)⟩
theorem lw_p81 : lw_okq (⟨"KnotTableModel", "takeOut", "(II)V"⟩, 65) := ⟨⟨by decide +kernel, by decide +kernel⟩, List.mem_of_getElem? (i := 1259) (by decide +kernel), List.mem_of_getElem? (i := 1744) (by decide +kernel), List.mem_of_getElem? (i := 1745) (by decide +kernel)⟩
theorem lw_p82 : lw_okq (⟨"KnotTableModel", "full", "()I"⟩, 65) := ⟨⟨by decide +kernel, by decide +kernel⟩, List.mem_of_getElem? (i := 1259) (by decide +kernel), List.mem_of_getElem? (i := 1748) (by decide +kernel), List.mem_of_getElem? (i := 1749) (by decide +kernel)⟩
theorem lw_p83 : lw_okq (⟨"KnotTableModel", "unpoke", "(I)I"⟩, 65) := ⟨⟨by decide +kernel, by decide +kernel⟩, List.mem_of_getElem? (i := 1259) (by decide +kernel), List.mem_of_getElem? (i := 1752) (by decide +kernel), List.mem_of_getElem? (i := 1753) (by decide +kernel)⟩
theorem lw_p84 : lw_okq (⟨"KnotTableModel", "slide", "(I)I"⟩, 65) := ⟨⟨by decide +kernel, by decide +kernel⟩, List.mem_of_getElem? (i := 1259) (by decide +kernel), List.mem_of_getElem? (i := 1756) (by decide +kernel), List.mem_of_getElem? (i := 1757) (by decide +kernel)⟩
theorem lw_p85 : lw_okq (⟨"KnotTableModel", "goesOver", "(I)Z"⟩, 65) := ⟨⟨by decide +kernel, by decide +kernel⟩, List.mem_of_getElem? (i := 1259) (by decide +kernel), List.mem_of_getElem? (i := 1760) (by decide +kernel), List.mem_of_getElem? (i := 1761) (by decide +kernel)⟩
theorem lw_p86 : lw_okq (⟨"KnotTableModel", "slides", "(I)V"⟩, 65) := ⟨⟨by decide +kernel, by decide +kernel⟩, List.mem_of_getElem? (i := 1259) (by decide +kernel), List.mem_of_getElem? (i := 1764) (by decide +kernel), List.mem_of_getElem? (i := 1765) (by decide +kernel)⟩
theorem lw_p87 : lw_okq (⟨"KnotTableModel", "flype", "(II)I"⟩, 65) := ⟨⟨by decide +kernel, by decide +kernel⟩, List.mem_of_getElem? (i := 1259) (by decide +kernel), List.mem_of_getElem? (i := 1768) (by decide +kernel), List.mem_of_getElem? (i := 1769) (by decide +kernel)⟩
theorem lw_p88 : lw_okq (⟨"KnotTableModel", "wayOut", "(III)I"⟩, 65) := ⟨⟨by decide +kernel, by decide +kernel⟩, List.mem_of_getElem? (i := 1259) (by decide +kernel), List.mem_of_getElem? (i := 1775) (by decide +kernel), List.mem_of_getElem? (i := 1776) (by decide +kernel)⟩
theorem lw_p89 : lw_okq (⟨"KnotTableModel", "turnOver", "(II)V"⟩, 65) := ⟨⟨by decide +kernel, by decide +kernel⟩, List.mem_of_getElem? (i := 1259) (by decide +kernel), List.mem_of_getElem? (i := 1779) (by decide +kernel), List.mem_of_getElem? (i := 1780) (by decide +kernel)⟩
theorem lw_p90 : lw_okq (⟨"KnotTableModel", "rotate", "(III)I"⟩, 65) := ⟨⟨by decide +kernel, by decide +kernel⟩, List.mem_of_getElem? (i := 1259) (by decide +kernel), List.mem_of_getElem? (i := 1783) (by decide +kernel), List.mem_of_getElem? (i := 1784) (by decide +kernel)⟩
theorem lw_p91 : lw_okq (⟨"KnotTableModel", "moved", "(IIII)I"⟩, 65) := ⟨⟨by decide +kernel, by decide +kernel⟩, List.mem_of_getElem? (i := 1259) (by decide +kernel), List.mem_of_getElem? (i := 1787) (by decide +kernel), List.mem_of_getElem? (i := 1788) (by decide +kernel)⟩
theorem lw_p92 : lw_okq (⟨"KnotTableModel", "twist", "(II)I"⟩, 65) := ⟨⟨by decide +kernel, by decide +kernel⟩, List.mem_of_getElem? (i := 1259) (by decide +kernel), List.mem_of_getElem? (i := 1791) (by decide +kernel), List.mem_of_getElem? (i := 1792) (by decide +kernel)⟩
theorem lw_p93 : lw_okq (⟨"KnotTableModel", "free", "(II)I"⟩, 65) := ⟨⟨by decide +kernel, by decide +kernel⟩, List.mem_of_getElem? (i := 1259) (by decide +kernel), List.mem_of_getElem? (i := 1796) (by decide +kernel), List.mem_of_getElem? (i := 1797) (by decide +kernel)⟩
theorem lw_p94 : lw_okq (⟨"KnotTableModel", "poke", "(III)I"⟩, 65) := ⟨⟨by decide +kernel, by decide +kernel⟩, List.mem_of_getElem? (i := 1259) (by decide +kernel), List.mem_of_getElem? (i := 1800) (by decide +kernel), List.mem_of_getElem? (i := 1801) (by decide +kernel)⟩
theorem lw_p95 : lw_okq (⟨"KnotTableModel", "isOfFace", "(II)Z"⟩, 65) := ⟨⟨by decide +kernel, by decide +kernel⟩, List.mem_of_getElem? (i := 1259) (by decide +kernel), List.mem_of_getElem? (i := 1804) (by decide +kernel), List.mem_of_getElem? (i := 1805) (by decide +kernel)⟩
def lw_privs_6 : List (MethodName × Nat) := [(⟨"KnotTableModel", "joinArcs", "(III)V"⟩, 65), (⟨"KnotTableModel", "takeOut", "(II)V"⟩, 65), (⟨"KnotTableModel", "full", "()I"⟩, 65), (⟨"KnotTableModel", "unpoke", "(I)I"⟩, 65), (⟨"KnotTableModel", "slide", "(I)I"⟩, 65), (⟨"KnotTableModel", "goesOver", "(I)Z"⟩, 65), (⟨"KnotTableModel", "slides", "(I)V"⟩, 65), (⟨"KnotTableModel", "flype", "(II)I"⟩, 65), (⟨"KnotTableModel", "wayOut", "(III)I"⟩, 65), (⟨"KnotTableModel", "turnOver", "(II)V"⟩, 65), (⟨"KnotTableModel", "rotate", "(III)I"⟩, 65), (⟨"KnotTableModel", "moved", "(IIII)I"⟩, 65), (⟨"KnotTableModel", "twist", "(II)I"⟩, 65), (⟨"KnotTableModel", "free", "(II)I"⟩, 65), (⟨"KnotTableModel", "poke", "(III)I"⟩, 65), (⟨"KnotTableModel", "isOfFace", "(II)Z"⟩, 65)]
theorem lw_r6 : ∀ q ∈ lw_privs_6, lw_okq q := List.forall_mem_cons.mpr ⟨lw_p80, List.forall_mem_cons.mpr ⟨lw_p81, List.forall_mem_cons.mpr ⟨lw_p82, List.forall_mem_cons.mpr ⟨lw_p83, List.forall_mem_cons.mpr ⟨lw_p84, List.forall_mem_cons.mpr ⟨lw_p85, List.forall_mem_cons.mpr ⟨lw_p86, List.forall_mem_cons.mpr ⟨lw_p87, List.forall_mem_cons.mpr ⟨lw_p88, List.forall_mem_cons.mpr ⟨lw_p89, List.forall_mem_cons.mpr ⟨lw_p90, List.forall_mem_cons.mpr ⟨lw_p91, List.forall_mem_cons.mpr ⟨lw_p92, List.forall_mem_cons.mpr ⟨lw_p93, List.forall_mem_cons.mpr ⟨lw_p94, List.forall_mem_cons.mpr ⟨lw_p95, fun _ h => absurd h List.not_mem_nil⟩⟩⟩⟩⟩⟩⟩⟩⟩⟩⟩⟩⟩⟩⟩⟩
theorem lw_p96 : lw_okq (⟨"KnotTableModel", "smooth", "(II)I"⟩, 65) := ⟨⟨by decide +kernel, by decide +kernel⟩, List.mem_of_getElem? (i := 1259) (by decide +kernel), List.mem_of_getElem? (i := 1808) (by decide +kernel), List.mem_of_getElem? (i := 1809) (by decide +kernel)⟩
theorem lw_p97 : lw_okq (⟨"KnotTableModel", "replaced", "(II)V"⟩, 65) := ⟨⟨by decide +kernel, by decide +kernel⟩, List.mem_of_getElem? (i := 1259) (by decide +kernel), List.mem_of_getElem? (i := 1816) (by decide +kernel), List.mem_of_getElem? (i := 1817) (by decide +kernel)⟩
theorem lw_p98 : lw_okq (⟨"KnotTableModel", "allTurned", "(IZ)I"⟩, 65) := ⟨⟨by decide +kernel, by decide +kernel⟩, List.mem_of_getElem? (i := 1259) (by decide +kernel), List.mem_of_getElem? (i := 1828) (by decide +kernel), List.mem_of_getElem? (i := 1829) (by decide +kernel)⟩
theorem lw_p99 : lw_okq (⟨"KnotTableModel", "fresh", "()I"⟩, 65) := ⟨⟨by decide +kernel, by decide +kernel⟩, List.mem_of_getElem? (i := 1259) (by decide +kernel), List.mem_of_getElem? (i := 1848) (by decide +kernel), List.mem_of_getElem? (i := 1849) (by decide +kernel)⟩
theorem lw_p100 : lw_okq (⟨"KnotTableModel", "codeInto", "(I[II)V"⟩, 65) := ⟨⟨by decide +kernel, by decide +kernel⟩, List.mem_of_getElem? (i := 1259) (by decide +kernel), List.mem_of_getElem? (i := 1856) (by decide +kernel), List.mem_of_getElem? (i := 1857) (by decide +kernel)⟩
theorem lw_p101 : lw_okq (⟨"KnotTableModel", "walk", "(III)I"⟩, 65) := ⟨⟨by decide +kernel, by decide +kernel⟩, List.mem_of_getElem? (i := 1259) (by decide +kernel), List.mem_of_getElem? (i := 1860) (by decide +kernel), List.mem_of_getElem? (i := 1861) (by decide +kernel)⟩
theorem lw_p102 : lw_okq (⟨"KnotTableModel", "sortInto", "(I[III)V"⟩, 65) := ⟨⟨by decide +kernel, by decide +kernel⟩, List.mem_of_getElem? (i := 1259) (by decide +kernel), List.mem_of_getElem? (i := 1867) (by decide +kernel), List.mem_of_getElem? (i := 1868) (by decide +kernel)⟩
theorem lw_p103 : lw_okq (⟨"KnotTableModel", "beginSearch", "(I)V"⟩, 65) := ⟨⟨by decide +kernel, by decide +kernel⟩, List.mem_of_getElem? (i := 1259) (by decide +kernel), List.mem_of_getElem? (i := 1879) (by decide +kernel), List.mem_of_getElem? (i := 1880) (by decide +kernel)⟩
theorem lw_p104 : lw_okq (⟨"KnotTableModel", "goes", "(IZ)I"⟩, 65) := ⟨⟨by decide +kernel, by decide +kernel⟩, List.mem_of_getElem? (i := 1259) (by decide +kernel), List.mem_of_getElem? (i := 1883) (by decide +kernel), List.mem_of_getElem? (i := 1884) (by decide +kernel)⟩
theorem lw_p105 : lw_okq (⟨"KnotTableModel", "stepped", "(I)I"⟩, 65) := ⟨⟨by decide +kernel, by decide +kernel⟩, List.mem_of_getElem? (i := 1259) (by decide +kernel), List.mem_of_getElem? (i := 1887) (by decide +kernel), List.mem_of_getElem? (i := 1888) (by decide +kernel)⟩
theorem lw_p106 : lw_okq (⟨"KnotTableModel", "kept", "(I)Z"⟩, 65) := ⟨⟨by decide +kernel, by decide +kernel⟩, List.mem_of_getElem? (i := 1259) (by decide +kernel), List.mem_of_getElem? (i := 1891) (by decide +kernel), List.mem_of_getElem? (i := 1892) (by decide +kernel)⟩
theorem lw_p107 : lw_okq (⟨"KnotTableModel", "fewest", "()I"⟩, 65) := ⟨⟨by decide +kernel, by decide +kernel⟩, List.mem_of_getElem? (i := 1259) (by decide +kernel), List.mem_of_getElem? (i := 1903) (by decide +kernel), List.mem_of_getElem? (i := 1904) (by decide +kernel)⟩
theorem lw_p108 : lw_okq (⟨"KnotTableModel", "waysTo", "(I)V"⟩, 65) := ⟨⟨by decide +kernel, by decide +kernel⟩, List.mem_of_getElem? (i := 1259) (by decide +kernel), List.mem_of_getElem? (i := 1911) (by decide +kernel), List.mem_of_getElem? (i := 1912) (by decide +kernel)⟩
theorem lw_p109 : lw_okq (⟨"KnotTableModel", "partsBy", "(II)I"⟩, 65) := ⟨⟨by decide +kernel, by decide +kernel⟩, List.mem_of_getElem? (i := 1259) (by decide +kernel), List.mem_of_getElem? (i := 1919) (by decide +kernel), List.mem_of_getElem? (i := 1920) (by decide +kernel)⟩
theorem lw_p110 : lw_okq (⟨"KnotTableModel", "polynomialsPart", "(II)Z"⟩, 65) := ⟨⟨by decide +kernel, by decide +kernel⟩, List.mem_of_getElem? (i := 1259) (by decide +kernel), List.mem_of_getElem? (i := 1923) (by decide +kernel), List.mem_of_getElem? (i := 1924) (by decide +kernel)⟩
theorem lw_p111 : lw_okq (⟨"KnotTableModel", "named", "()I"⟩, 65) := ⟨⟨by decide +kernel, by decide +kernel⟩, List.mem_of_getElem? (i := 1259) (by decide +kernel), List.mem_of_getElem? (i := 1947) (by decide +kernel), List.mem_of_getElem? (i := 1948) (by decide +kernel)⟩
def lw_privs_7 : List (MethodName × Nat) := [(⟨"KnotTableModel", "smooth", "(II)I"⟩, 65), (⟨"KnotTableModel", "replaced", "(II)V"⟩, 65), (⟨"KnotTableModel", "allTurned", "(IZ)I"⟩, 65), (⟨"KnotTableModel", "fresh", "()I"⟩, 65), (⟨"KnotTableModel", "codeInto", "(I[II)V"⟩, 65), (⟨"KnotTableModel", "walk", "(III)I"⟩, 65), (⟨"KnotTableModel", "sortInto", "(I[III)V"⟩, 65), (⟨"KnotTableModel", "beginSearch", "(I)V"⟩, 65), (⟨"KnotTableModel", "goes", "(IZ)I"⟩, 65), (⟨"KnotTableModel", "stepped", "(I)I"⟩, 65), (⟨"KnotTableModel", "kept", "(I)Z"⟩, 65), (⟨"KnotTableModel", "fewest", "()I"⟩, 65), (⟨"KnotTableModel", "waysTo", "(I)V"⟩, 65), (⟨"KnotTableModel", "partsBy", "(II)I"⟩, 65), (⟨"KnotTableModel", "polynomialsPart", "(II)Z"⟩, 65), (⟨"KnotTableModel", "named", "()I"⟩, 65)]
theorem lw_r7 : ∀ q ∈ lw_privs_7, lw_okq q := List.forall_mem_cons.mpr ⟨lw_p96, List.forall_mem_cons.mpr ⟨lw_p97, List.forall_mem_cons.mpr ⟨lw_p98, List.forall_mem_cons.mpr ⟨lw_p99, List.forall_mem_cons.mpr ⟨lw_p100, List.forall_mem_cons.mpr ⟨lw_p101, List.forall_mem_cons.mpr ⟨lw_p102, List.forall_mem_cons.mpr ⟨lw_p103, List.forall_mem_cons.mpr ⟨lw_p104, List.forall_mem_cons.mpr ⟨lw_p105, List.forall_mem_cons.mpr ⟨lw_p106, List.forall_mem_cons.mpr ⟨lw_p107, List.forall_mem_cons.mpr ⟨lw_p108, List.forall_mem_cons.mpr ⟨lw_p109, List.forall_mem_cons.mpr ⟨lw_p110, List.forall_mem_cons.mpr ⟨lw_p111, fun _ h => absurd h List.not_mem_nil⟩⟩⟩⟩⟩⟩⟩⟩⟩⟩⟩⟩⟩⟩⟩⟩
def lw_privs : List (MethodName × Nat) := lw_privs_1 ++ (lw_privs_2 ++ (lw_privs_3 ++ (lw_privs_4 ++ (lw_privs_5 ++ (lw_privs_6 ++ (lw_privs_7))))))
def lw_tbl : List Cond := k2_sels lw_privs ++ tables_1
theorem lw_privs_ok : ∀ q ∈ lw_privs, lw_okq q := by
  show ∀ q ∈ lw_privs_1 ++ (lw_privs_2 ++ (lw_privs_3 ++ (lw_privs_4 ++ (lw_privs_5 ++ (lw_privs_6 ++ (lw_privs_7)))))), lw_okq q
  exact List.forall_mem_append.mpr ⟨lw_r1, List.forall_mem_append.mpr ⟨lw_r2, List.forall_mem_append.mpr ⟨lw_r3, List.forall_mem_append.mpr ⟨lw_r4, List.forall_mem_append.mpr ⟨lw_r5, List.forall_mem_append.mpr ⟨lw_r6, lw_r7⟩⟩⟩⟩⟩⟩
-- ===== end of PART A; then your names; then what follows =====
end
section
def RX0 : String := "KnotTable$Book"
def TX0 : u_T := fun k => match k with
  | 0 => ("KnotTable$Book", "names", "[J", true)
  | 1 => ("KnotTable$Book", "polynomials", "[LKnotTable$Laurent;", true)
  | _ => ("KnotTable$Book", "count", "I", false)
def tyX0 : Nat → FieldType := fun k => match k with
  | 0 => .array .long
  | 1 => .array (.object "KnotTable$Laurent")
  | _ => .int
abbrev wsX00 : List Cond := u_ws RX0 TX0 3
theorem nmX0 : ∀ a, a < 3 → ∀ b, b < 3 → a ≠ b → (TX0 a).2.1 ≠ (TX0 b).2.1 := by decide +kernel
theorem tyX0_ok : ∀ k, k < 3 → parseFieldDescriptor (TX0 k).2.2.1 = some (tyX0 k) := by decide +kernel
abbrev cX0_init : ByteArray := prog_2_method_1_code
def yX0_init : MethodName := ⟨RX0, "<init>", "()V"⟩
abbrev cX0_has : ByteArray := prog_2_method_2_code
def yX0_has : MethodName := ⟨RX0, "has", "(J)Z"⟩
abbrev cX0_add : ByteArray := prog_2_method_3_code
def yX0_add : MethodName := ⟨RX0, "add", "(JLKnotTable$Laurent;)V"⟩
abbrev cX0_firstFor : ByteArray := prog_2_method_4_code
def yX0_firstFor : MethodName := ⟨RX0, "firstFor", "(LKnotTable$Laurent;)J"⟩
def RX1 : String := "KnotTable$Colouring"
def TX1 : u_T := fun k => match k with
  | 0 => ("KnotTable$Colouring", "strandOf", "[I", true)
  | 1 => ("KnotTable$Colouring", "rows", "[[I", true)
  | _ => ("KnotTable$Colouring", "strands", "I", false)
def tyX1 : Nat → FieldType := fun k => match k with
  | 0 => .array .int
  | 1 => .array (.array .int)
  | _ => .int
abbrev wsX10 : List Cond := u_ws RX1 TX1 3
theorem nmX1 : ∀ a, a < 3 → ∀ b, b < 3 → a ≠ b → (TX1 a).2.1 ≠ (TX1 b).2.1 := by decide +kernel
theorem tyX1_ok : ∀ k, k < 3 → parseFieldDescriptor (TX1 k).2.2.1 = some (tyX1 k) := by decide +kernel
abbrev cX1_init : ByteArray := prog_3_method_1_code
def yX1_init : MethodName := ⟨RX1, "<init>", "()V"⟩
abbrev cX1_powerOf : ByteArray := prog_3_method_2_code
def yX1_powerOf : MethodName := ⟨RX1, "powerOf", "(LKnotTable$Look;I)I"⟩
abbrev cX1_findStrands : ByteArray := prog_3_method_3_code
def yX1_findStrands : MethodName := ⟨RX1, "findStrands", "(LKnotTable$Look;)V"⟩
abbrev cX1_walkStrand : ByteArray := prog_3_method_4_code
def yX1_walkStrand : MethodName := ⟨RX1, "walkStrand", "(LKnotTable$Look;I)V"⟩
abbrev cX1_rank : ByteArray := prog_3_method_5_code
def yX1_rank : MethodName := ⟨RX1, "rank", "(II)I"⟩
abbrev cX1_pivotOf : ByteArray := prog_3_method_6_code
def yX1_pivotOf : MethodName := ⟨RX1, "pivotOf", "(III)I"⟩
abbrev cX1_inverse : ByteArray := prog_3_method_7_code
def yX1_inverse : MethodName := ⟨RX1, "inverse", "(II)I"⟩
abbrev cX1_clearBelow : ByteArray := prog_3_method_8_code
def yX1_clearBelow : MethodName := ⟨RX1, "clearBelow", "(IIII)V"⟩
def RX2 : String := "KnotTable$Laurent"
def TX2 : u_T := fun k => match k with
  | 0 => ("KnotTable$Laurent", "numbers", "[J", false)
  | 1 => ("KnotTable$Laurent", "spare", "[J", false)
  | _ => ("KnotTable$Laurent", "made", "Z", false)
def tyX2 : Nat → FieldType := fun k => match k with
  | 0 => .array .long
  | 1 => .array .long
  | _ => .boolean
abbrev wsX20 : List Cond := u_ws RX2 TX2 3
theorem nmX2 : ∀ a, a < 3 → ∀ b, b < 3 → a ≠ b → (TX2 a).2.1 ≠ (TX2 b).2.1 := by decide +kernel
theorem tyX2_ok : ∀ k, k < 3 → parseFieldDescriptor (TX2 k).2.2.1 = some (tyX2 k) := by decide +kernel
abbrev cX2_init : ByteArray := prog_4_method_1_code
def yX2_init : MethodName := ⟨RX2, "<init>", "()V"⟩
abbrev cX2_numberAt : ByteArray := prog_4_method_2_code
def yX2_numberAt : MethodName := ⟨RX2, "numberAt", "(I)J"⟩
abbrev cX2_empty : ByteArray := prog_4_method_3_code
def yX2_empty : MethodName := ⟨RX2, "empty", "()V"⟩
abbrev cX2_add : ByteArray := prog_4_method_4_code
def yX2_add : MethodName := ⟨RX2, "add", "(IJ)V"⟩
abbrev cX2_swapRows : ByteArray := prog_4_method_5_code
def yX2_swapRows : MethodName := ⟨RX2, "swapRows", "()V"⟩
abbrev cX2_multiplyByCircle : ByteArray := prog_4_method_6_code
def yX2_multiplyByCircle : MethodName := ⟨RX2, "multiplyByCircle", "()V"⟩
abbrev cX2_levelOut : ByteArray := prog_4_method_7_code
def yX2_levelOut : MethodName := ⟨RX2, "levelOut", "(I)V"⟩
abbrev cX2_countNumbers : ByteArray := prog_4_method_8_code
def yX2_countNumbers : MethodName := ⟨RX2, "countNumbers", "()I"⟩
abbrev cX2_lowest : ByteArray := prog_4_method_9_code
def yX2_lowest : MethodName := ⟨RX2, "lowest", "()I"⟩
abbrev cX2_highest : ByteArray := prog_4_method_10_code
def yX2_highest : MethodName := ⟨RX2, "highest", "()I"⟩
abbrev cX2_alternatingSize : ByteArray := prog_4_method_11_code
def yX2_alternatingSize : MethodName := ⟨RX2, "alternatingSize", "()J"⟩
abbrev cX2_isAs : ByteArray := prog_4_method_12_code
def yX2_isAs : MethodName := ⟨RX2, "isAs", "(LKnotTable$Laurent;)Z"⟩
abbrev cX2_take : ByteArray := prog_4_method_13_code
def yX2_take : MethodName := ⟨RX2, "take", "(LKnotTable$Laurent;)V"⟩
def RX3 : String := "KnotTable$Likeness"
def TX3 : u_T := fun k => match k with
  | 0 => ("KnotTable$Likeness", "image", "[I", true)
  | 1 => ("KnotTable$Likeness", "taken", "[I", true)
  | 2 => ("KnotTable$Likeness", "queue", "[I", true)
  | _ => ("KnotTable$Likeness", "known", "I", false)
def tyX3 : Nat → FieldType := fun k => match k with
  | 0 => .array .int
  | 1 => .array .int
  | 2 => .array .int
  | _ => .int
abbrev wsX30 : List Cond := u_ws RX3 TX3 4
theorem nmX3 : ∀ a, a < 4 → ∀ b, b < 4 → a ≠ b → (TX3 a).2.1 ≠ (TX3 b).2.1 := by decide +kernel
theorem tyX3_ok : ∀ k, k < 4 → parseFieldDescriptor (TX3 k).2.2.1 = some (tyX3 k) := by decide +kernel
abbrev cX3_init : ByteArray := prog_5_method_1_code
def yX3_init : MethodName := ⟨RX3, "<init>", "()V"⟩
abbrev cX3_holds : ByteArray := prog_5_method_2_code
def yX3_holds : MethodName := ⟨RX3, "holds", "([I[II)Z"⟩
abbrev cX3_findsPart : ByteArray := prog_5_method_3_code
def yX3_findsPart : MethodName := ⟨RX3, "findsPart", "([I[III)Z"⟩
abbrev cX3_assign : ByteArray := prog_5_method_4_code
def yX3_assign : MethodName := ⟨RX3, "assign", "(II)V"⟩
abbrev cX3_withdraw : ByteArray := prog_5_method_5_code
def yX3_withdraw : MethodName := ⟨RX3, "withdraw", "()V"⟩
abbrev cX3_spreads : ByteArray := prog_5_method_6_code
def yX3_spreads : MethodName := ⟨RX3, "spreads", "([I[I)Z"⟩
def RX4 : String := "KnotTable$Look"
def TX4 : u_T := fun k => match k with
  | 0 => ("KnotTable$Look", "mate", "[I", true)
  | 1 => ("KnotTable$Look", "regionOf", "[I", true)
  | 2 => ("KnotTable$Look", "regionLength", "[I", true)
  | 3 => ("KnotTable$Look", "pieceAt", "[I", true)
  | 4 => ("KnotTable$Look", "outward", "[I", true)
  | 5 => ("KnotTable$Look", "starts", "[I", true)
  | 6 => ("KnotTable$Look", "signs", "[I", true)
  | 7 => ("KnotTable$Look", "partOf", "[I", true)
  | 8 => ("KnotTable$Look", "queue", "[I", true)
  | 9 => ("KnotTable$Look", "arcEnds", "[I", true)
  | 10 => ("KnotTable$Look", "size", "I", false)
  | 11 => ("KnotTable$Look", "loops", "I", false)
  | 12 => ("KnotTable$Look", "regions", "I", false)
  | 13 => ("KnotTable$Look", "parts", "I", false)
  | 14 => ("KnotTable$Look", "pieces", "I", false)
  | 15 => ("KnotTable$Look", "writhe", "I", false)
  | 16 => ("KnotTable$Look", "reason", "I", false)
  | _ => ("KnotTable$Look", "place", "I", false)
def tyX4 : Nat → FieldType := fun k => match k with
  | 0 => .array .int
  | 1 => .array .int
  | 2 => .array .int
  | 3 => .array .int
  | 4 => .array .int
  | 5 => .array .int
  | 6 => .array .int
  | 7 => .array .int
  | 8 => .array .int
  | 9 => .array .int
  | 10 => .int
  | 11 => .int
  | 12 => .int
  | 13 => .int
  | 14 => .int
  | 15 => .int
  | 16 => .int
  | _ => .int
abbrev wsX40 : List Cond := u_ws RX4 TX4 18
theorem nmX4 : ∀ a, a < 18 → ∀ b, b < 18 → a ≠ b → (TX4 a).2.1 ≠ (TX4 b).2.1 := by decide +kernel
theorem tyX4_ok : ∀ k, k < 18 → parseFieldDescriptor (TX4 k).2.2.1 = some (tyX4 k) := by decide +kernel
abbrev cX4_init : ByteArray := prog_6_method_1_code
def yX4_init : MethodName := ⟨RX4, "<init>", "()V"⟩
abbrev cX4_hasEnd : ByteArray := prog_6_method_2_code
def yX4_hasEnd : MethodName := ⟨RX4, "hasEnd", "(I)Z"⟩
abbrev cX4_allPieces : ByteArray := prog_6_method_3_code
def yX4_allPieces : MethodName := ⟨RX4, "allPieces", "()I"⟩
abbrev cX4_survey : ByteArray := prog_6_method_4_code
def yX4_survey : MethodName := ⟨RX4, "survey", "(LKnotTable$Picture;)V"⟩
abbrev cX4_blame : ByteArray := prog_6_method_5_code
def yX4_blame : MethodName := ⟨RX4, "blame", "(II)V"⟩
abbrev cX4_findFault : ByteArray := prog_6_method_6_code
def yX4_findFault : MethodName := ⟨RX4, "findFault", "(LKnotTable$Picture;)V"⟩
abbrev cX4_pairUp : ByteArray := prog_6_method_7_code
def yX4_pairUp : MethodName := ⟨RX4, "pairUp", "(LKnotTable$Picture;)V"⟩
abbrev cX4_nextInRegion : ByteArray := prog_6_method_8_code
def yX4_nextInRegion : MethodName := ⟨RX4, "nextInRegion", "(I)I"⟩
abbrev cX4_findRegions : ByteArray := prog_6_method_9_code
def yX4_findRegions : MethodName := ⟨RX4, "findRegions", "()V"⟩
abbrev cX4_walkRegion : ByteArray := prog_6_method_10_code
def yX4_walkRegion : MethodName := ⟨RX4, "walkRegion", "(I)V"⟩
abbrev cX4_findParts : ByteArray := prog_6_method_11_code
def yX4_findParts : MethodName := ⟨RX4, "findParts", "()V"⟩
abbrev cX4_spreadPart : ByteArray := prog_6_method_12_code
def yX4_spreadPart : MethodName := ⟨RX4, "spreadPart", "(I)V"⟩
abbrev cX4_findPieces : ByteArray := prog_6_method_13_code
def yX4_findPieces : MethodName := ⟨RX4, "findPieces", "()V"⟩
abbrev cX4_walkPiece : ByteArray := prog_6_method_14_code
def yX4_walkPiece : MethodName := ⟨RX4, "walkPiece", "(I)V"⟩
abbrev cX4_findSigns : ByteArray := prog_6_method_15_code
def yX4_findSigns : MethodName := ⟨RX4, "findSigns", "()V"⟩
abbrev cX4_linkOf : ByteArray := prog_6_method_16_code
def yX4_linkOf : MethodName := ⟨RX4, "linkOf", "(II)I"⟩
abbrev cX4_spell : ByteArray := prog_6_method_17_code
def yX4_spell : MethodName := ⟨RX4, "spell", "(LKnotTable$Numbers;)V"⟩
abbrev cX4_likenessMark : ByteArray := prog_6_method_18_code
def yX4_likenessMark : MethodName := ⟨RX4, "likenessMark", "()I"⟩
def RX5 : String := "KnotTable$Move"
def TX5 : u_T := fun k => match k with
  | 0 => ("KnotTable$Move", "kind", "I", true)
  | 1 => ("KnotTable$Move", "a", "I", true)
  | 2 => ("KnotTable$Move", "b", "I", true)
  | _ => ("KnotTable$Move", "c", "I", true)
def tyX5 : Nat → FieldType := fun k => match k with
  | 0 => .int
  | 1 => .int
  | 2 => .int
  | _ => .int
abbrev wsX50 : List Cond := u_ws RX5 TX5 4
theorem nmX5 : ∀ a, a < 4 → ∀ b, b < 4 → a ≠ b → (TX5 a).2.1 ≠ (TX5 b).2.1 := by decide +kernel
theorem tyX5_ok : ∀ k, k < 4 → parseFieldDescriptor (TX5 k).2.2.1 = some (tyX5 k) := by decide +kernel
abbrev cX5_init : ByteArray := prog_7_method_1_code
def yX5_init : MethodName := ⟨RX5, "<init>", "(IIII)V"⟩
abbrev cX5_number : ByteArray := prog_7_method_2_code
def yX5_number : MethodName := ⟨RX5, "number", "(I)I"⟩
abbrev cX5_isA : ByteArray := prog_7_method_3_code
def yX5_isA : MethodName := ⟨RX5, "isA", "(I)Z"⟩
abbrev cX5_canBeUndone : ByteArray := prog_7_method_4_code
def yX5_canBeUndone : MethodName := ⟨RX5, "canBeUndone", "()Z"⟩
abbrev cX5_growth : ByteArray := prog_7_method_5_code
def yX5_growth : MethodName := ⟨RX5, "growth", "(LKnotTable$Numbers;)I"⟩
abbrev cX5_twistGrowth : ByteArray := prog_7_method_6_code
def yX5_twistGrowth : MethodName := ⟨RX5, "twistGrowth", "(LKnotTable$Numbers;)I"⟩
abbrev cX5_applyTo : ByteArray := prog_7_method_7_code
def yX5_applyTo : MethodName := ⟨RX5, "applyTo", "(LKnotTable$Picture;LKnotTable$Look;)I"⟩
abbrev cX5_withdrawFrom : ByteArray := prog_7_method_8_code
def yX5_withdrawFrom : MethodName := ⟨RX5, "withdrawFrom", "(LKnotTable$Picture;LKnotTable$Look;)I"⟩
abbrev cX5_takeStep : ByteArray := prog_7_method_9_code
def yX5_takeStep : MethodName := ⟨RX5, "takeStep", "(LKnotTable$Picture;LKnotTable$Look;I)Z"⟩
abbrev cX5_seemsOpen : ByteArray := prog_7_method_10_code
def yX5_seemsOpen : MethodName := ⟨RX5, "seemsOpen", "(LKnotTable$Look;I)Z"⟩
abbrev cX5_loopsAnswer : ByteArray := prog_7_method_11_code
def yX5_loopsAnswer : MethodName := ⟨RX5, "loopsAnswer", "(LKnotTable$Picture;)I"⟩
abbrev cX5_twist : ByteArray := prog_7_method_12_code
def yX5_twist : MethodName := ⟨RX5, "twist", "(LKnotTable$Picture;LKnotTable$Look;)I"⟩
abbrev cX5_addKink : ByteArray := prog_7_method_13_code
def yX5_addKink : MethodName := ⟨RX5, "addKink", "(LKnotTable$Picture;III)V"⟩
abbrev cX5_poke : ByteArray := prog_7_method_14_code
def yX5_poke : MethodName := ⟨RX5, "poke", "(LKnotTable$Picture;LKnotTable$Look;)I"⟩
abbrev cX5_isKink : ByteArray := prog_7_method_15_code
def yX5_isKink : MethodName := ⟨RX5, "isKink", "(LKnotTable$Look;I)Z"⟩
abbrev cX5_untwist : ByteArray := prog_7_method_16_code
def yX5_untwist : MethodName := ⟨RX5, "untwist", "(LKnotTable$Picture;LKnotTable$Look;I)I"⟩
abbrev cX5_isLens : ByteArray := prog_7_method_17_code
def yX5_isLens : MethodName := ⟨RX5, "isLens", "(LKnotTable$Look;I)Z"⟩
abbrev cX5_unpoke : ByteArray := prog_7_method_18_code
def yX5_unpoke : MethodName := ⟨RX5, "unpoke", "(LKnotTable$Picture;LKnotTable$Look;I)I"⟩
abbrev cX5_isOver : ByteArray := prog_7_method_19_code
def yX5_isOver : MethodName := ⟨RX5, "isOver", "(LKnotTable$Look;I)Z"⟩
abbrev cX5_isTriangle : ByteArray := prog_7_method_20_code
def yX5_isTriangle : MethodName := ⟨RX5, "isTriangle", "(LKnotTable$Look;I)Z"⟩
abbrev cX5_slide : ByteArray := prog_7_method_21_code
def yX5_slide : MethodName := ⟨RX5, "slide", "(LKnotTable$Picture;LKnotTable$Look;I)I"⟩
abbrev cX5_slideArc : ByteArray := prog_7_method_22_code
def yX5_slideArc : MethodName := ⟨RX5, "slideArc", "(LKnotTable$Picture;IIII)V"⟩
abbrev cX5_isIn : ByteArray := prog_7_method_23_code
def yX5_isIn : MethodName := ⟨RX5, "isIn", "(II)Z"⟩
abbrev cX5_areThere : ByteArray := prog_7_method_24_code
def yX5_areThere : MethodName := ⟨RX5, "areThere", "(II)Z"⟩
abbrev cX5_countWaysOut : ByteArray := prog_7_method_25_code
def yX5_countWaysOut : MethodName := ⟨RX5, "countWaysOut", "(LKnotTable$Look;I)I"⟩
abbrev cX5_wayOut : ByteArray := prog_7_method_26_code
def yX5_wayOut : MethodName := ⟨RX5, "wayOut", "(LKnotTable$Look;III)I"⟩
abbrev cX5_flype : ByteArray := prog_7_method_27_code
def yX5_flype : MethodName := ⟨RX5, "flype", "(LKnotTable$Picture;LKnotTable$Look;I)I"⟩
abbrev cX5_passOver : ByteArray := prog_7_method_28_code
def yX5_passOver : MethodName := ⟨RX5, "passOver", "(LKnotTable$Picture;IIIII)V"⟩
abbrev cX5_smooth : ByteArray := prog_7_method_29_code
def yX5_smooth : MethodName := ⟨RX5, "smooth", "(LKnotTable$Picture;)I"⟩
abbrev cX5_change : ByteArray := prog_7_method_30_code
def yX5_change : MethodName := ⟨RX5, "change", "(LKnotTable$Picture;I)I"⟩
def RX6 : String := "KnotTable$Numbers"
def TX6 : u_T := fun k => match k with
  | 0 => ("KnotTable$Numbers", "numbers", "[I", true)
  | _ => ("KnotTable$Numbers", "length", "I", false)
def tyX6 : Nat → FieldType := fun k => match k with
  | 0 => .array .int
  | _ => .int
abbrev wsX60 : List Cond := u_ws RX6 TX6 2
theorem nmX6 : ∀ a, a < 2 → ∀ b, b < 2 → a ≠ b → (TX6 a).2.1 ≠ (TX6 b).2.1 := by decide +kernel
theorem tyX6_ok : ∀ k, k < 2 → parseFieldDescriptor (TX6 k).2.2.1 = some (tyX6 k) := by decide +kernel
abbrev cX6_init : ByteArray := prog_8_method_1_code
def yX6_init : MethodName := ⟨RX6, "<init>", "(I)V"⟩
abbrev cX6_has : ByteArray := prog_8_method_2_code
def yX6_has : MethodName := ⟨RX6, "has", "(I)Z"⟩
abbrev cX6_add : ByteArray := prog_8_method_3_code
def yX6_add : MethodName := ⟨RX6, "add", "(I)Z"⟩
abbrev cX6_empty : ByteArray := prog_8_method_4_code
def yX6_empty : MethodName := ⟨RX6, "empty", "()V"⟩
abbrev cX6_holds : ByteArray := prog_8_method_5_code
def yX6_holds : MethodName := ⟨RX6, "holds", "(I)Z"⟩
abbrev cX6_reverse : ByteArray := prog_8_method_6_code
def yX6_reverse : MethodName := ⟨RX6, "reverse", "()V"⟩
def RX7 : String := "KnotTable$Picture"
def TX7 : u_T := fun k => match k with
  | 0 => ("KnotTable$Picture", "lengths", "[I", true)
  | 1 => ("KnotTable$Picture", "arcs", "[I", true)
  | 2 => ("KnotTable$Picture", "size", "I", false)
  | 3 => ("KnotTable$Picture", "loops", "I", false)
  | 4 => ("KnotTable$Picture", "past", "[I", false)
  | 5 => ("KnotTable$Picture", "pastCount", "I", false)
  | _ => ("KnotTable$Picture", "pastNext", "I", false)
def tyX7 : Nat → FieldType := fun k => match k with
  | 0 => .array .int
  | 1 => .array .int
  | 2 => .int
  | 3 => .int
  | 4 => .array .int
  | 5 => .int
  | _ => .int
abbrev wsX70 : List Cond := u_ws RX7 TX7 7
theorem nmX7 : ∀ a, a < 7 → ∀ b, b < 7 → a ≠ b → (TX7 a).2.1 ≠ (TX7 b).2.1 := by decide +kernel
theorem tyX7_ok : ∀ k, k < 7 → parseFieldDescriptor (TX7 k).2.2.1 = some (tyX7 k) := by decide +kernel
abbrev cX7_init : ByteArray := prog_9_method_1_code
def yX7_init : MethodName := ⟨RX7, "<init>", "()V"⟩
abbrev cX7_hasCrossing : ByteArray := prog_9_method_2_code
def yX7_hasCrossing : MethodName := ⟨RX7, "hasCrossing", "(I)Z"⟩
abbrev cX7_empty : ByteArray := prog_9_method_3_code
def yX7_empty : MethodName := ⟨RX7, "empty", "()V"⟩
abbrev cX7_take : ByteArray := prog_9_method_4_code
def yX7_take : MethodName := ⟨RX7, "take", "(LKnotTable$Picture;)V"⟩
abbrev cX7_add : ByteArray := prog_9_method_5_code
def yX7_add : MethodName := ⟨RX7, "add", "(IIII)V"⟩
abbrev cX7_resize : ByteArray := prog_9_method_6_code
def yX7_resize : MethodName := ⟨RX7, "resize", "(II)V"⟩
abbrev cX7_rotate : ByteArray := prog_9_method_7_code
def yX7_rotate : MethodName := ⟨RX7, "rotate", "(II)V"⟩
abbrev cX7_flip : ByteArray := prog_9_method_8_code
def yX7_flip : MethodName := ⟨RX7, "flip", "(I)V"⟩
abbrev cX7_swap : ByteArray := prog_9_method_9_code
def yX7_swap : MethodName := ⟨RX7, "swap", "(II)V"⟩
abbrev cX7_freeArc : ByteArray := prog_9_method_10_code
def yX7_freeArc : MethodName := ⟨RX7, "freeArc", "(I)I"⟩
abbrev cX7_fuse : ByteArray := prog_9_method_11_code
def yX7_fuse : MethodName := ⟨RX7, "fuse", "(II)V"⟩
abbrev cX7_remove : ByteArray := prog_9_method_12_code
def yX7_remove : MethodName := ⟨RX7, "remove", "(I)V"⟩
abbrev cX7_append : ByteArray := prog_9_method_13_code
def yX7_append : MethodName := ⟨RX7, "append", "(LKnotTable$Picture;LKnotTable$Look;)V"⟩
abbrev cX7_remember : ByteArray := prog_9_method_14_code
def yX7_remember : MethodName := ⟨RX7, "remember", "()V"⟩
abbrev cX7_forget : ByteArray := prog_9_method_15_code
def yX7_forget : MethodName := ⟨RX7, "forget", "()V"⟩
abbrev cX7_goBack : ByteArray := prog_9_method_16_code
def yX7_goBack : MethodName := ⟨RX7, "goBack", "()Z"⟩
abbrev cX7_draw : ByteArray := prog_9_method_17_code
def yX7_draw : MethodName := ⟨RX7, "draw", "(LKnotTable$Numbers;)Z"⟩
abbrev cX7_countPasses : ByteArray := prog_9_method_18_code
def yX7_countPasses : MethodName := ⟨RX7, "countPasses", "(LKnotTable$Numbers;)I"⟩
abbrev cX7_drawPass : ByteArray := prog_9_method_19_code
def yX7_drawPass : MethodName := ⟨RX7, "drawPass", "(III)Z"⟩
abbrev cX7_entryOf : ByteArray := prog_9_method_20_code
def yX7_entryOf : MethodName := ⟨RX7, "entryOf", "(I)I"⟩
abbrev cX7_closePiece : ByteArray := prog_9_method_21_code
def yX7_closePiece : MethodName := ⟨RX7, "closePiece", "(III)V"⟩
abbrev cX7_mixInto : ByteArray := prog_9_method_22_code
def yX7_mixInto : MethodName := ⟨RX7, "mixInto", "(J)J"⟩
def RX8 : String := "KnotTable$Search"
def TX8 : u_T := fun k => match k with
  | 0 => ("KnotTable$Search", "states", "[LKnotTable$State;", true)
  | 1 => ("KnotTable$Search", "target", "LKnotTable$State;", true)
  | 2 => ("KnotTable$Search", "likeness", "LKnotTable$Likeness;", true)
  | 3 => ("KnotTable$Search", "ways", "LKnotTable$Numbers;", true)
  | 4 => ("KnotTable$Search", "base", "LKnotTable$Picture;", true)
  | 5 => ("KnotTable$Search", "next", "LKnotTable$Picture;", true)
  | 6 => ("KnotTable$Search", "baseLook", "LKnotTable$Look;", true)
  | 7 => ("KnotTable$Search", "nextLook", "LKnotTable$Look;", true)
  | 8 => ("KnotTable$Search", "begun", "Z", false)
  | 9 => ("KnotTable$Search", "ended", "Z", false)
  | 10 => ("KnotTable$Search", "aiming", "Z", false)
  | 11 => ("KnotTable$Search", "count", "I", false)
  | 12 => ("KnotTable$Search", "steps", "I", false)
  | 13 => ("KnotTable$Search", "current", "I", false)
  | 14 => ("KnotTable$Search", "slot", "I", false)
  | _ => ("KnotTable$Search", "found", "I", false)
def tyX8 : Nat → FieldType := fun k => match k with
  | 0 => .array (.object "KnotTable$State")
  | 1 => .object "KnotTable$State"
  | 2 => .object "KnotTable$Likeness"
  | 3 => .object "KnotTable$Numbers"
  | 4 => .object "KnotTable$Picture"
  | 5 => .object "KnotTable$Picture"
  | 6 => .object "KnotTable$Look"
  | 7 => .object "KnotTable$Look"
  | 8 => .boolean
  | 9 => .boolean
  | 10 => .boolean
  | 11 => .int
  | 12 => .int
  | 13 => .int
  | 14 => .int
  | _ => .int
abbrev wsX80 : List Cond := u_ws RX8 TX8 16
theorem nmX8 : ∀ a, a < 16 → ∀ b, b < 16 → a ≠ b → (TX8 a).2.1 ≠ (TX8 b).2.1 := by decide +kernel
theorem tyX8_ok : ∀ k, k < 16 → parseFieldDescriptor (TX8 k).2.2.1 = some (tyX8 k) := by decide +kernel
abbrev cX8_init : ByteArray := prog_10_method_1_code
def yX8_init : MethodName := ⟨RX8, "<init>", "()V"⟩
abbrev cX8_begin : ByteArray := prog_10_method_2_code
def yX8_begin : MethodName := ⟨RX8, "begin", "(LKnotTable$Picture;)V"⟩
abbrev cX8_aimAt : ByteArray := prog_10_method_3_code
def yX8_aimAt : MethodName := ⟨RX8, "aimAt", "(LKnotTable$Picture;)V"⟩
abbrev cX8_takeAim : ByteArray := prog_10_method_4_code
def yX8_takeAim : MethodName := ⟨RX8, "takeAim", "()Z"⟩
abbrev cX8_go : ByteArray := prog_10_method_5_code
def yX8_go : MethodName := ⟨RX8, "go", "(I)I"⟩
abbrev cX8_enterNext : ByteArray := prog_10_method_6_code
def yX8_enterNext : MethodName := ⟨RX8, "enterNext", "()Z"⟩
abbrev cX8_enter : ByteArray := prog_10_method_7_code
def yX8_enter : MethodName := ⟨RX8, "enter", "(I)V"⟩
abbrev cX8_keep : ByteArray := prog_10_method_8_code
def yX8_keep : MethodName := ⟨RX8, "keep", "(II)V"⟩
abbrev cX8_smallest : ByteArray := prog_10_method_9_code
def yX8_smallest : MethodName := ⟨RX8, "smallest", "()I"⟩
abbrev cX8_tellWays : ByteArray := prog_10_method_10_code
def yX8_tellWays : MethodName := ⟨RX8, "tellWays", "(I)V"⟩
def RX9 : String := "KnotTable$Smoothing"
def TX9 : u_T := fun k => match k with
  | 0 => ("KnotTable$Smoothing", "far", "[I", true)
  | 1 => ("KnotTable$Smoothing", "tally", "[[I", true)
  | 2 => ("KnotTable$Smoothing", "size", "I", false)
  | _ => ("KnotTable$Smoothing", "spent", "I", false)
def tyX9 : Nat → FieldType := fun k => match k with
  | 0 => .array .int
  | 1 => .array (.array .int)
  | 2 => .int
  | _ => .int
abbrev wsX90 : List Cond := u_ws RX9 TX9 4
theorem nmX9 : ∀ a, a < 4 → ∀ b, b < 4 → a ≠ b → (TX9 a).2.1 ≠ (TX9 b).2.1 := by decide +kernel
theorem tyX9_ok : ∀ k, k < 4 → parseFieldDescriptor (TX9 k).2.2.1 = some (tyX9 k) := by decide +kernel
abbrev cX9_init : ByteArray := prog_11_method_1_code
def yX9_init : MethodName := ⟨RX9, "<init>", "()V"⟩
abbrev cX9_costOf : ByteArray := prog_11_method_2_code
def yX9_costOf : MethodName := ⟨RX9, "costOf", "(I)I"⟩
abbrev cX9_affords : ByteArray := prog_11_method_3_code
def yX9_affords : MethodName := ⟨RX9, "affords", "(I)Z"⟩
abbrev cX9_makeBracket : ByteArray := prog_11_method_4_code
def yX9_makeBracket : MethodName := ⟨RX9, "makeBracket", "(LKnotTable$Look;LKnotTable$Laurent;)V"⟩
abbrev cX9_makePolynomial : ByteArray := prog_11_method_5_code
def yX9_makePolynomial : MethodName := ⟨RX9, "makePolynomial", "(LKnotTable$Look;LKnotTable$Laurent;)V"⟩
abbrev cX9_smoothFrom : ByteArray := prog_11_method_6_code
def yX9_smoothFrom : MethodName := ⟨RX9, "smoothFrom", "(III)V"⟩
abbrev cX9_tie : ByteArray := prog_11_method_7_code
def yX9_tie : MethodName := ⟨RX9, "tie", "(II)I"⟩
abbrev cX9_untie : ByteArray := prog_11_method_8_code
def yX9_untie : MethodName := ⟨RX9, "untie", "(II)V"⟩
def RX10 : String := "KnotTable$State"
def TX10 : u_T := fun k => match k with
  | 0 => ("KnotTable$State", "arcs", "[I", true)
  | 1 => ("KnotTable$State", "mates", "[I", true)
  | 2 => ("KnotTable$State", "size", "I", false)
  | 3 => ("KnotTable$State", "loops", "I", false)
  | 4 => ("KnotTable$State", "mark", "I", false)
  | 5 => ("KnotTable$State", "parent", "I", false)
  | _ => ("KnotTable$State", "lead", "I", false)
def tyX10 : Nat → FieldType := fun k => match k with
  | 0 => .array .int
  | 1 => .array .int
  | 2 => .int
  | 3 => .int
  | 4 => .int
  | 5 => .int
  | _ => .int
abbrev wsX100 : List Cond := u_ws RX10 TX10 7
theorem nmX10 : ∀ a, a < 7 → ∀ b, b < 7 → a ≠ b → (TX10 a).2.1 ≠ (TX10 b).2.1 := by decide +kernel
theorem tyX10_ok : ∀ k, k < 7 → parseFieldDescriptor (TX10 k).2.2.1 = some (tyX10 k) := by decide +kernel
abbrev cX10_init : ByteArray := prog_12_method_1_code
def yX10_init : MethodName := ⟨RX10, "<init>", "()V"⟩
abbrev cX10_hold : ByteArray := prog_12_method_2_code
def yX10_hold : MethodName := ⟨RX10, "hold", "(LKnotTable$Picture;LKnotTable$Look;)V"⟩
abbrev cX10_pourInto : ByteArray := prog_12_method_3_code
def yX10_pourInto : MethodName := ⟨RX10, "pourInto", "(LKnotTable$Picture;)V"⟩
abbrev cX10_sharesMark : ByteArray := prog_12_method_4_code
def yX10_sharesMark : MethodName := ⟨RX10, "sharesMark", "(LKnotTable$State;)Z"⟩
def RX11 : String := "KnotTable"
def TX11 : u_T := fun k => match k with
  | 0 => ("KnotTable", "pictures", "[LKnotTable$Picture;", true)
  | 1 => ("KnotTable", "moves", "[LKnotTable$Move;", true)
  | 2 => ("KnotTable", "tape", "LKnotTable$Numbers;", true)
  | 3 => ("KnotTable", "bodies", "LKnotTable$Numbers;", true)
  | 4 => ("KnotTable", "look", "LKnotTable$Look;", true)
  | 5 => ("KnotTable", "otherLook", "LKnotTable$Look;", true)
  | 6 => ("KnotTable", "draft", "LKnotTable$Picture;", true)
  | 7 => ("KnotTable", "smoothing", "LKnotTable$Smoothing;", true)
  | 8 => ("KnotTable", "result", "LKnotTable$Laurent;", true)
  | 9 => ("KnotTable", "mine", "LKnotTable$Laurent;", true)
  | 10 => ("KnotTable", "theirs", "LKnotTable$Laurent;", true)
  | 11 => ("KnotTable", "colouring", "LKnotTable$Colouring;", true)
  | 12 => ("KnotTable", "seeker", "LKnotTable$Search;", true)
  | 13 => ("KnotTable", "names", "LKnotTable$Book;", true)
  | 14 => ("KnotTable", "findingCounts", "[I", true)
  | 15 => ("KnotTable", "pictureCount", "I", false)
  | 16 => ("KnotTable", "moveCount", "I", false)
  | 17 => ("KnotTable", "openPlace", "I", false)
  | 18 => ("KnotTable", "partedBy", "I", false)
  | _ => ("KnotTable", "refusal", "I", false)
def tyX11 : Nat → FieldType := fun k => match k with
  | 0 => .array (.object "KnotTable$Picture")
  | 1 => .array (.object "KnotTable$Move")
  | 2 => .object "KnotTable$Numbers"
  | 3 => .object "KnotTable$Numbers"
  | 4 => .object "KnotTable$Look"
  | 5 => .object "KnotTable$Look"
  | 6 => .object "KnotTable$Picture"
  | 7 => .object "KnotTable$Smoothing"
  | 8 => .object "KnotTable$Laurent"
  | 9 => .object "KnotTable$Laurent"
  | 10 => .object "KnotTable$Laurent"
  | 11 => .object "KnotTable$Colouring"
  | 12 => .object "KnotTable$Search"
  | 13 => .object "KnotTable$Book"
  | 14 => .array .int
  | 15 => .int
  | 16 => .int
  | 17 => .int
  | 18 => .int
  | _ => .int
abbrev wsX110 : List Cond := u_ws RX11 TX11 20
theorem nmX11 : ∀ a, a < 20 → ∀ b, b < 20 → a ≠ b → (TX11 a).2.1 ≠ (TX11 b).2.1 := by decide +kernel
theorem tyX11_ok : ∀ k, k < 20 → parseFieldDescriptor (TX11 k).2.2.1 = some (tyX11 k) := by decide +kernel
abbrev cX11_init : ByteArray := prog_1_method_1_code
def yX11_init : MethodName := ⟨RX11, "<init>", "()V"⟩
abbrev cX11_hasPicture : ByteArray := prog_1_method_2_code
def yX11_hasPicture : MethodName := ⟨RX11, "hasPicture", "(I)Z"⟩
abbrev cX11_hasMove : ByteArray := prog_1_method_3_code
def yX11_hasMove : MethodName := ⟨RX11, "hasMove", "(I)Z"⟩
abbrev cX11_isWhole : ByteArray := prog_1_method_4_code
def yX11_isWhole : MethodName := ⟨RX11, "isWhole", "(ILKnotTable$Look;)Z"⟩
abbrev cX11_refuse : ByteArray := prog_1_method_5_code
def yX11_refuse : MethodName := ⟨RX11, "refuse", "(I)I"⟩
abbrev cX11_grant : ByteArray := prog_1_method_6_code
def yX11_grant : MethodName := ⟨RX11, "grant", "(I)I"⟩
abbrev cX11_isFull : ByteArray := prog_1_method_7_code
def yX11_isFull : MethodName := ⟨RX11, "isFull", "()Z"⟩
abbrev cX11_addLike : ByteArray := prog_1_method_8_code
def yX11_addLike : MethodName := ⟨RX11, "addLike", "(LKnotTable$Picture;)I"⟩
abbrev cX11_picture : ByteArray := prog_1_method_9_code
def yX11_picture : MethodName := ⟨RX11, "picture", "()I"⟩
abbrev cX11_isArc : ByteArray := prog_1_method_10_code
def yX11_isArc : MethodName := ⟨RX11, "isArc", "(I)Z"⟩
abbrev cX11_crossing : ByteArray := prog_1_method_11_code
def yX11_crossing : MethodName := ⟨RX11, "crossing", "(IIIII)I"⟩
abbrev cX11_row : ByteArray := prog_1_method_12_code
def yX11_row : MethodName := ⟨RX11, "row", "(III)I"⟩
abbrev cX11_whyOutOfReach : ByteArray := prog_1_method_13_code
def yX11_whyOutOfReach : MethodName := ⟨RX11, "whyOutOfReach", "(LKnotTable$Picture;II)I"⟩
abbrev cX11_end : ByteArray := prog_1_method_14_code
def yX11_end : MethodName := ⟨RX11, "end", "(III)I"⟩
abbrev cX11_put : ByteArray := prog_1_method_15_code
def yX11_put : MethodName := ⟨RX11, "put", "(IIII)I"⟩
abbrev cX11_reaches : ByteArray := prog_1_method_16_code
def yX11_reaches : MethodName := ⟨RX11, "reaches", "(III)Z"⟩
abbrev cX11_copy : ByteArray := prog_1_method_17_code
def yX11_copy : MethodName := ⟨RX11, "copy", "(IIIIIII)I"⟩
abbrev cX11_loose : ByteArray := prog_1_method_18_code
def yX11_loose : MethodName := ⟨RX11, "loose", "(II)I"⟩
abbrev cX11_open : ByteArray := prog_1_method_19_code
def yX11_open : MethodName := ⟨RX11, "open", "(I)I"⟩
abbrev cX11_where : ByteArray := prog_1_method_20_code
def yX11_where : MethodName := ⟨RX11, "where", "()I"⟩
abbrev cX11_told : ByteArray := prog_1_method_21_code
def yX11_told : MethodName := ⟨RX11, "told", "(II)I"⟩
abbrev cX11_mirror : ByteArray := prog_1_method_22_code
def yX11_mirror : MethodName := ⟨RX11, "mirror", "(I)I"⟩
abbrev cX11_turn : ByteArray := prog_1_method_23_code
def yX11_turn : MethodName := ⟨RX11, "turn", "(I)I"⟩
abbrev cX11_join : ByteArray := prog_1_method_24_code
def yX11_join : MethodName := ⟨RX11, "join", "(IIII)I"⟩
abbrev cX11_twin : ByteArray := prog_1_method_25_code
def yX11_twin : MethodName := ⟨RX11, "twin", "(I)I"⟩
abbrev cX11_undo : ByteArray := prog_1_method_26_code
def yX11_undo : MethodName := ⟨RX11, "undo", "(I)I"⟩
abbrev cX11_sign : ByteArray := prog_1_method_27_code
def yX11_sign : MethodName := ⟨RX11, "sign", "(II)I"⟩
abbrev cX11_pieceOf : ByteArray := prog_1_method_28_code
def yX11_pieceOf : MethodName := ⟨RX11, "pieceOf", "(II)I"⟩
abbrev cX11_linking : ByteArray := prog_1_method_29_code
def yX11_linking : MethodName := ⟨RX11, "linking", "(III)I"⟩
abbrev cX11_isColourCount : ByteArray := prog_1_method_30_code
def yX11_isColourCount : MethodName := ⟨RX11, "isColourCount", "(I)Z"⟩
abbrev cX11_colours : ByteArray := prog_1_method_31_code
def yX11_colours : MethodName := ⟨RX11, "colours", "(II)I"⟩
abbrev cX11_whyNoBracket : ByteArray := prog_1_method_32_code
def yX11_whyNoBracket : MethodName := ⟨RX11, "whyNoBracket", "(II)I"⟩
abbrev cX11_bracket : ByteArray := prog_1_method_33_code
def yX11_bracket : MethodName := ⟨RX11, "bracket", "(I)I"⟩
abbrev cX11_polynomial : ByteArray := prog_1_method_34_code
def yX11_polynomial : MethodName := ⟨RX11, "polynomial", "(I)I"⟩
abbrev cX11_at : ByteArray := prog_1_method_35_code
def yX11_at : MethodName := ⟨RX11, "at", "(I)J"⟩
abbrev cX11_power : ByteArray := prog_1_method_36_code
def yX11_power : MethodName := ⟨RX11, "power", "(I)I"⟩
abbrev cX11_determinant : ByteArray := prog_1_method_37_code
def yX11_determinant : MethodName := ⟨RX11, "determinant", "(I)J"⟩
abbrev cX11_gauss : ByteArray := prog_1_method_38_code
def yX11_gauss : MethodName := ⟨RX11, "gauss", "(I)I"⟩
abbrev cX11_type : ByteArray := prog_1_method_39_code
def yX11_type : MethodName := ⟨RX11, "type", "(I)I"⟩
abbrev cX11_clear : ByteArray := prog_1_method_40_code
def yX11_clear : MethodName := ⟨RX11, "clear", "()I"⟩
abbrev cX11_item : ByteArray := prog_1_method_41_code
def yX11_item : MethodName := ⟨RX11, "item", "(I)I"⟩
abbrev cX11_ofGauss : ByteArray := prog_1_method_42_code
def yX11_ofGauss : MethodName := ⟨RX11, "ofGauss", "()I"⟩
abbrev cX11_isKind : ByteArray := prog_1_method_43_code
def yX11_isKind : MethodName := ⟨RX11, "isKind", "(I)Z"⟩
abbrev cX11_move : ByteArray := prog_1_method_44_code
def yX11_move : MethodName := ⟨RX11, "move", "(IIII)I"⟩
abbrev cX11_tells : ByteArray := prog_1_method_45_code
def yX11_tells : MethodName := ⟨RX11, "tells", "(II)I"⟩
abbrev cX11_as : ByteArray := prog_1_method_46_code
def yX11_as : MethodName := ⟨RX11, "as", "(II)I"⟩
abbrev cX11_tryMove : ByteArray := prog_1_method_47_code
def yX11_tryMove : MethodName := ⟨RX11, "tryMove", "(II)I"⟩
abbrev cX11_tryUndoing : ByteArray := prog_1_method_48_code
def yX11_tryUndoing : MethodName := ⟨RX11, "tryUndoing", "(II)I"⟩
abbrev cX11_settle : ByteArray := prog_1_method_49_code
def yX11_settle : MethodName := ⟨RX11, "settle", "(II)I"⟩
abbrev cX11_may : ByteArray := prog_1_method_50_code
def yX11_may : MethodName := ⟨RX11, "may", "(II)I"⟩
abbrev cX11_does : ByteArray := prog_1_method_51_code
def yX11_does : MethodName := ⟨RX11, "does", "(II)I"⟩
abbrev cX11_undoes : ByteArray := prog_1_method_52_code
def yX11_undoes : MethodName := ⟨RX11, "undoes", "(II)I"⟩
abbrev cX11_trace : ByteArray := prog_1_method_53_code
def yX11_trace : MethodName := ⟨RX11, "trace", "(I)I"⟩
abbrev cX11_like : ByteArray := prog_1_method_54_code
def yX11_like : MethodName := ⟨RX11, "like", "(II)I"⟩
abbrev cX11_isStepCount : ByteArray := prog_1_method_55_code
def yX11_isStepCount : MethodName := ⟨RX11, "isStepCount", "(I)Z"⟩
abbrev cX11_search : ByteArray := prog_1_method_56_code
def yX11_search : MethodName := ⟨RX11, "search", "(II)I"⟩
abbrev cX11_goOn : ByteArray := prog_1_method_57_code
def yX11_goOn : MethodName := ⟨RX11, "goOn", "(I)I"⟩
abbrev cX11_searched : ByteArray := prog_1_method_58_code
def yX11_searched : MethodName := ⟨RX11, "searched", "(I)I"⟩
abbrev cX11_fewer : ByteArray := prog_1_method_59_code
def yX11_fewer : MethodName := ⟨RX11, "fewer", "()I"⟩
abbrev cX11_partingNumber : ByteArray := prog_1_method_60_code
def yX11_partingNumber : MethodName := ⟨RX11, "partingNumber", "()I"⟩
abbrev cX11_same : ByteArray := prog_1_method_61_code
def yX11_same : MethodName := ⟨RX11, "same", "(III)I"⟩
abbrev cX11_parted : ByteArray := prog_1_method_62_code
def yX11_parted : MethodName := ⟨RX11, "parted", "()I"⟩
abbrev cX11_way : ByteArray := prog_1_method_63_code
def yX11_way : MethodName := ⟨RX11, "way", "(I)I"⟩
abbrev cX11_goWays : ByteArray := prog_1_method_64_code
def yX11_goWays : MethodName := ⟨RX11, "goWays", "()Z"⟩
abbrev cX11_check : ByteArray := prog_1_method_65_code
def yX11_check : MethodName := ⟨RX11, "check", "(I)I"⟩
abbrev cX11_book : ByteArray := prog_1_method_66_code
def yX11_book : MethodName := ⟨RX11, "book", "(IJ)I"⟩
abbrev cX11_name : ByteArray := prog_1_method_67_code
def yX11_name : MethodName := ⟨RX11, "name", "(I)J"⟩
abbrev cX11_count : ByteArray := prog_1_method_68_code
def yX11_count : MethodName := ⟨RX11, "count", "(I)I"⟩
abbrev cX11_findings : ByteArray := prog_1_method_69_code
def yX11_findings : MethodName := ⟨RX11, "findings", "(I)I"⟩
abbrev cX11_status : ByteArray := prog_1_method_70_code
def yX11_status : MethodName := ⟨RX11, "status", "()I"⟩
abbrev cX11_digest : ByteArray := prog_1_method_71_code
def yX11_digest : MethodName := ⟨RX11, "digest", "()J"⟩
abbrev cX11_corner : ByteArray := prog_1_method_72_code
def yX11_corner : MethodName := ⟨RX11, "corner", "(II)I"⟩
def RX12 : String := "KnotTableModel"
def TX12 : u_T := fun k => match k with
  | 0 => ("KnotTableModel", "why", "I", false)
  | 1 => ("KnotTableModel", "came", "[I", true)
  | 2 => ("KnotTableModel", "many", "[I", true)
  | 3 => ("KnotTableModel", "circles", "[I", true)
  | 4 => ("KnotTableModel", "size", "[I", true)
  | 5 => ("KnotTableModel", "arc", "[I", true)
  | 6 => ("KnotTableModel", "pictures", "I", false)
  | 7 => ("KnotTableModel", "past", "[I", true)
  | 8 => ("KnotTableModel", "held", "[I", true)
  | 9 => ("KnotTableModel", "place", "I", false)
  | 10 => ("KnotTableModel", "other", "[I", true)
  | 11 => ("KnotTableModel", "group", "[I", true)
  | 12 => ("KnotTableModel", "isSeen", "[Z", true)
  | 13 => ("KnotTableModel", "first", "[I", true)
  | 14 => ("KnotTableModel", "times", "[I", true)
  | 15 => ("KnotTableModel", "told", "I", false)
  | 16 => ("KnotTableModel", "pieceAt", "[I", true)
  | 17 => ("KnotTableModel", "comesIn", "[Z", true)
  | 18 => ("KnotTableModel", "strand", "[I", true)
  | 19 => ("KnotTableModel", "sums", "[I", true)
  | 20 => ("KnotTableModel", "made", "[J", true)
  | 21 => ("KnotTableModel", "result", "[J", true)
  | 22 => ("KnotTableModel", "hasResult", "Z", false)
  | 23 => ("KnotTableModel", "work", "I", false)
  | 24 => ("KnotTableModel", "joins", "[I", true)
  | 25 => ("KnotTableModel", "ways", "[J", true)
  | 26 => ("KnotTableModel", "power", "[J", true)
  | 27 => ("KnotTableModel", "spare", "[J", true)
  | 28 => ("KnotTableModel", "tape", "[I", true)
  | 29 => ("KnotTableModel", "taped", "I", false)
  | 30 => ("KnotTableModel", "under", "[I", true)
  | 31 => ("KnotTableModel", "over", "[I", true)
  | 32 => ("KnotTableModel", "comesBy", "[I", true)
  | 33 => ("KnotTableModel", "isUsed", "[Z", true)
  | 34 => ("KnotTableModel", "was", "[I", true)
  | 35 => ("KnotTableModel", "moves", "I", false)
  | 36 => ("KnotTableModel", "numbers", "[I", true)
  | 37 => ("KnotTableModel", "bodies", "[I", true)
  | 38 => ("KnotTableModel", "bodyMany", "I", false)
  | 39 => ("KnotTableModel", "label", "[I", true)
  | 40 => ("KnotTableModel", "rotation", "[I", true)
  | 41 => ("KnotTableModel", "line", "[I", true)
  | 42 => ("KnotTableModel", "trial", "[I", true)
  | 43 => ("KnotTableModel", "best", "[I", true)
  | 44 => ("KnotTableModel", "partFrom", "[I", true)
  | 45 => ("KnotTableModel", "partCodes", "[I", true)
  | 46 => ("KnotTableModel", "isLaid", "[Z", true)
  | 47 => ("KnotTableModel", "codeA", "[I", true)
  | 48 => ("KnotTableModel", "codeB", "[I", true)
  | 49 => ("KnotTableModel", "hasSearch", "Z", false)
  | 50 => ("KnotTableModel", "isEnded", "Z", false)
  | 51 => ("KnotTableModel", "states", "I", false)
  | 52 => ("KnotTableModel", "atState", "I", false)
  | 53 => ("KnotTableModel", "atWay", "I", false)
  | 54 => ("KnotTableModel", "steps", "I", false)
  | 55 => ("KnotTableModel", "stateFrom", "[I", true)
  | 56 => ("KnotTableModel", "stateWay", "[I", true)
  | 57 => ("KnotTableModel", "stateCode", "[I", true)
  | 58 => ("KnotTableModel", "wayRow", "[I", true)
  | 59 => ("KnotTableModel", "wayMany", "I", false)
  | 60 => ("KnotTableModel", "parted", "I", false)
  | 61 => ("KnotTableModel", "left", "[J", true)
  | 62 => ("KnotTableModel", "names", "I", false)
  | 63 => ("KnotTableModel", "name", "[J", true)
  | _ => ("KnotTableModel", "numbersOf", "[J", true)
def tyX12 : Nat → FieldType := fun k => match k with
  | 0 => .int
  | 1 => .array .int
  | 2 => .array .int
  | 3 => .array .int
  | 4 => .array .int
  | 5 => .array .int
  | 6 => .int
  | 7 => .array .int
  | 8 => .array .int
  | 9 => .int
  | 10 => .array .int
  | 11 => .array .int
  | 12 => .array .boolean
  | 13 => .array .int
  | 14 => .array .int
  | 15 => .int
  | 16 => .array .int
  | 17 => .array .boolean
  | 18 => .array .int
  | 19 => .array .int
  | 20 => .array .long
  | 21 => .array .long
  | 22 => .boolean
  | 23 => .int
  | 24 => .array .int
  | 25 => .array .long
  | 26 => .array .long
  | 27 => .array .long
  | 28 => .array .int
  | 29 => .int
  | 30 => .array .int
  | 31 => .array .int
  | 32 => .array .int
  | 33 => .array .boolean
  | 34 => .array .int
  | 35 => .int
  | 36 => .array .int
  | 37 => .array .int
  | 38 => .int
  | 39 => .array .int
  | 40 => .array .int
  | 41 => .array .int
  | 42 => .array .int
  | 43 => .array .int
  | 44 => .array .int
  | 45 => .array .int
  | 46 => .array .boolean
  | 47 => .array .int
  | 48 => .array .int
  | 49 => .boolean
  | 50 => .boolean
  | 51 => .int
  | 52 => .int
  | 53 => .int
  | 54 => .int
  | 55 => .array .int
  | 56 => .array .int
  | 57 => .array .int
  | 58 => .array .int
  | 59 => .int
  | 60 => .int
  | 61 => .array .long
  | 62 => .int
  | 63 => .array .long
  | _ => .array .long
abbrev wsX120 : List Cond := u_ws RX12 TX12 65
theorem nmX12 : ∀ a, a < 65 → ∀ b, b < 65 → a ≠ b → (TX12 a).2.1 ≠ (TX12 b).2.1 := by decide +kernel
theorem tyX12_ok : ∀ k, k < 65 → parseFieldDescriptor (TX12 k).2.2.1 = some (tyX12 k) := by decide +kernel
abbrev cX12_init : ByteArray := prog_14_method_1_code
def yX12_init : MethodName := ⟨RX12, "<init>", "()V"⟩
abbrev cX12_in : ByteArray := prog_14_method_2_code
def yX12_in : MethodName := ⟨RX12, "in", "(JJJ)Z"⟩
abbrev cX12_no : ByteArray := prog_14_method_3_code
def yX12_no : MethodName := ⟨RX12, "no", "(I)I"⟩
abbrev cX12_meets : ByteArray := prog_14_method_4_code
def yX12_meets : MethodName := ⟨RX12, "meets", "(I)I"⟩
abbrev cX12_well : ByteArray := prog_14_method_5_code
def yX12_well : MethodName := ⟨RX12, "well", "(I)I"⟩
abbrev cX12_copySlot : ByteArray := prog_14_method_6_code
def yX12_copySlot : MethodName := ⟨RX12, "copySlot", "(II)V"⟩
abbrev cX12_isPicture : ByteArray := prog_14_method_7_code
def yX12_isPicture : MethodName := ⟨RX12, "isPicture", "(I)Z"⟩
abbrev cX12_added : ByteArray := prog_14_method_8_code
def yX12_added : MethodName := ⟨RX12, "added", "(I)I"⟩
abbrev cX12_replaced : ByteArray := prog_14_method_9_code
def yX12_replaced : MethodName := ⟨RX12, "replaced", "(II)V"⟩
abbrev cX12_picture : ByteArray := prog_14_method_10_code
def yX12_picture : MethodName := ⟨RX12, "picture", "()I"⟩
abbrev cX12_isArc : ByteArray := prog_14_method_11_code
def yX12_isArc : MethodName := ⟨RX12, "isArc", "(I)Z"⟩
abbrev cX12_append : ByteArray := prog_14_method_12_code
def yX12_append : MethodName := ⟨RX12, "append", "(IIIII)V"⟩
abbrev cX12_crossing : ByteArray := prog_14_method_13_code
def yX12_crossing : MethodName := ⟨RX12, "crossing", "(IIIII)I"⟩
abbrev cX12_row : ByteArray := prog_14_method_14_code
def yX12_row : MethodName := ⟨RX12, "row", "(III)I"⟩
abbrev cX12_lacks : ByteArray := prog_14_method_15_code
def yX12_lacks : MethodName := ⟨RX12, "lacks", "(III)I"⟩
abbrev cX12_end : ByteArray := prog_14_method_16_code
def yX12_end : MethodName := ⟨RX12, "end", "(III)I"⟩
abbrev cX12_put : ByteArray := prog_14_method_17_code
def yX12_put : MethodName := ⟨RX12, "put", "(IIII)I"⟩
abbrev cX12_copy : ByteArray := prog_14_method_18_code
def yX12_copy : MethodName := ⟨RX12, "copy", "(IIIIIII)I"⟩
abbrev cX12_loose : ByteArray := prog_14_method_19_code
def yX12_loose : MethodName := ⟨RX12, "loose", "(II)I"⟩
abbrev cX12_link : ByteArray := prog_14_method_20_code
def yX12_link : MethodName := ⟨RX12, "link", "(I)V"⟩
abbrev cX12_turned : ByteArray := prog_14_method_21_code
def yX12_turned : MethodName := ⟨RX12, "turned", "(II)I"⟩
abbrev cX12_nextOfFace : ByteArray := prog_14_method_22_code
def yX12_nextOfFace : MethodName := ⟨RX12, "nextOfFace", "(I)I"⟩
abbrev cX12_facesOf : ByteArray := prog_14_method_23_code
def yX12_facesOf : MethodName := ⟨RX12, "facesOf", "(I)I"⟩
abbrev cX12_partsOf : ByteArray := prog_14_method_24_code
def yX12_partsOf : MethodName := ⟨RX12, "partsOf", "(I)I"⟩
abbrev cX12_openOf : ByteArray := prog_14_method_25_code
def yX12_openOf : MethodName := ⟨RX12, "openOf", "(I)I"⟩
abbrev cX12_open : ByteArray := prog_14_method_26_code
def yX12_open : MethodName := ⟨RX12, "open", "(I)I"⟩
abbrev cX12_where : ByteArray := prog_14_method_27_code
def yX12_where : MethodName := ⟨RX12, "where", "()I"⟩
abbrev cX12_refusal : ByteArray := prog_14_method_28_code
def yX12_refusal : MethodName := ⟨RX12, "refusal", "(I)I"⟩
abbrev cX12_piecesOf : ByteArray := prog_14_method_29_code
def yX12_piecesOf : MethodName := ⟨RX12, "piecesOf", "(I)I"⟩
abbrev cX12_signAt : ByteArray := prog_14_method_30_code
def yX12_signAt : MethodName := ⟨RX12, "signAt", "(I)I"⟩
abbrev cX12_writheOf : ByteArray := prog_14_method_31_code
def yX12_writheOf : MethodName := ⟨RX12, "writheOf", "(I)I"⟩
abbrev cX12_told : ByteArray := prog_14_method_32_code
def yX12_told : MethodName := ⟨RX12, "told", "(II)I"⟩
abbrev cX12_sign : ByteArray := prog_14_method_33_code
def yX12_sign : MethodName := ⟨RX12, "sign", "(II)I"⟩
abbrev cX12_pieceOf : ByteArray := prog_14_method_34_code
def yX12_pieceOf : MethodName := ⟨RX12, "pieceOf", "(II)I"⟩
abbrev cX12_linking : ByteArray := prog_14_method_35_code
def yX12_linking : MethodName := ⟨RX12, "linking", "(III)I"⟩
abbrev cX12_coloursOf : ByteArray := prog_14_method_36_code
def yX12_coloursOf : MethodName := ⟨RX12, "coloursOf", "(II)I"⟩
abbrev cX12_clears : ByteArray := prog_14_method_37_code
def yX12_clears : MethodName := ⟨RX12, "clears", "([IIIIII)V"⟩
abbrev cX12_colours : ByteArray := prog_14_method_38_code
def yX12_colours : MethodName := ⟨RX12, "colours", "(II)I"⟩
abbrev cX12_circlesOf : ByteArray := prog_14_method_39_code
def yX12_circlesOf : MethodName := ⟨RX12, "circlesOf", "(II)I"⟩
abbrev cX12_bracketOf : ByteArray := prog_14_method_40_code
def yX12_bracketOf : MethodName := ⟨RX12, "bracketOf", "(I)V"⟩
abbrev cX12_timesCircle : ByteArray := prog_14_method_41_code
def yX12_timesCircle : MethodName := ⟨RX12, "timesCircle", "()V"⟩
abbrev cX12_polynomialOf : ByteArray := prog_14_method_42_code
def yX12_polynomialOf : MethodName := ⟨RX12, "polynomialOf", "(I)V"⟩
abbrev cX12_spends : ByteArray := prog_14_method_43_code
def yX12_spends : MethodName := ⟨RX12, "spends", "(II)I"⟩
abbrev cX12_shown : ByteArray := prog_14_method_44_code
def yX12_shown : MethodName := ⟨RX12, "shown", "()I"⟩
abbrev cX12_bracket : ByteArray := prog_14_method_45_code
def yX12_bracket : MethodName := ⟨RX12, "bracket", "(I)I"⟩
abbrev cX12_polynomial : ByteArray := prog_14_method_46_code
def yX12_polynomial : MethodName := ⟨RX12, "polynomial", "(I)I"⟩
abbrev cX12_at : ByteArray := prog_14_method_47_code
def yX12_at : MethodName := ⟨RX12, "at", "(I)J"⟩
abbrev cX12_power : ByteArray := prog_14_method_48_code
def yX12_power : MethodName := ⟨RX12, "power", "(I)I"⟩
abbrev cX12_determinant : ByteArray := prog_14_method_49_code
def yX12_determinant : MethodName := ⟨RX12, "determinant", "(I)J"⟩
abbrev cX12_gauss : ByteArray := prog_14_method_50_code
def yX12_gauss : MethodName := ⟨RX12, "gauss", "(I)I"⟩
abbrev cX12_type : ByteArray := prog_14_method_51_code
def yX12_type : MethodName := ⟨RX12, "type", "(I)I"⟩
abbrev cX12_clear : ByteArray := prog_14_method_52_code
def yX12_clear : MethodName := ⟨RX12, "clear", "()I"⟩
abbrev cX12_item : ByteArray := prog_14_method_53_code
def yX12_item : MethodName := ⟨RX12, "item", "(I)I"⟩
abbrev cX12_passes : ByteArray := prog_14_method_54_code
def yX12_passes : MethodName := ⟨RX12, "passes", "()I"⟩
abbrev cX12_readsGauss : ByteArray := prog_14_method_55_code
def yX12_readsGauss : MethodName := ⟨RX12, "readsGauss", "()Z"⟩
abbrev cX12_ofGauss : ByteArray := prog_14_method_56_code
def yX12_ofGauss : MethodName := ⟨RX12, "ofGauss", "()I"⟩
abbrev cX12_free : ByteArray := prog_14_method_57_code
def yX12_free : MethodName := ⟨RX12, "free", "(II)I"⟩
abbrev cX12_joinArcs : ByteArray := prog_14_method_58_code
def yX12_joinArcs : MethodName := ⟨RX12, "joinArcs", "(III)V"⟩
abbrev cX12_takeOut : ByteArray := prog_14_method_59_code
def yX12_takeOut : MethodName := ⟨RX12, "takeOut", "(II)V"⟩
abbrev cX12_isEnd : ByteArray := prog_14_method_60_code
def yX12_isEnd : MethodName := ⟨RX12, "isEnd", "(II)Z"⟩
abbrev cX12_arcAt : ByteArray := prog_14_method_61_code
def yX12_arcAt : MethodName := ⟨RX12, "arcAt", "(I)I"⟩
abbrev cX12_full : ByteArray := prog_14_method_62_code
def yX12_full : MethodName := ⟨RX12, "full", "()I"⟩
abbrev cX12_twist : ByteArray := prog_14_method_63_code
def yX12_twist : MethodName := ⟨RX12, "twist", "(II)I"⟩
abbrev cX12_untwist : ByteArray := prog_14_method_64_code
def yX12_untwist : MethodName := ⟨RX12, "untwist", "(I)I"⟩
abbrev cX12_isOfFace : ByteArray := prog_14_method_65_code
def yX12_isOfFace : MethodName := ⟨RX12, "isOfFace", "(II)Z"⟩
abbrev cX12_poke : ByteArray := prog_14_method_66_code
def yX12_poke : MethodName := ⟨RX12, "poke", "(III)I"⟩
abbrev cX12_unpoke : ByteArray := prog_14_method_67_code
def yX12_unpoke : MethodName := ⟨RX12, "unpoke", "(I)I"⟩
abbrev cX12_slide : ByteArray := prog_14_method_68_code
def yX12_slide : MethodName := ⟨RX12, "slide", "(I)I"⟩
abbrev cX12_goesOver : ByteArray := prog_14_method_69_code
def yX12_goesOver : MethodName := ⟨RX12, "goesOver", "(I)Z"⟩
abbrev cX12_slides : ByteArray := prog_14_method_70_code
def yX12_slides : MethodName := ⟨RX12, "slides", "(I)V"⟩
abbrev cX12_has : ByteArray := prog_14_method_71_code
def yX12_has : MethodName := ⟨RX12, "has", "(II)Z"⟩
abbrev cX12_wayOut : ByteArray := prog_14_method_72_code
def yX12_wayOut : MethodName := ⟨RX12, "wayOut", "(III)I"⟩
abbrev cX12_flype : ByteArray := prog_14_method_73_code
def yX12_flype : MethodName := ⟨RX12, "flype", "(II)I"⟩
abbrev cX12_turnOver : ByteArray := prog_14_method_74_code
def yX12_turnOver : MethodName := ⟨RX12, "turnOver", "(II)V"⟩
abbrev cX12_smooth : ByteArray := prog_14_method_75_code
def yX12_smooth : MethodName := ⟨RX12, "smooth", "(II)I"⟩
abbrev cX12_rotate : ByteArray := prog_14_method_76_code
def yX12_rotate : MethodName := ⟨RX12, "rotate", "(III)I"⟩
abbrev cX12_moved : ByteArray := prog_14_method_77_code
def yX12_moved : MethodName := ⟨RX12, "moved", "(IIII)I"⟩
abbrev cX12_unmoved : ByteArray := prog_14_method_78_code
def yX12_unmoved : MethodName := ⟨RX12, "unmoved", "(III)I"⟩
abbrev cX12_move : ByteArray := prog_14_method_79_code
def yX12_move : MethodName := ⟨RX12, "move", "(IIII)I"⟩
abbrev cX12_isMove : ByteArray := prog_14_method_80_code
def yX12_isMove : MethodName := ⟨RX12, "isMove", "(I)Z"⟩
abbrev cX12_body : ByteArray := prog_14_method_81_code
def yX12_body : MethodName := ⟨RX12, "body", "(I)V"⟩
abbrev cX12_tells : ByteArray := prog_14_method_82_code
def yX12_tells : MethodName := ⟨RX12, "tells", "(II)I"⟩
abbrev cX12_moreOf : ByteArray := prog_14_method_83_code
def yX12_moreOf : MethodName := ⟨RX12, "moreOf", "(I)I"⟩
abbrev cX12_trace : ByteArray := prog_14_method_84_code
def yX12_trace : MethodName := ⟨RX12, "trace", "(I)I"⟩
abbrev cX12_as : ByteArray := prog_14_method_85_code
def yX12_as : MethodName := ⟨RX12, "as", "(II)I"⟩
abbrev cX12_tried : ByteArray := prog_14_method_86_code
def yX12_tried : MethodName := ⟨RX12, "tried", "(IIZ)I"⟩
abbrev cX12_may : ByteArray := prog_14_method_87_code
def yX12_may : MethodName := ⟨RX12, "may", "(II)I"⟩
abbrev cX12_does : ByteArray := prog_14_method_88_code
def yX12_does : MethodName := ⟨RX12, "does", "(II)I"⟩
abbrev cX12_undoes : ByteArray := prog_14_method_89_code
def yX12_undoes : MethodName := ⟨RX12, "undoes", "(II)I"⟩
abbrev cX12_allTurned : ByteArray := prog_14_method_90_code
def yX12_allTurned : MethodName := ⟨RX12, "allTurned", "(IZ)I"⟩
abbrev cX12_mirror : ByteArray := prog_14_method_91_code
def yX12_mirror : MethodName := ⟨RX12, "mirror", "(I)I"⟩
abbrev cX12_turn : ByteArray := prog_14_method_92_code
def yX12_turn : MethodName := ⟨RX12, "turn", "(I)I"⟩
abbrev cX12_undo : ByteArray := prog_14_method_93_code
def yX12_undo : MethodName := ⟨RX12, "undo", "(I)I"⟩
abbrev cX12_twin : ByteArray := prog_14_method_94_code
def yX12_twin : MethodName := ⟨RX12, "twin", "(I)I"⟩
abbrev cX12_join : ByteArray := prog_14_method_95_code
def yX12_join : MethodName := ⟨RX12, "join", "(IIII)I"⟩
abbrev cX12_fresh : ByteArray := prog_14_method_96_code
def yX12_fresh : MethodName := ⟨RX12, "fresh", "()I"⟩
abbrev cX12_walk : ByteArray := prog_14_method_97_code
def yX12_walk : MethodName := ⟨RX12, "walk", "(III)I"⟩
abbrev cX12_compare : ByteArray := prog_14_method_98_code
def yX12_compare : MethodName := ⟨RX12, "compare", "([III[III)I"⟩
abbrev cX12_codeInto : ByteArray := prog_14_method_99_code
def yX12_codeInto : MethodName := ⟨RX12, "codeInto", "(I[II)V"⟩
abbrev cX12_sortInto : ByteArray := prog_14_method_100_code
def yX12_sortInto : MethodName := ⟨RX12, "sortInto", "(I[III)V"⟩
abbrev cX12_areAlike : ByteArray := prog_14_method_101_code
def yX12_areAlike : MethodName := ⟨RX12, "areAlike", "([II[II)Z"⟩
abbrev cX12_like : ByteArray := prog_14_method_102_code
def yX12_like : MethodName := ⟨RX12, "like", "(II)I"⟩
abbrev cX12_beginSearch : ByteArray := prog_14_method_103_code
def yX12_beginSearch : MethodName := ⟨RX12, "beginSearch", "(I)V"⟩
abbrev cX12_stepped : ByteArray := prog_14_method_104_code
def yX12_stepped : MethodName := ⟨RX12, "stepped", "(I)I"⟩
abbrev cX12_kept : ByteArray := prog_14_method_105_code
def yX12_kept : MethodName := ⟨RX12, "kept", "(I)Z"⟩
abbrev cX12_goes : ByteArray := prog_14_method_106_code
def yX12_goes : MethodName := ⟨RX12, "goes", "(IZ)I"⟩
abbrev cX12_search : ByteArray := prog_14_method_107_code
def yX12_search : MethodName := ⟨RX12, "search", "(II)I"⟩
abbrev cX12_goOn : ByteArray := prog_14_method_108_code
def yX12_goOn : MethodName := ⟨RX12, "goOn", "(I)I"⟩
abbrev cX12_fewest : ByteArray := prog_14_method_109_code
def yX12_fewest : MethodName := ⟨RX12, "fewest", "()I"⟩
abbrev cX12_searched : ByteArray := prog_14_method_110_code
def yX12_searched : MethodName := ⟨RX12, "searched", "(I)I"⟩
abbrev cX12_waysTo : ByteArray := prog_14_method_111_code
def yX12_waysTo : MethodName := ⟨RX12, "waysTo", "(I)V"⟩
abbrev cX12_fewer : ByteArray := prog_14_method_112_code
def yX12_fewer : MethodName := ⟨RX12, "fewer", "()I"⟩
abbrev cX12_partsBy : ByteArray := prog_14_method_113_code
def yX12_partsBy : MethodName := ⟨RX12, "partsBy", "(II)I"⟩
abbrev cX12_polynomialsPart : ByteArray := prog_14_method_114_code
def yX12_polynomialsPart : MethodName := ⟨RX12, "polynomialsPart", "(II)Z"⟩
abbrev cX12_same : ByteArray := prog_14_method_115_code
def yX12_same : MethodName := ⟨RX12, "same", "(III)I"⟩
abbrev cX12_parted : ByteArray := prog_14_method_116_code
def yX12_parted : MethodName := ⟨RX12, "parted", "()I"⟩
abbrev cX12_way : ByteArray := prog_14_method_117_code
def yX12_way : MethodName := ⟨RX12, "way", "(I)I"⟩
abbrev cX12_check : ByteArray := prog_14_method_118_code
def yX12_check : MethodName := ⟨RX12, "check", "(I)I"⟩
abbrev cX12_named : ByteArray := prog_14_method_119_code
def yX12_named : MethodName := ⟨RX12, "named", "()I"⟩
abbrev cX12_book : ByteArray := prog_14_method_120_code
def yX12_book : MethodName := ⟨RX12, "book", "(IJ)I"⟩
abbrev cX12_name : ByteArray := prog_14_method_121_code
def yX12_name : MethodName := ⟨RX12, "name", "(I)J"⟩
abbrev cX12_count : ByteArray := prog_14_method_122_code
def yX12_count : MethodName := ⟨RX12, "count", "(I)I"⟩
abbrev cX12_findings : ByteArray := prog_14_method_123_code
def yX12_findings : MethodName := ⟨RX12, "findings", "(I)I"⟩
abbrev cX12_status : ByteArray := prog_14_method_124_code
def yX12_status : MethodName := ⟨RX12, "status", "()I"⟩
abbrev cX12_digest : ByteArray := prog_14_method_125_code
def yX12_digest : MethodName := ⟨RX12, "digest", "()J"⟩
def RJ9 : String := "java/lang/Math"
def TJ9 : u_T := fun k => match k with
  | _ => ("", "", "", false)
def tyJ9 : Nat → FieldType := fun k => match k with
  | _ => .int
abbrev wsJ90 : List Cond := u_ws RJ9 TJ9 0
theorem nmJ9 : ∀ a, a < 0 → ∀ b, b < 0 → a ≠ b → (TJ9 a).2.1 ≠ (TJ9 b).2.1 := by decide +kernel
theorem tyJ9_ok : ∀ k, k < 0 → parseFieldDescriptor (TJ9 k).2.2.1 = some (tyJ9 k) := by decide +kernel
abbrev cJ9_floorMod_7cf53 : ByteArray := prog_15_method_50_code
def yJ9_floorMod_7cf53 : MethodName := ⟨RJ9, "floorMod", "(II)I"⟩
abbrev cJ9_abs_067f4 : ByteArray := prog_15_method_61_code
def yJ9_abs_067f4 : MethodName := ⟨RJ9, "abs", "(J)J"⟩
abbrev cJ9_max_7cf53 : ByteArray := prog_15_method_65_code
def yJ9_max_7cf53 : MethodName := ⟨RJ9, "max", "(II)I"⟩
abbrev cJ9_min_7cf53 : ByteArray := prog_15_method_69_code
def yJ9_min_7cf53 : MethodName := ⟨RJ9, "min", "(II)I"⟩
def RJ10 : String := "java/lang/System"
def TJ10 : u_T := fun k => match k with
  | _ => ("", "", "", false)
def tyJ10 : Nat → FieldType := fun k => match k with
  | _ => .int
abbrev wsJ100 : List Cond := u_ws RJ10 TJ10 0
theorem nmJ10 : ∀ a, a < 0 → ∀ b, b < 0 → a ≠ b → (TJ10 a).2.1 ≠ (TJ10 b).2.1 := by decide +kernel
theorem tyJ10_ok : ∀ k, k < 0 → parseFieldDescriptor (TJ10 k).2.2.1 = some (tyJ10 k) := by decide +kernel
def RJ7 : String := "java/util/Arrays"
def TJ7 : u_T := fun k => match k with
  | _ => ("", "", "", false)
def tyJ7 : Nat → FieldType := fun k => match k with
  | _ => .int
abbrev wsJ70 : List Cond := u_ws RJ7 TJ7 0
theorem nmJ7 : ∀ a, a < 0 → ∀ b, b < 0 → a ≠ b → (TJ7 a).2.1 ≠ (TJ7 b).2.1 := by decide +kernel
theorem tyJ7_ok : ∀ k, k < 0 → parseFieldDescriptor (TJ7 k).2.2.1 = some (tyJ7 k) := by decide +kernel
abbrev cJ7_rangeCheck_23922 : ByteArray := prog_17_method_30_code
def yJ7_rangeCheck_23922 : MethodName := ⟨RJ7, "rangeCheck", "(III)V"⟩
abbrev cJ7_fill_d0a16 : ByteArray := prog_17_method_101_code
def yJ7_fill_d0a16 : MethodName := ⟨RJ7, "fill", "([JJ)V"⟩
abbrev cJ7_fill_53178 : ByteArray := prog_17_method_103_code
def yJ7_fill_53178 : MethodName := ⟨RJ7, "fill", "([II)V"⟩
abbrev cJ7_fill_fda19 : ByteArray := prog_17_method_104_code
def yJ7_fill_fda19 : MethodName := ⟨RJ7, "fill", "([IIII)V"⟩
def RL : String := "KnotTableLaw"
abbrev cL_law : ByteArray := code
def yL_law : MethodName := ⟨RL, "law", "([I)Z"⟩
end
section
/-! The words of the tables that the walk uses, and that they go along with the state. -/
def tw_k : Cond → Bool
  | .methodLink _ _ _ => true
  | .code _ _ _ _ => true
  | .instanceMethod _ => true
  | .selects _ _ _ => true
  | .fieldLink _ _ _ _ _ => true
  | .laysFinal _ _ _ _ => true
  | .lays _ _ _ _ => true
  | .static _ => true
  | .classLink _ _ _ => true
  | .initialized _ => true
  | .constantLong _ _ _ => true
  | .constant _ _ _ => true
  | .instantiable _ _ => true
  | .native _ => true
  | .arrayClass _ => true
  | .fieldLinkNest _ _ _ _ _ _ => true
  | .methodLinkNest _ _ _ _ => true
  | .arrayOver _ => true
  | _ => false
def tw_n : Cond → Bool
  | .fieldLinkNest _ _ _ _ _ _ => true
  | .methodLinkNest _ _ _ _ => true
  | _ => false
def tw_o : Cond → Bool
  | .arrayOver _ => true
  | _ => false
def tw_l : List Cond := lw_tbl.filter tw_k
theorem tw_ok : lw_tbl.all (fun w => !(tw_k w) || (tw_n w || (tw_o w || goodWord w))) = true := by decide +kernel
theorem tw_ont {w : Cond} (h : tw_k w = true) : w.onTables = true ∨ (∃ ty, w = .arrayClass ty) ∨ ∃ ty, w = .arrayOver ty := by
  cases w <;> first | exact Or.inl rfl | exact Or.inr (Or.inl ⟨_, rfl⟩) | exact Or.inr (Or.inr ⟨_, rfl⟩) | (simp [tw_k] at h)
def tw_T (U : State) : Prop := ∀ w ∈ tw_l, ∀ a : Array Value, w.before a U = true
end
section
/-! the thirteen classes, by number -/
def kt_R : Nat → String := fun c => match c with
  | 0 => RX0
  | 1 => RX1
  | 2 => RX2
  | 3 => RX3
  | 4 => RX4
  | 5 => RX5
  | 6 => RX6
  | 7 => RX7
  | 8 => RX8
  | 9 => RX9
  | 10 => RX10
  | 11 => RX11
  | 12 => RX12
  | _ => ""
def kt_T : Nat → u_T := fun c => match c with
  | 0 => TX0
  | 1 => TX1
  | 2 => TX2
  | 3 => TX3
  | 4 => TX4
  | 5 => TX5
  | 6 => TX6
  | 7 => TX7
  | 8 => TX8
  | 9 => TX9
  | 10 => TX10
  | 11 => TX11
  | 12 => TX12
  | _ => TX0
def kt_ty : Nat → (Nat → FieldType) := fun c => match c with
  | 0 => tyX0
  | 1 => tyX1
  | 2 => tyX2
  | 3 => tyX3
  | 4 => tyX4
  | 5 => tyX5
  | 6 => tyX6
  | 7 => tyX7
  | 8 => tyX8
  | 9 => tyX9
  | 10 => tyX10
  | 11 => tyX11
  | 12 => tyX12
  | _ => tyX0
def kt_N : Nat → Nat := fun c => match c with
  | 0 => 3
  | 1 => 3
  | 2 => 3
  | 3 => 4
  | 4 => 18
  | 5 => 4
  | 6 => 2
  | 7 => 7
  | 8 => 16
  | 9 => 4
  | 10 => 7
  | 11 => 20
  | 12 => 65
  | _ => 0
theorem kt_c13 {P : Nat → Prop} (h0 : P 0) (h1 : P 1) (h2 : P 2) (h3 : P 3) (h4 : P 4) (h5 : P 5) (h6 : P 6) (h7 : P 7) (h8 : P 8) (h9 : P 9) (h10 : P 10) (h11 : P 11) (h12 : P 12) : ∀ c, c < 13 → P c := by
  intro c hc
  match c, hc with
  | 0, _ => exact h0
  | 1, _ => exact h1
  | 2, _ => exact h2
  | 3, _ => exact h3
  | 4, _ => exact h4
  | 5, _ => exact h5
  | 6, _ => exact h6
  | 7, _ => exact h7
  | 8, _ => exact h8
  | 9, _ => exact h9
  | 10, _ => exact h10
  | 11, _ => exact h11
  | 12, _ => exact h12
  | n + 13, h => exact absurd h (by omega)
theorem kt_tyok : ∀ c, c < 13 → ∀ k, k < kt_N c → parseFieldDescriptor (kt_T c k).2.2.1 = some (kt_ty c k) := kt_c13 tyX0_ok tyX1_ok tyX2_ok tyX3_ok tyX4_ok tyX5_ok tyX6_ok tyX7_ok tyX8_ok tyX9_ok tyX10_ok tyX11_ok tyX12_ok
theorem kt_nm : ∀ c, c < 13 → ∀ a, a < kt_N c → ∀ b, b < kt_N c → a ≠ b → (kt_T c a).2.1 ≠ (kt_T c b).2.1 := kt_c13 nmX0 nmX1 nmX2 nmX3 nmX4 nmX5 nmX6 nmX7 nmX8 nmX9 nmX10 nmX11 nmX12
theorem kt_in0 : ∀ w ∈ u_ws RX0 TX0 3, w ∈ tw_l := by decide +kernel
theorem kt_in1 : ∀ w ∈ u_ws RX1 TX1 3, w ∈ tw_l := by decide +kernel
theorem kt_in2 : ∀ w ∈ u_ws RX2 TX2 3, w ∈ tw_l := by decide +kernel
theorem kt_in3 : ∀ w ∈ u_ws RX3 TX3 4, w ∈ tw_l := by decide +kernel
theorem kt_in4 : ∀ w ∈ u_ws RX4 TX4 18, w ∈ tw_l := by decide +kernel
theorem kt_in5 : ∀ w ∈ u_ws RX5 TX5 4, w ∈ tw_l := by decide +kernel
theorem kt_in6 : ∀ w ∈ u_ws RX6 TX6 2, w ∈ tw_l := by decide +kernel
theorem kt_in7 : ∀ w ∈ u_ws RX7 TX7 7, w ∈ tw_l := by decide +kernel
theorem kt_in8 : ∀ w ∈ u_ws RX8 TX8 16, w ∈ tw_l := by decide +kernel
theorem kt_in9 : ∀ w ∈ u_ws RX9 TX9 4, w ∈ tw_l := by decide +kernel
theorem kt_in10 : ∀ w ∈ u_ws RX10 TX10 7, w ∈ tw_l := by decide +kernel
theorem kt_in11 : ∀ w ∈ u_ws RX11 TX11 20, w ∈ tw_l := by decide +kernel
theorem kt_in12 : ∀ w ∈ u_ws RX12 TX12 65, w ∈ tw_l := by decide +kernel
theorem kt_in : ∀ c, c < 13 → ∀ w ∈ u_ws (kt_R c) (kt_T c) (kt_N c), w ∈ tw_l := kt_c13 kt_in0 kt_in1 kt_in2 kt_in3 kt_in4 kt_in5 kt_in6 kt_in7 kt_in8 kt_in9 kt_in10 kt_in11 kt_in12
theorem kt_dc : ∀ c, c < 13 → ∀ k, k < kt_N c → (kt_T c k).1 = kt_R c := by decide +kernel
end
section
/-! The abstract heap: cells by number; a cell's kind and what it holds.
    kinds: (0, n) int[n], (1, n) boolean[n], (2, n) long[n], (3, n) int[n][], (4 + c, n) an array of n references to class c, (20 + c, _) an object of class c.
    ah_n how many, ah_k kinds, ah_f int and boolean fields, ah_r reference fields, ah_i int and boolean arrays, ah_l long arrays, ah_q arrays of references -/
abbrev AH : Type := Nat × (Nat → Nat × Nat) × (Nat → Nat → Int32) × (Nat → Nat → Option Nat) × (Nat → Nat → Int32) × (Nat → Nat → Int64) × (Nat → Nat → Option Nat)
def ah_mk (n : Nat) (k : Nat → Nat × Nat) (f : Nat → Nat → Int32) (r : Nat → Nat → Option Nat) (i : Nat → Nat → Int32) (l : Nat → Nat → Int64) (q : Nat → Nat → Option Nat) : AH := (n, k, f, r, i, l, q)
def ah_n (h : AH) : Nat := h.1
def ah_k (h : AH) : Nat → Nat × Nat := h.2.1
def ah_f (h : AH) : Nat → Nat → Int32 := h.2.2.1
def ah_r (h : AH) : Nat → Nat → Option Nat := h.2.2.2.1
def ah_i (h : AH) : Nat → Nat → Int32 := h.2.2.2.2.1
def ah_l (h : AH) : Nat → Nat → Int64 := h.2.2.2.2.2.1
def ah_q (h : AH) : Nat → Nat → Option Nat := h.2.2.2.2.2.2
/-- f, but v at k -/
def u1 {α : Type} (f : Nat → α) (k : Nat) (v : α) : Nat → α := fun j => if j = k then v else f j
theorem u1_s {α : Type} (f : Nat → α) (k : Nat) (v : α) : u1 f k v k = v := if_pos rfl
theorem u1_n {α : Type} (f : Nat → α) {k j : Nat} (v : α) (h : j ≠ k) : u1 f k v j = f j := if_neg h
theorem u1_u {α : Type} (f : Nat → α) (k : Nat) (v w : α) : u1 (u1 f k v) k w = u1 f k w := by
  funext j
  unfold u1
  split <;> rfl
theorem u1_e {α : Type} (f : Nat → α) (k : Nat) : u1 f k (f k) = f := by
  funext j
  unfold u1
  split
  · next h => rw [h]
  · rfl
def ah_sf (h : AH) (a k : Nat) (v : Int32) : AH := ah_mk (ah_n h) (ah_k h) (u1 (ah_f h) a (u1 (ah_f h a) k v)) (ah_r h) (ah_i h) (ah_l h) (ah_q h)
def ah_sr (h : AH) (a k : Nat) (v : Option Nat) : AH := ah_mk (ah_n h) (ah_k h) (ah_f h) (u1 (ah_r h) a (u1 (ah_r h a) k v)) (ah_i h) (ah_l h) (ah_q h)
/-- a whole array anew -/
def ah_wi (h : AH) (a : Nat) (f : Nat → Int32) : AH := ah_mk (ah_n h) (ah_k h) (ah_f h) (ah_r h) (u1 (ah_i h) a f) (ah_l h) (ah_q h)
def ah_wl (h : AH) (a : Nat) (f : Nat → Int64) : AH := ah_mk (ah_n h) (ah_k h) (ah_f h) (ah_r h) (ah_i h) (u1 (ah_l h) a f) (ah_q h)
def ah_wq (h : AH) (a : Nat) (f : Nat → Option Nat) : AH := ah_mk (ah_n h) (ah_k h) (ah_f h) (ah_r h) (ah_i h) (ah_l h) (u1 (ah_q h) a f)
def ah_si (h : AH) (a k : Nat) (v : Int32) : AH := ah_wi h a (u1 (ah_i h a) k v)
def ah_sl (h : AH) (a k : Nat) (v : Int64) : AH := ah_wl h a (u1 (ah_l h a) k v)
def ah_sq (h : AH) (a k : Nat) (v : Option Nat) : AH := ah_wq h a (u1 (ah_q h a) k v)
/-- a new object of class c, a new array of kind t -/
def ah_no (h : AH) (c : Nat) : AH := ah_mk (ah_n h + 1) (u1 (ah_k h) (ah_n h) (20 + c, 0)) (u1 (ah_f h) (ah_n h) (fun _ => 0)) (u1 (ah_r h) (ah_n h) (fun _ => none)) (ah_i h) (ah_l h) (ah_q h)
def ah_na (h : AH) (t n : Nat) : AH := ah_mk (ah_n h + 1) (u1 (ah_k h) (ah_n h) (t, n)) (ah_f h) (ah_r h) (u1 (ah_i h) (ah_n h) (fun _ => 0)) (u1 (ah_l h) (ah_n h) (fun _ => 0)) (u1 (ah_q h) (ah_n h) (fun _ => none))
/-- the ghosts: where the walk's cells begin, the classes' numbers and slots, the arrays' classes by kind, the three old arrays (script, COLOUR_COUNTS, PARENTS: 10000000 and on) -/
abbrev GD : Type := Nat × (Nat → ClassId) × (Nat → Nat → Nat) × (Nat → ClassId) × (Nat → Nat)
def gd_b (g : GD) : Nat := g.1
def gd_c (g : GD) : Nat → ClassId := g.2.1
def gd_s (g : GD) : Nat → Nat → Nat := g.2.2.1
def gd_a (g : GD) : Nat → ClassId := g.2.2.2.1
def gd_o (g : GD) : Nat → Nat := g.2.2.2.2
def gd_A (g : GD) : Nat → Prop := fun q => gd_b g ≤ q
def ad (g : GD) (i : Nat) : Nat := if i < 10000000 then gd_b g + i else gd_o g (i - 10000000)
def cv (g : GD) : Value → Value
  | .ref i => .ref (ad g i)
  | v => v
def cr (g : GD) (r : Option Nat) : Value := va_rf (r.map (ad g))
def rv (r : Option Nat) : Value := va_rf r
theorem cv_rv (g : GD) (r : Option Nat) : cv g (rv r) = cr g r := by cases r <;> rfl
def at_ty : Nat → FieldType := fun t => match t with
  | 0 => .int
  | 1 => .boolean
  | 2 => .long
  | 3 => .array .int
  | t + 4 => .object (kt_R t)
def at_tags : List Nat := [0, 1, 2, 3, 6, 9, 11, 14]
def ce_v (g : GD) (h : AH) (i c k : Nat) : Value := if (kt_ty c k).isReference = true then cr g (ah_r h i k) else .int (ah_f h i k)
def ce (g : GD) (h : AH) (i : Nat) (H : Heap) : Prop :=
  if (ah_k h i).1 ≤ 1 then H[gd_b g + i]? = some (arrV (gd_a g (ah_k h i).1) (ah_k h i).2 (fun j => .int (ah_i h i j)))
  else if (ah_k h i).1 = 2 then H[gd_b g + i]? = some (arrV (gd_a g 2) (ah_k h i).2 (fun j => .long (ah_l h i j)))
  else if (ah_k h i).1 < 20 then H[gd_b g + i]? = some (arrV (gd_a g (ah_k h i).1) (ah_k h i).2 (fun j => cr g (ah_q h i j)))
  else (ah_k h i).1 - 20 < 13 ∧ t_OB (gd_b g + i) (gd_c g ((ah_k h i).1 - 20)) (kt_N ((ah_k h i).1 - 20)) (gd_s g ((ah_k h i).1 - 20)) H (ce_v g h i ((ah_k h i).1 - 20))
def HR (g : GD) (h : AH) (H : Heap) : Prop := H.size = gd_b g + ah_n h ∧ ah_n h ≤ 10000000 ∧ ∀ i, i < ah_n h → ce g h i H
def OL (g : GD) (h : AH) (U : State) (H : Heap) : Prop := ∀ j, j < 3 → gd_o g j < gd_b g ∧ (ah_k h (10000000 + j)).1 = 0 ∧ va_X (gd_o g j) (ah_k h (10000000 + j)).2 (ah_i h (10000000 + j)) U H
def ZZ (g : GD) (U : State) (H : Heap) : Prop := va_Z RX11 "COLOUR_COUNTS" "[I" (.ref (gd_o g 1)) (gd_A g) U H ∧ va_Z RX5 "PARENTS" "[I" (.ref (gd_o g 2)) (gd_A g) U H
def KK (g : GD) (U : State) : Prop := (∀ c, c < 13 → u_Kn U (kt_R c) (kt_T c) (kt_N c) (gd_c g c) (gd_s g c)) ∧ (∀ t ∈ at_tags, ArrOfT U (gd_a g t) (at_ty t) ∧ va_RA U (gd_a g t) (at_ty t)) ∧ ∃ kA kC : Class, U.vm.classes[gd_a g 3]? = some kA ∧ kA.kind = .array (gd_a g 0) (.array .int) ∧ U.vm.classes[gd_a g 0]? = some kC ∧ U.vm.assignable (gd_a g 0) (gd_a g 0) = true
theorem ce_kept {g : GD} {h : AH} {i : Nat} {H H1 : Heap} (hc : ce g h i H) (hq : H1[gd_b g + i]? = H[gd_b g + i]?) : ce g h i H1 := by
  unfold ce at hc ⊢
  split at hc
  · next a => rw [if_pos a, hq]; exact hc
  · next a =>
    rw [if_neg a]
    split at hc
    · next b => rw [if_pos b, hq]; exact hc
    · next b =>
      rw [if_neg b]
      split at hc
      · next c => rw [if_pos c, hq]; exact hc
      · next c => rw [if_neg c]; exact ⟨hc.1, hc.2.kept hq⟩
/-- a cell that two abstract heaps hold alike -/
theorem ce_same {g : GD} {h h1 : AH} {i : Nat} {H : Heap} (hc : ce g h i H) (hk : ah_k h1 i = ah_k h i) (hf : ah_f h1 i = ah_f h i) (hr : ah_r h1 i = ah_r h i) (hi : ah_i h1 i = ah_i h i) (hl : ah_l h1 i = ah_l h i) (hq : ah_q h1 i = ah_q h i) : ce g h1 i H := by
  have e : ∀ c k, ce_v g h1 i c k = ce_v g h i c k := fun c k => by unfold ce_v; rw [hf, hr]
  have e2 : ∀ c, ce_v g h1 i c = ce_v g h i c := fun c => funext (e c)
  unfold ce at hc ⊢
  rw [hk, hi, hl, hq, e2]
  exact hc
theorem OL.moved {g : GD} {h : AH} {u U : State} {H : Heap} (hvm : u.vm.Alike U.vm) (x : OL g h u H) : OL g h U H := fun j hj => ⟨(x j hj).1, (x j hj).2.1, (x j hj).2.2.moved hvm⟩
theorem OL.kept {g : GD} {h : AH} {U : State} {H H1 : Heap} (x : OL g h U H) (hq : ∀ q, q < gd_b g → H1[q]? = H[q]?) : OL g h U H1 := fun j hj => ⟨(x j hj).1, (x j hj).2.1, (x j hj).2.2.kept (hq _ (x j hj).1)⟩
theorem OL.same {g : GD} {h h1 : AH} {U : State} {H : Heap} (x : OL g h U H) (hk : ∀ j, j < 3 → ah_k h1 (10000000 + j) = ah_k h (10000000 + j)) (hi : ∀ j, j < 3 → ah_i h1 (10000000 + j) = ah_i h (10000000 + j)) : OL g h1 U H := fun j hj => by
  obtain ⟨a, b, c⟩ := x j hj
  exact ⟨a, by rw [hk j hj]; exact b, by rw [hk j hj, hi j hj]; exact c⟩
theorem ZZ.moved {g : GD} {u U : State} {H : Heap} (hvm : u.vm.Alike U.vm) (x : ZZ g u H) : ZZ g U H := ⟨x.1.moved hvm, x.2.moved hvm⟩
theorem ZZ.kept {g : GD} {U : State} {H H1 : Heap} (x : ZZ g U H) (hq : ∀ q, q < gd_b g → H1[q]? = H[q]?) : ZZ g U H1 := ⟨x.1.kept (fun a _ h => hq a (Nat.not_le.mp h)), x.2.kept (fun a _ h => hq a (Nat.not_le.mp h))⟩
theorem KK.moved {g : GD} {u U : State} (hvm : u.vm.Alike U.vm) (x : KK g u) : KK g U := by
  obtain ⟨a, b, kA, kC, c1, c2, c3, c4⟩ := x
  obtain ⟨kA', hA, eA⟩ := hvm.2.2 _ _ c1
  obtain ⟨kC', hC, eC⟩ := hvm.2.2 _ _ c3
  exact ⟨fun c hc => u_Kn_moved hvm (a c hc), fun t ht => ⟨arrOfT_moved hvm (b t ht).1, (b t ht).2.moved hvm⟩, kA', kC', hA, by rw [eA]; exact c2, hC, by rw [hvm.assignable]; exact c4⟩
theorem ao_idx (vm : Vm) (comp : ClassId) : (vm.bare.classes.findIdx? fun (x : Class) => match x.kind with | .array component _ => component == comp | _ => false) = (vm.classes.findIdx? fun (x : Class) => match x.kind with | .array component _ => component == comp | _ => false) := by
  simp only [Vm.bare, Array.findIdx?_map]
  rfl
theorem ao_spec {args : Array Value} {s : State} {t : FieldType} (h : (Cond.arrayOver (.array t)).before args s = true) : ∃ (comp c : ClassId) (k : Class), s.vm.findClass (FieldType.array t).toString = some comp ∧ (s.vm.classes.findIdx? fun (x : Class) => match x.kind with | .array component _ => component == comp | _ => false) = some c ∧ s.vm.classes[c]? = some k ∧ k.kind = .array comp (.array t) ∧ s.vm.findClass ("[" ++ (FieldType.array t).toString) = some c := by
  simp only [Cond.before, Cond.holds, Cond.value, beq_iff_eq] at h
  cases hc : s.vm.findClass (FieldType.array t).toString with
  | none => simp [hc] at h
  | some comp =>
    simp only [hc, Option.bind_some, Option.bind_eq_some_iff, Option.map_eq_some_iff] at h
    obtain ⟨c, hi, k, hk, hb⟩ := h
    obtain ⟨hlt, hp, -⟩ := Array.findIdx?_eq_some_iff_getElem.mp hi
    have hkk : s.vm.classes[c] = k := (Array.getElem?_eq_some_iff.mp hk).2
    rw [hkk] at hp
    cases hkind : k.kind with
    | array component ty =>
      rw [hkind] at hb hp
      simp at hb hp
      exact ⟨comp, c, k, rfl, hi, hk, by rw [hkind, hp, hb.1], hb.2⟩
    | _ =>
      rw [hkind] at hb
      simp at hb
theorem ao_moved {ty : FieldType} {u U : State} {a a' : Array Value} (hvm : u.vm.Alike U.vm) (h : (Cond.arrayOver ty).before a u = true) : (Cond.arrayOver ty).before a' U = true := by
  cases ty with
  | object C => exact va_AO.use (va_AO.moved hvm (va_AO.of h))
  | array t =>
    obtain ⟨comp, c, k, h1, h2, h3, h4, h5⟩ := ao_spec h
    obtain ⟨k', hk', he⟩ := hvm.2.2 _ _ h3
    have hi : (U.vm.classes.findIdx? fun (x : Class) => match x.kind with | .array component _ => component == comp | _ => false) = some c := by
      refine (ao_idx U.vm comp).symm.trans ?_
      rw [hvm.bare_eq]
      exact (ao_idx u.vm comp).trans h2
    have hkind : k'.kind = .array comp (.array t) := by rw [he]; exact h4
    have f1 : U.vm.findClass (FieldType.array t).toString = some comp := by rw [hvm.findClass]; exact h1
    have f2 : U.vm.findClass ("[" ++ (FieldType.array t).toString) = some c := by rw [hvm.findClass]; exact h5
    unfold Cond.before Cond.holds
    simp only [Cond.value]
    rw [f1, Option.bind_some]
    refine (congrArg (fun o : Option Nat => (o.bind (fun c => (U.vm.classes[c]?).map fun (k : Class) => match k.kind with | .array _ ty => decide (ty = FieldType.array t) && decide (U.vm.findClass ("[" ++ (FieldType.array t).toString) = some c) | _ => false) == some true)) hi).trans ?_
    simp [hk', hkind, f2]
  | _ => simp [Cond.before, Cond.holds, Cond.value] at h
theorem tw_moved {u U : State} (hW : u.WarmedH U.vm) (x : tw_T u) : tw_T U := by
  intro w hw a
  have hk : tw_k w = true := (List.mem_filter.mp hw).2
  have h1 := List.all_eq_true.mp tw_ok w (List.mem_filter.mp hw).1
  rw [hk] at h1
  simp only [Bool.not_true, Bool.false_or, Bool.or_eq_true] at h1
  rcases h1 with h1 | h1 | h1
  · cases w <;> first | (exact va_Nw.use rfl (va_Nw.warmF hW (va_Nw.of rfl (x _ hw #[])))) | (exact va_Nw.use rfl (va_Nw.warmM hW (va_Nw.of rfl (x _ hw #[])))) | (simp [tw_n] at h1)
  · cases w with
    | arrayOver ty => exact ao_moved hW.alike (x _ hw #[])
    | _ => simp [tw_o] at h1
  · exact word_at hW (good_of_word h1) (x w hw #[])
end
section
/-! The walk over the abstract heap. A method: (class, code, locals, what it returns, its name). -/
abbrev MM : Type := String × ByteArray × Nat × Option FieldType × String
def tw_i (g : GD) (h : AH) (U : State) : Prop := tw_T U ∧ KK g U ∧ HR g h U.heap ∧ OL g h U U.heap ∧ ZZ g U U.heap
/-- what a method leaves: its answer, the heap behind it, nothing old changed -/
def ex_Q (g : GD) (Q : Option Value → AH → Prop) : Array Value → State → Outcome → State → Prop := fun _ st o t => ∃ (r : Option Value) (h : AH), o = .returned (r.map (cv g)) ∧ Q r h ∧ HR g h t.heap ∧ OL g h t t.heap ∧ st.heap.size ≤ t.heap.size ∧ ∀ q, q < gd_b g → t.heap[q]? = st.heap[q]?
def ex_F (M : MM) (g : GD) (p : Program) (s : State) (m : MethodId) (args : Array Value) (meth : Method) (c : Code) : Prop :=
  p.tables.exec = Jvm.exec ∧ c.code = M.2.1 ∧ c.maxLocals = M.2.2.1 ∧ s.vm.findClass M.1 = some m.cls ∧ tw_T s ∧ meth.sig.returnType = M.2.2.2.1 ∧ meth.locks = false ∧ meth.name = M.2.2.2.2 ∧ KK g s ∧ ZZ g s s.heap ∧ gd_b g ≤ s.heap.size
/-- the locals by their places; a retAddr stands for one that isn't known -/
def ex_lp : Nat → List Value → List (Nat × Value)
  | _, [] => []
  | i, v :: t => match v with
    | .retAddr _ => ex_lp (i + 1) t
    | v => (i, v) :: ex_lp (i + 1) t
def ex_G (M : MM) (d pc : Nat) (ls st : List Value) (h : AH) (bc bs : Nat) (Q : Option Value → AH → Prop) : Prop :=
  ∀ (g : GD) (p : Program) (l : Launch) (e : Env) (R : Room) (s : State) (m : MethodId) (args : Array Value) (below : List Frame) (meth : Method) (c : Code) (H : Heap) (locs : List Loc) (cells slots : Nat) (lsA : Array Slot),
    ex_F M g p s m args meth c → HR g h H → OL g h s H → va_S (gd_A g) s.heap H locs → lv_has lsA M.2.2.1 (ex_lp 0 (ls.map (cv g))) → d ≤ R.frames → 200 * d ≤ R.locals → cells + bc ≤ R.cells → slots + bs ≤ R.slots →
    W p l e R s m args below meth c H locs cells slots (MQ below (ex_Q g Q) args s R.cells R.slots (gd_A g)) (F0 m pc lsA (st.map (cv g)))
def ex_S (y : MethodName) (M : MM) (d : Nat) (vs : List Value) (h : AH) (bc bs : Nat) (Q : Option Value → AH → Prop) : Prop :=
  ∀ (g : GD) (l : Launch), Met l y [Cond.code y M.2.1 M.2.2.1 M.2.2.2.1] { frames := d, cells := bc, slots := bs, locals := 200 * d } (va_Pc (vs.map (cv g)) (tw_i g h)) (ex_Q g Q) bc bs (gd_A g)
theorem ex_Q.mono {g : GD} {Q Q' : Option Value → AH → Prop} (hQ : ∀ r h, Q r h → Q' r h) {a : Array Value} {st t : State} {o : Outcome} (x : ex_Q g Q a st o t) : ex_Q g Q' a st o t := by
  obtain ⟨r, h, e, q, k⟩ := x
  exact ⟨r, h, e, hQ r h q, k⟩
theorem ex_G.mono {M : MM} {d pc : Nat} {ls st : List Value} {h : AH} {bc bs : Nat} {Q Q' : Option Value → AH → Prop} (hQ : ∀ r h, Q r h → Q' r h) (x : ex_G M d pc ls st h bc bs Q) : ex_G M d pc ls st h bc bs Q' := by
  intro g p l e R s m args below meth c H locs cells slots lsA f1 f2 f3 f4 f5 f6 f7 f8 f9 T hT X
  obtain ⟨t, a, o, b1, b2, b3, b4⟩ := x g p l e R s m args below meth c H locs cells slots lsA f1 f2 f3 f4 f5 f6 f7 f8 f9 T hT X
  exact ⟨t, a, o, b1, b2, b3.mono hQ, b4⟩
/-- a smaller need of room serves where more is left -/
theorem ex_G.room {M : MM} {d d' pc : Nat} {ls st : List Value} {h : AH} {bc bs bc' bs' : Nat} {Q : Option Value → AH → Prop} (hd : d' ≤ d) (hc : bc' ≤ bc) (hs : bs' ≤ bs) (x : ex_G M d' pc ls st h bc' bs' Q) : ex_G M d pc ls st h bc bs Q := by
  intro g p l e R s m args below meth c H locs cells slots lsA f1 f2 f3 f4 f5 f6 f7 f8 f9
  exact x g p l e R s m args below meth c H locs cells slots lsA f1 f2 f3 f4 f5 (by omega) (by omega) (by omega) (by omega)
def ex_nr : Value → Bool
  | .retAddr _ => false
  | _ => true
theorem ex_nr_cv (g : GD) (v : Value) : ex_nr (cv g v) = ex_nr v := by cases v <;> rfl
theorem cv_cat (g : GD) (v : Value) : (cv g v).category = v.category := by cases v <;> rfl
theorem ex_lp_cons (i : Nat) (v : Value) (t : List Value) (h : ex_nr v = true) : ex_lp i (v :: t) = (i, v) :: ex_lp (i + 1) t := by
  cases v <;> first | rfl | (simp [ex_nr] at h)
theorem ex_lp_skip (i n : Nat) (t : List Value) : ex_lp i (.retAddr n :: t) = ex_lp (i + 1) t := rfl
def ex_wide (vs : List Value) : List Value := vs.flatMap (fun v => if v.category = 2 then [v, .retAddr 0] else [v])
theorem ex_lp_entry (g : GD) (vs : List Value) : ∀ i, vs.all ex_nr = true → lv_args i (vs.map (cv g)) = ex_lp i ((ex_wide vs).map (cv g)) := by
  induction vs with
  | nil => intro i _; rfl
  | cons v t ih =>
    intro i h
    rw [List.all_cons, Bool.and_eq_true] at h
    have e : ex_wide (v :: t) = (if v.category = 2 then [v, .retAddr 0] else [v]) ++ ex_wide t := rfl
    rw [e]
    by_cases c : v.category = 2
    · rw [if_pos c]
      show (i, cv g v) :: lv_args (if (cv g v).category = 2 then i + 2 else i + 1) (t.map (cv g)) = ex_lp i (cv g v :: .retAddr 0 :: (ex_wide t).map (cv g))
      rw [cv_cat, if_pos c, ex_lp_cons _ _ _ (by rw [ex_nr_cv]; exact h.1), ex_lp_skip, ih _ h.2]
    · rw [if_neg c]
      show (i, cv g v) :: lv_args (if (cv g v).category = 2 then i + 2 else i + 1) (t.map (cv g)) = ex_lp i (cv g v :: (ex_wide t).map (cv g))
      rw [cv_cat, if_neg c, ex_lp_cons _ _ _ (by rw [ex_nr_cv]; exact h.1), ih _ h.2]
theorem ex_wide_len (g : GD) (vs : List Value) : (lg_sl (vs.map (cv g))).length = (ex_wide vs).length := by
  induction vs with
  | nil => rfl
  | cons v t ih =>
    have e : ex_wide (v :: t) = (if v.category = 2 then [v, .retAddr 0] else [v]) ++ ex_wide t := rfl
    have e2 : lg_sl ((v :: t).map (cv g)) = (if (cv g v).category = 2 then [.val (cv g v), .second] else [.val (cv g v)]) ++ lg_sl (t.map (cv g)) := rfl
    rw [e, e2, List.length_append, List.length_append, ih, cv_cat]
    by_cases c : v.category = 2 <;> simp [c]
theorem ex_enter {y : MethodName} {M : MM} {d : Nat} {vs ls : List Value} {h : AH} {bc bs : Nat} {Q : Option Value → AH → Prop} (hy : plainName y.cls = true) (hM : M.1 = y.cls ∧ M.2.2.2.2 = y.name) (hnr : vs.all ex_nr = true) (hls : ex_wide vs = ls) (hlen : ls.length ≤ M.2.2.1) (k : ex_G M d 0 ls [] h bc bs Q) : ex_S y M d vs h bc bs Q := by
  intro g l
  refine Met.ofW (cc := M.2.1) (maxL := M.2.2.1) (ret := M.2.2.2.1) hy rfl ?_
  intro p e s m args below meth c s₁ B hml hv
  obtain ⟨rfl, hT, hK, hH, hO, hZ⟩ := hv
  have hl := lv_entry (vs.map (cv g)) (n := M.2.2.1) (by rw [ex_wide_len, hls]; exact hlen)
  rw [lg_entry_eq]
  rw [ex_lp_entry g vs 0 hnr, hls] at hl
  exact k g p l e _ s m _ below meth c s.heap [] 0 0 _ ⟨B.exec, B.bytes, hml, by rw [hM.1]; exact findClass_of_methodNamed B.named, hT, B.returns, B.notSynchronized, by rw [hM.2]; exact (name_of_methodNamed B.named B.method).1, hK, hZ, by rw [hH.1]; omega⟩ hH hO va_S.rf hl (Nat.le_refl _) (Nat.le_refl _) (by show 0 + bc ≤ bc; omega) (by show 0 + bs ≤ bs; omega)
theorem ex_lp_mem (L : List Value) : ∀ (i j : Nat) (w : Value), (j, w) ∈ ex_lp i L ↔ ∃ k, j = i + k ∧ L[k]? = some w ∧ ex_nr w = true := by
  induction L with
  | nil => intro i j w; simp [ex_lp]
  | cons v t ih =>
    intro i j w
    by_cases hv : ex_nr v = true
    · rw [ex_lp_cons _ _ _ hv, List.mem_cons, ih]
      constructor
      · rintro (h | ⟨k, h1, h2, h3⟩)
        · cases h
          exact ⟨0, rfl, rfl, hv⟩
        · exact ⟨k + 1, by omega, h2, h3⟩
      · rintro ⟨k, h1, h2, h3⟩
        cases k with
        | zero =>
          left
          cases h2
          rw [h1]
          rfl
        | succ k => exact Or.inr ⟨k, by omega, h2, h3⟩
    · have : ∃ n, v = .retAddr n := by cases v <;> first | exact ⟨_, rfl⟩ | (simp [ex_nr] at hv)
      obtain ⟨n, rfl⟩ := this
      rw [ex_lp_skip, ih]
      constructor
      · rintro ⟨k, h1, h2, h3⟩
        exact ⟨k + 1, by omega, h2, h3⟩
      · rintro ⟨k, h1, h2, h3⟩
        cases k with
        | zero => cases h2; simp [ex_nr] at h3
        | succ k => exact ⟨k, by omega, h2, h3⟩
theorem ex_lget {g : GD} {lsA : Array Slot} {n : Nat} {ls : List Value} (hl : lv_has lsA n (ex_lp 0 (ls.map (cv g)))) {i : Nat} {v : Value} (hi : ls[i]? = some v) (hv : ex_nr v = true) : lsA[i]? = some (.val (cv g v)) :=
  hl.2.2 (i, cv g v) ((ex_lp_mem _ 0 i _).mpr ⟨i, by omega, by rw [List.getElem?_map, hi]; rfl, by rw [ex_nr_cv]; exact hv⟩)
/-- no long stands just before place i -/
def ex_b1 (ls : List Value) (i : Nat) : Bool := match i with
  | 0 => true
  | i + 1 => match ls[i]? with
    | some v => v.category != 2
    | none => true
theorem ex_lset1 {g : GD} {lsA : Array Slot} {n : Nat} {ls : List Value} {i : Nat} {v : Value} (hb : ex_b1 ls i = true) (hx : lv_has lsA n ((i, cv g v) :: (ex_lp 0 (ls.map (cv g))).filter (fun q => !(q.1 == i) && !(q.1 + 1 == i && q.2.category == 2)))) : lv_has lsA n (ex_lp 0 ((ls.set i v).map (cv g))) := by
  refine ⟨hx.1, hx.2.1, fun q hq => hx.2.2 q ?_⟩
  obtain ⟨j, w⟩ := q
  obtain ⟨k, h1, h2, h3⟩ := (ex_lp_mem _ _ _ _).mp hq
  have hk : j = k := by omega
  subst hk
  rw [List.getElem?_map, List.getElem?_set] at h2
  by_cases e : i = j
  · subst e
    rw [if_pos rfl] at h2
    split at h2
    · cases h2
      exact List.mem_cons_self
    · cases h2
  · rw [if_neg e] at h2
    refine List.mem_cons_of_mem _ (List.mem_filter.mpr ⟨(ex_lp_mem _ _ _ _).mpr ⟨j, by omega, by rw [List.getElem?_map]; exact h2, h3⟩, ?_⟩)
    simp only [Bool.and_eq_true, Bool.not_eq_true', beq_eq_false_iff_ne, ne_eq, Bool.and_eq_false_iff]
    refine ⟨fun z => e z.symm, ?_⟩
    by_cases z : j + 1 = i
    · right
      subst z
      cases hj : ls[j]? with
      | none => rw [hj] at h2; cases h2
      | some u =>
        rw [hj] at h2
        cases h2
        simp only [ex_b1, hj, bne_iff_ne, ne_eq] at hb
        rw [cv_cat]
        exact hb
    · exact Or.inl z
theorem ex_lset2 {g : GD} {lsA : Array Slot} {n : Nat} {ls : List Value} {i : Nat} {v : Value} (hb : ex_b1 ls i = true) (hx : lv_has lsA n ((i, cv g v) :: (ex_lp 0 (ls.map (cv g))).filter (fun q => !(q.1 == i) && (!(q.1 == i + 1) && !(q.1 + 1 == i && q.2.category == 2))))) : lv_has lsA n (ex_lp 0 (((ls.set i v).set (i + 1) (.retAddr 0)).map (cv g))) := by
  refine ⟨hx.1, hx.2.1, fun q hq => hx.2.2 q ?_⟩
  obtain ⟨j, w⟩ := q
  obtain ⟨k, h1, h2, h3⟩ := (ex_lp_mem _ _ _ _).mp hq
  have hk : j = k := by omega
  subst hk
  rw [List.getElem?_map, List.getElem?_set] at h2
  by_cases e2 : i + 1 = j
  · rw [if_pos e2] at h2
    split at h2
    · cases h2; simp [ex_nr, cv] at h3
    · cases h2
  rw [if_neg e2, List.getElem?_set] at h2
  by_cases e : i = j
  · subst e
    rw [if_pos rfl] at h2
    split at h2
    · cases h2
      exact List.mem_cons_self
    · cases h2
  · rw [if_neg e] at h2
    refine List.mem_cons_of_mem _ (List.mem_filter.mpr ⟨(ex_lp_mem _ _ _ _).mpr ⟨j, by omega, by rw [List.getElem?_map]; exact h2, h3⟩, ?_⟩)
    simp only [Bool.and_eq_true, Bool.not_eq_true', beq_eq_false_iff_ne, ne_eq, Bool.and_eq_false_iff]
    refine ⟨fun z => e z.symm, fun z => e2 z.symm, ?_⟩
    by_cases z : j + 1 = i
    · right
      subst z
      cases hj : ls[j]? with
      | none => rw [hj] at h2; cases h2
      | some u =>
        rw [hj] at h2
        cases h2
        simp only [ex_b1, hj, bne_iff_ne, ne_eq] at hb
        rw [cv_cat]
        exact hb
    · exact Or.inl z
/-- fewer locals known -/
theorem ex_less {M : MM} {d pc : Nat} {ls ls' st : List Value} {h : AH} {bc bs : Nat} {Q : Option Value → AH → Prop} (hs : ∀ (i : Nat) (v : Value), ls'[i]? = some v → ex_nr v = true → ls[i]? = some v) (k : ex_G M d pc ls' st h bc bs Q) : ex_G M d pc ls st h bc bs Q := by
  intro g p l e R s m args below meth c H locs cells slots lsA f1 f2 f3 f4 f5 f6 f7 f8 f9
  refine k g p l e R s m args below meth c H locs cells slots lsA f1 f2 f3 f4 ⟨f5.1, f5.2.1, fun q hq => f5.2.2 q ?_⟩ f6 f7 f8 f9
  obtain ⟨j, w⟩ := q
  obtain ⟨i, h1, h2, h3⟩ := (ex_lp_mem _ _ _ _).mp hq
  rw [List.getElem?_map] at h2
  cases hj : ls'[i]? with
  | none => rw [hj] at h2; cases h2
  | some u =>
    rw [hj] at h2
    cases h2
    exact (ex_lp_mem _ _ _ _).mpr ⟨i, h1, by rw [List.getElem?_map, hs i u hj (by rw [ex_nr_cv] at h3; exact h3)]; rfl, h3⟩
end
section
/-! A row an instruction. -/
section ST
variable {M : MM} {d pc q bc bs : Nat} {ls st : List Value} {h : AH} {Q : Option Value → AH → Prop}
def im_ (x y : Int32) : Int32 := x - x / y * y
def lm_ (x y : Int64) : Int64 := x - x / y * y

theorem ex_iadd {x y : Int32} (hd : decode M.2.1 pc = .ok (.iadd, 1)) (k : ex_G M d q ls (.int (x + y) :: st) h bc bs Q) (hq : pc + 1 = q := by rfl) : ex_G M d pc ls (.int y :: .int x :: st) h bc bs Q := by
  subst hq
  intro g p l e R s m args below meth c H locs cells slots lsA f1 f2 f3 f4 f5 f6 f7 f8 f9
  exact lv_iadd f1.1 f1.2.1 hd (k g p l e R s m args below meth c H locs cells slots lsA f1 f2 f3 f4 f5 f6 f7 f8 f9)

theorem ex_isub {x y : Int32} (hd : decode M.2.1 pc = .ok (.isub, 1)) (k : ex_G M d q ls (.int (x - y) :: st) h bc bs Q) (hq : pc + 1 = q := by rfl) : ex_G M d pc ls (.int y :: .int x :: st) h bc bs Q := by
  subst hq
  intro g p l e R s m args below meth c H locs cells slots lsA f1 f2 f3 f4 f5 f6 f7 f8 f9
  exact lv_isub f1.1 f1.2.1 hd (k g p l e R s m args below meth c H locs cells slots lsA f1 f2 f3 f4 f5 f6 f7 f8 f9)

theorem ex_imul {x y : Int32} (hd : decode M.2.1 pc = .ok (.imul, 1)) (k : ex_G M d q ls (.int (x * y) :: st) h bc bs Q) (hq : pc + 1 = q := by rfl) : ex_G M d pc ls (.int y :: .int x :: st) h bc bs Q := by
  subst hq
  intro g p l e R s m args below meth c H locs cells slots lsA f1 f2 f3 f4 f5 f6 f7 f8 f9
  exact lv_imul f1.1 f1.2.1 hd (k g p l e R s m args below meth c H locs cells slots lsA f1 f2 f3 f4 f5 f6 f7 f8 f9)

theorem ex_iand {x y : Int32} (hd : decode M.2.1 pc = .ok (.iand, 1)) (k : ex_G M d q ls (.int (x &&& y) :: st) h bc bs Q) (hq : pc + 1 = q := by rfl) : ex_G M d pc ls (.int y :: .int x :: st) h bc bs Q := by
  subst hq
  intro g p l e R s m args below meth c H locs cells slots lsA f1 f2 f3 f4 f5 f6 f7 f8 f9
  exact lv_iand f1.1 f1.2.1 hd (k g p l e R s m args below meth c H locs cells slots lsA f1 f2 f3 f4 f5 f6 f7 f8 f9)

theorem ex_ior {x y : Int32} (hd : decode M.2.1 pc = .ok (.ior, 1)) (k : ex_G M d q ls (.int (x ||| y) :: st) h bc bs Q) (hq : pc + 1 = q := by rfl) : ex_G M d pc ls (.int y :: .int x :: st) h bc bs Q := by
  subst hq
  intro g p l e R s m args below meth c H locs cells slots lsA f1 f2 f3 f4 f5 f6 f7 f8 f9
  exact lv_ior f1.1 f1.2.1 hd (k g p l e R s m args below meth c H locs cells slots lsA f1 f2 f3 f4 f5 f6 f7 f8 f9)

theorem ex_ixor {x y : Int32} (hd : decode M.2.1 pc = .ok (.ixor, 1)) (k : ex_G M d q ls (.int (x ^^^ y) :: st) h bc bs Q) (hq : pc + 1 = q := by rfl) : ex_G M d pc ls (.int y :: .int x :: st) h bc bs Q := by
  subst hq
  intro g p l e R s m args below meth c H locs cells slots lsA f1 f2 f3 f4 f5 f6 f7 f8 f9
  exact lv_ixor f1.1 f1.2.1 hd (k g p l e R s m args below meth c H locs cells slots lsA f1 f2 f3 f4 f5 f6 f7 f8 f9)

theorem ex_ishl {x y : Int32} (hd : decode M.2.1 pc = .ok (.ishl, 1)) (k : ex_G M d q ls (.int (x <<< (y &&& 31)) :: st) h bc bs Q) (hq : pc + 1 = q := by rfl) : ex_G M d pc ls (.int y :: .int x :: st) h bc bs Q := by
  subst hq
  intro g p l e R s m args below meth c H locs cells slots lsA f1 f2 f3 f4 f5 f6 f7 f8 f9
  exact lv_ishl f1.1 f1.2.1 hd (k g p l e R s m args below meth c H locs cells slots lsA f1 f2 f3 f4 f5 f6 f7 f8 f9)

theorem ex_ishr {x y : Int32} (hd : decode M.2.1 pc = .ok (.ishr, 1)) (k : ex_G M d q ls (.int (x >>> (y &&& 31)) :: st) h bc bs Q) (hq : pc + 1 = q := by rfl) : ex_G M d pc ls (.int y :: .int x :: st) h bc bs Q := by
  subst hq
  intro g p l e R s m args below meth c H locs cells slots lsA f1 f2 f3 f4 f5 f6 f7 f8 f9
  exact lv_ishr f1.1 f1.2.1 hd (k g p l e R s m args below meth c H locs cells slots lsA f1 f2 f3 f4 f5 f6 f7 f8 f9)

theorem ex_idiv {x y : Int32} (hd : decode M.2.1 pc = .ok (.idiv, 1)) (hne : ¬ y = 0) (k : ex_G M d q ls (.int (x / y) :: st) h bc bs Q) (hq : pc + 1 = q := by rfl) : ex_G M d pc ls (.int y :: .int x :: st) h bc bs Q := by
  subst hq
  intro g p l e R s m args below meth c H locs cells slots lsA f1 f2 f3 f4 f5 f6 f7 f8 f9
  exact lv_idiv f1.1 f1.2.1 hd hne (k g p l e R s m args below meth c H locs cells slots lsA f1 f2 f3 f4 f5 f6 f7 f8 f9)

theorem ex_irem {x y : Int32} (hd : decode M.2.1 pc = .ok (.irem, 1)) (hne : ¬ y = 0) (k : ex_G M d q ls (.int (im_ x y) :: st) h bc bs Q) (hq : pc + 1 = q := by rfl) : ex_G M d pc ls (.int y :: .int x :: st) h bc bs Q := by
  subst hq
  intro g p l e R s m args below meth c H locs cells slots lsA f1 f2 f3 f4 f5 f6 f7 f8 f9
  exact lv_irem f1.1 f1.2.1 hd hne (k g p l e R s m args below meth c H locs cells slots lsA f1 f2 f3 f4 f5 f6 f7 f8 f9)

theorem ex_ineg {x : Int32} (hd : decode M.2.1 pc = .ok (.ineg, 1)) (k : ex_G M d q ls (.int (-x) :: st) h bc bs Q) (hq : pc + 1 = q := by rfl) : ex_G M d pc ls (.int x :: st) h bc bs Q := by
  subst hq
  intro g p l e R s m args below meth c H locs cells slots lsA f1 f2 f3 f4 f5 f6 f7 f8 f9
  exact lv_ineg f1.1 f1.2.1 hd (k g p l e R s m args below meth c H locs cells slots lsA f1 f2 f3 f4 f5 f6 f7 f8 f9)

theorem ex_ladd {x y : Int64} (hd : decode M.2.1 pc = .ok (.ladd, 1)) (k : ex_G M d q ls (.long (x + y) :: st) h bc bs Q) (hq : pc + 1 = q := by rfl) : ex_G M d pc ls (.long y :: .long x :: st) h bc bs Q := by
  subst hq
  intro g p l e R s m args below meth c H locs cells slots lsA f1 f2 f3 f4 f5 f6 f7 f8 f9
  exact lv_ladd f1.1 f1.2.1 hd (k g p l e R s m args below meth c H locs cells slots lsA f1 f2 f3 f4 f5 f6 f7 f8 f9)

theorem ex_lsub {x y : Int64} (hd : decode M.2.1 pc = .ok (.lsub, 1)) (k : ex_G M d q ls (.long (x - y) :: st) h bc bs Q) (hq : pc + 1 = q := by rfl) : ex_G M d pc ls (.long y :: .long x :: st) h bc bs Q := by
  subst hq
  intro g p l e R s m args below meth c H locs cells slots lsA f1 f2 f3 f4 f5 f6 f7 f8 f9
  exact lv_lsub f1.1 f1.2.1 hd (k g p l e R s m args below meth c H locs cells slots lsA f1 f2 f3 f4 f5 f6 f7 f8 f9)

theorem ex_lmul {x y : Int64} (hd : decode M.2.1 pc = .ok (.lmul, 1)) (k : ex_G M d q ls (.long (x * y) :: st) h bc bs Q) (hq : pc + 1 = q := by rfl) : ex_G M d pc ls (.long y :: .long x :: st) h bc bs Q := by
  subst hq
  intro g p l e R s m args below meth c H locs cells slots lsA f1 f2 f3 f4 f5 f6 f7 f8 f9
  exact lv_lmul f1.1 f1.2.1 hd (k g p l e R s m args below meth c H locs cells slots lsA f1 f2 f3 f4 f5 f6 f7 f8 f9)

theorem ex_land {x y : Int64} (hd : decode M.2.1 pc = .ok (.land, 1)) (k : ex_G M d q ls (.long (x &&& y) :: st) h bc bs Q) (hq : pc + 1 = q := by rfl) : ex_G M d pc ls (.long y :: .long x :: st) h bc bs Q := by
  subst hq
  intro g p l e R s m args below meth c H locs cells slots lsA f1 f2 f3 f4 f5 f6 f7 f8 f9
  exact lv_land f1.1 f1.2.1 hd (k g p l e R s m args below meth c H locs cells slots lsA f1 f2 f3 f4 f5 f6 f7 f8 f9)

theorem ex_lor {x y : Int64} (hd : decode M.2.1 pc = .ok (.lor, 1)) (k : ex_G M d q ls (.long (x ||| y) :: st) h bc bs Q) (hq : pc + 1 = q := by rfl) : ex_G M d pc ls (.long y :: .long x :: st) h bc bs Q := by
  subst hq
  intro g p l e R s m args below meth c H locs cells slots lsA f1 f2 f3 f4 f5 f6 f7 f8 f9
  exact lv_lor f1.1 f1.2.1 hd (k g p l e R s m args below meth c H locs cells slots lsA f1 f2 f3 f4 f5 f6 f7 f8 f9)

theorem ex_lneg {x : Int64} (hd : decode M.2.1 pc = .ok (.lneg, 1)) (k : ex_G M d q ls (.long (-x) :: st) h bc bs Q) (hq : pc + 1 = q := by rfl) : ex_G M d pc ls (.long x :: st) h bc bs Q := by
  subst hq
  intro g p l e R s m args below meth c H locs cells slots lsA f1 f2 f3 f4 f5 f6 f7 f8 f9
  exact lv_lneg f1.1 f1.2.1 hd (k g p l e R s m args below meth c H locs cells slots lsA f1 f2 f3 f4 f5 f6 f7 f8 f9)

theorem ex_lshl {x : Int64} {y : Int32} (hd : decode M.2.1 pc = .ok (.lshl, 1)) (k : ex_G M d q ls (.long (x <<< (y.toInt64 &&& 63)) :: st) h bc bs Q) (hq : pc + 1 = q := by rfl) : ex_G M d pc ls (.int y :: .long x :: st) h bc bs Q := by
  subst hq
  intro g p l e R s m args below meth c H locs cells slots lsA f1 f2 f3 f4 f5 f6 f7 f8 f9
  exact lv_lshl f1.1 f1.2.1 hd rfl (k g p l e R s m args below meth c H locs cells slots lsA f1 f2 f3 f4 f5 f6 f7 f8 f9)

theorem ex_lshr {x : Int64} {y : Int32} (hd : decode M.2.1 pc = .ok (.lshr, 1)) (k : ex_G M d q ls (.long (x >>> (y.toInt64 &&& 63)) :: st) h bc bs Q) (hq : pc + 1 = q := by rfl) : ex_G M d pc ls (.int y :: .long x :: st) h bc bs Q := by
  subst hq
  intro g p l e R s m args below meth c H locs cells slots lsA f1 f2 f3 f4 f5 f6 f7 f8 f9
  exact lv_lshr f1.1 f1.2.1 hd rfl (k g p l e R s m args below meth c H locs cells slots lsA f1 f2 f3 f4 f5 f6 f7 f8 f9)

theorem ex_i2l {x : Int32} (hd : decode M.2.1 pc = .ok (.i2l, 1)) (k : ex_G M d q ls (.long x.toInt64 :: st) h bc bs Q) (hq : pc + 1 = q := by rfl) : ex_G M d pc ls (.int x :: st) h bc bs Q := by
  subst hq
  intro g p l e R s m args below meth c H locs cells slots lsA f1 f2 f3 f4 f5 f6 f7 f8 f9
  exact lv_i2l f1.1 f1.2.1 hd rfl (k g p l e R s m args below meth c H locs cells slots lsA f1 f2 f3 f4 f5 f6 f7 f8 f9)

theorem ex_l2i {x : Int64} (hd : decode M.2.1 pc = .ok (.l2i, 1)) (k : ex_G M d q ls (.int x.toInt32 :: st) h bc bs Q) (hq : pc + 1 = q := by rfl) : ex_G M d pc ls (.long x :: st) h bc bs Q := by
  subst hq
  intro g p l e R s m args below meth c H locs cells slots lsA f1 f2 f3 f4 f5 f6 f7 f8 f9
  exact lv_l2i f1.1 f1.2.1 hd rfl (k g p l e R s m args below meth c H locs cells slots lsA f1 f2 f3 f4 f5 f6 f7 f8 f9)

theorem ex_iconst {n : Int} {v : Int32} (hd : decode M.2.1 pc = .ok (.iconst n, 1)) (hv : Int32.ofInt n = v) (k : ex_G M d q ls (.int v :: st) h bc bs Q) (hq : pc + 1 = q := by rfl) : ex_G M d pc ls (st) h bc bs Q := by
  subst hq
  intro g p l e R s m args below meth c H locs cells slots lsA f1 f2 f3 f4 f5 f6 f7 f8 f9
  exact lv_iconst f1.1 f1.2.1 hd hv (k g p l e R s m args below meth c H locs cells slots lsA f1 f2 f3 f4 f5 f6 f7 f8 f9)

theorem ex_bipush {n : Int} {v : Int32} (hd : decode M.2.1 pc = .ok (.bipush n, 2)) (hv : (Int8.ofInt n).toInt32 = v) (k : ex_G M d q ls (.int v :: st) h bc bs Q) (hq : pc + 2 = q := by rfl) : ex_G M d pc ls (st) h bc bs Q := by
  subst hq
  intro g p l e R s m args below meth c H locs cells slots lsA f1 f2 f3 f4 f5 f6 f7 f8 f9
  exact lv_bipush f1.1 f1.2.1 hd hv (k g p l e R s m args below meth c H locs cells slots lsA f1 f2 f3 f4 f5 f6 f7 f8 f9)

theorem ex_sipush {n : Int} {v : Int32} (hd : decode M.2.1 pc = .ok (.sipush n, 3)) (hv : (Int16.ofInt n).toInt32 = v) (k : ex_G M d q ls (.int v :: st) h bc bs Q) (hq : pc + 3 = q := by rfl) : ex_G M d pc ls (st) h bc bs Q := by
  subst hq
  intro g p l e R s m args below meth c H locs cells slots lsA f1 f2 f3 f4 f5 f6 f7 f8 f9
  exact lv_sipush f1.1 f1.2.1 hd hv (k g p l e R s m args below meth c H locs cells slots lsA f1 f2 f3 f4 f5 f6 f7 f8 f9)

theorem ex_lconst {n : Fin 2} {v : Int64} (hd : decode M.2.1 pc = .ok (.lconst n, 1)) (hv : Int64.ofNat (n : Nat) = v) (k : ex_G M d q ls (.long v :: st) h bc bs Q) (hq : pc + 1 = q := by rfl) : ex_G M d pc ls (st) h bc bs Q := by
  subst hq
  intro g p l e R s m args below meth c H locs cells slots lsA f1 f2 f3 f4 f5 f6 f7 f8 f9
  exact lv_lconst f1.1 f1.2.1 hd hv (k g p l e R s m args below meth c H locs cells slots lsA f1 f2 f3 f4 f5 f6 f7 f8 f9)

theorem ex_iload_n {n : Fin 4} {x : Int32} (hd : decode M.2.1 pc = .ok (.iload_n n, 1)) (hl : ls[(n : Nat)]? = some (.int x)) (k : ex_G M d q ls (.int x :: st) h bc bs Q) (hq : pc + 1 = q := by rfl) : ex_G M d pc ls (st) h bc bs Q := by
  subst hq
  intro g p l e R s m args below meth c H locs cells slots lsA f1 f2 f3 f4 f5 f6 f7 f8 f9
  exact lv_iload_n f1.1 f1.2.1 hd rfl (ex_lget f5 hl rfl) (k g p l e R s m args below meth c H locs cells slots lsA f1 f2 f3 f4 f5 f6 f7 f8 f9)

theorem ex_iload {n : Nat} {x : Int32} (hd : decode M.2.1 pc = .ok (.iload n, 2)) (hl : ls[n]? = some (.int x)) (k : ex_G M d q ls (.int x :: st) h bc bs Q) (hq : pc + 2 = q := by rfl) : ex_G M d pc ls (st) h bc bs Q := by
  subst hq
  intro g p l e R s m args below meth c H locs cells slots lsA f1 f2 f3 f4 f5 f6 f7 f8 f9
  exact lv_iload f1.1 f1.2.1 hd (ex_lget f5 hl rfl) (k g p l e R s m args below meth c H locs cells slots lsA f1 f2 f3 f4 f5 f6 f7 f8 f9)

theorem ex_lload_n {n : Fin 4} {x : Int64} (hd : decode M.2.1 pc = .ok (.lload_n n, 1)) (hl : ls[(n : Nat)]? = some (.long x)) (k : ex_G M d q ls (.long x :: st) h bc bs Q) (hq : pc + 1 = q := by rfl) : ex_G M d pc ls (st) h bc bs Q := by
  subst hq
  intro g p l e R s m args below meth c H locs cells slots lsA f1 f2 f3 f4 f5 f6 f7 f8 f9
  exact lv_lload_n f1.1 f1.2.1 hd rfl (ex_lget f5 hl rfl) (k g p l e R s m args below meth c H locs cells slots lsA f1 f2 f3 f4 f5 f6 f7 f8 f9)

theorem ex_lload {n : Nat} {x : Int64} (hd : decode M.2.1 pc = .ok (.lload n, 2)) (hl : ls[n]? = some (.long x)) (k : ex_G M d q ls (.long x :: st) h bc bs Q) (hq : pc + 2 = q := by rfl) : ex_G M d pc ls (st) h bc bs Q := by
  subst hq
  intro g p l e R s m args below meth c H locs cells slots lsA f1 f2 f3 f4 f5 f6 f7 f8 f9
  exact lv_lload f1.1 f1.2.1 hd (ex_lget f5 hl rfl) (k g p l e R s m args below meth c H locs cells slots lsA f1 f2 f3 f4 f5 f6 f7 f8 f9)

theorem ex_aload_n {n : Fin 4} {x : Nat} (hd : decode M.2.1 pc = .ok (.aload_n n, 1)) (hl : ls[(n : Nat)]? = some (.ref x)) (k : ex_G M d q ls (.ref x :: st) h bc bs Q) (hq : pc + 1 = q := by rfl) : ex_G M d pc ls (st) h bc bs Q := by
  subst hq
  intro g p l e R s m args below meth c H locs cells slots lsA f1 f2 f3 f4 f5 f6 f7 f8 f9
  exact lv_aload_n f1.1 f1.2.1 hd rfl (ex_lget f5 hl rfl) (k g p l e R s m args below meth c H locs cells slots lsA f1 f2 f3 f4 f5 f6 f7 f8 f9)

theorem ex_aload {n : Nat} {x : Nat} (hd : decode M.2.1 pc = .ok (.aload n, 2)) (hl : ls[n]? = some (.ref x)) (k : ex_G M d q ls (.ref x :: st) h bc bs Q) (hq : pc + 2 = q := by rfl) : ex_G M d pc ls (st) h bc bs Q := by
  subst hq
  intro g p l e R s m args below meth c H locs cells slots lsA f1 f2 f3 f4 f5 f6 f7 f8 f9
  exact lv_aload f1.1 f1.2.1 hd (ex_lget f5 hl rfl) (k g p l e R s m args below meth c H locs cells slots lsA f1 f2 f3 f4 f5 f6 f7 f8 f9)

theorem ex_istore_n {n : Fin 4} {ls' : List Value} {x : Int32} (hd : decode M.2.1 pc = .ok (.istore_n n, 1)) (hl : ls.set (n : Nat) (.int x) = ls') (k : ex_G M d q ls' st h bc bs Q) (hn : (n : Nat) < M.2.2.1 := by decide) (hb : ex_b1 ls (n : Nat) = true := by rfl) (hq : pc + 1 = q := by rfl) : ex_G M d pc ls (.int x :: st) h bc bs Q := by
  subst hq
  subst hl
  intro g p l e R s m args below meth c H locs cells slots lsA f1 f2 f3 f4 f5 f6 f7 f8 f9
  exact lv_istore_n f1.1 f1.2.1 hd rfl f5 hn rfl (fun lsB hB => k g p l e R s m args below meth c H locs cells slots lsB f1 f2 f3 f4 (ex_lset1 hb hB) f6 f7 f8 f9)

theorem ex_istore {n : Nat} {ls' : List Value} {x : Int32} (hd : decode M.2.1 pc = .ok (.istore n, 2)) (hl : ls.set n (.int x) = ls') (k : ex_G M d q ls' st h bc bs Q) (hn : n < M.2.2.1 := by decide) (hb : ex_b1 ls n = true := by rfl) (hq : pc + 2 = q := by rfl) : ex_G M d pc ls (.int x :: st) h bc bs Q := by
  subst hq
  subst hl
  intro g p l e R s m args below meth c H locs cells slots lsA f1 f2 f3 f4 f5 f6 f7 f8 f9
  exact lv_istore f1.1 f1.2.1 hd f5 hn rfl (fun lsB hB => k g p l e R s m args below meth c H locs cells slots lsB f1 f2 f3 f4 (ex_lset1 hb hB) f6 f7 f8 f9)

theorem ex_lstore_n {n : Fin 4} {ls' : List Value} {x : Int64} (hd : decode M.2.1 pc = .ok (.lstore_n n, 1)) (hl : (ls.set (n : Nat) (.long x)).set ((n : Nat) + 1) (.retAddr 0) = ls') (k : ex_G M d q ls' st h bc bs Q) (hn : (n : Nat) + 1 < M.2.2.1 := by decide) (hb : ex_b1 ls (n : Nat) = true := by rfl) (hq : pc + 1 = q := by rfl) : ex_G M d pc ls (.long x :: st) h bc bs Q := by
  subst hq
  subst hl
  intro g p l e R s m args below meth c H locs cells slots lsA f1 f2 f3 f4 f5 f6 f7 f8 f9
  exact lv_lstore_n f1.1 f1.2.1 hd rfl f5 hn rfl (fun lsB hB => k g p l e R s m args below meth c H locs cells slots lsB f1 f2 f3 f4 (ex_lset2 hb hB) f6 f7 f8 f9)

theorem ex_lstore {n : Nat} {ls' : List Value} {x : Int64} (hd : decode M.2.1 pc = .ok (.lstore n, 2)) (hl : (ls.set n (.long x)).set (n + 1) (.retAddr 0) = ls') (k : ex_G M d q ls' st h bc bs Q) (hn : n + 1 < M.2.2.1 := by decide) (hb : ex_b1 ls n = true := by rfl) (hq : pc + 2 = q := by rfl) : ex_G M d pc ls (.long x :: st) h bc bs Q := by
  subst hq
  subst hl
  intro g p l e R s m args below meth c H locs cells slots lsA f1 f2 f3 f4 f5 f6 f7 f8 f9
  exact lv_lstore f1.1 f1.2.1 hd f5 hn rfl (fun lsB hB => k g p l e R s m args below meth c H locs cells slots lsB f1 f2 f3 f4 (ex_lset2 hb hB) f6 f7 f8 f9)

theorem ex_astore_n {n : Fin 4} {ls' : List Value} {x : Nat} (hd : decode M.2.1 pc = .ok (.astore_n n, 1)) (hl : ls.set (n : Nat) (.ref x) = ls') (k : ex_G M d q ls' st h bc bs Q) (hn : (n : Nat) < M.2.2.1 := by decide) (hb : ex_b1 ls (n : Nat) = true := by rfl) (hq : pc + 1 = q := by rfl) : ex_G M d pc ls (.ref x :: st) h bc bs Q := by
  subst hq
  subst hl
  intro g p l e R s m args below meth c H locs cells slots lsA f1 f2 f3 f4 f5 f6 f7 f8 f9
  exact lv_astore_n f1.1 f1.2.1 hd rfl f5 hn rfl (fun lsB hB => k g p l e R s m args below meth c H locs cells slots lsB f1 f2 f3 f4 (ex_lset1 hb hB) f6 f7 f8 f9)

theorem ex_astore {n : Nat} {ls' : List Value} {x : Nat} (hd : decode M.2.1 pc = .ok (.astore n, 2)) (hl : ls.set n (.ref x) = ls') (k : ex_G M d q ls' st h bc bs Q) (hn : n < M.2.2.1 := by decide) (hb : ex_b1 ls n = true := by rfl) (hq : pc + 2 = q := by rfl) : ex_G M d pc ls (.ref x :: st) h bc bs Q := by
  subst hq
  subst hl
  intro g p l e R s m args below meth c H locs cells slots lsA f1 f2 f3 f4 f5 f6 f7 f8 f9
  exact lv_astore f1.1 f1.2.1 hd f5 hn rfl (fun lsB hB => k g p l e R s m args below meth c H locs cells slots lsB f1 f2 f3 f4 (ex_lset1 hb hB) f6 f7 f8 f9)

theorem ex_dup {v : Value} (hd : decode M.2.1 pc = .ok (.dup, 1)) (hv : v.category = 1) (k : ex_G M d q ls (v :: v :: st) h bc bs Q) (hq : pc + 1 = q := by rfl) : ex_G M d pc ls (v :: st) h bc bs Q := by
  subst hq
  intro g p l e R s m args below meth c H locs cells slots lsA f1 f2 f3 f4 f5 f6 f7 f8 f9
  exact lv_dup f1.1 f1.2.1 hd (by rw [cv_cat]; exact hv) (k g p l e R s m args below meth c H locs cells slots lsA f1 f2 f3 f4 f5 f6 f7 f8 f9)

theorem ex_pop {v : Value} (hd : decode M.2.1 pc = .ok (.pop, 1)) (hv : v.category = 1) (k : ex_G M d q ls (st) h bc bs Q) (hq : pc + 1 = q := by rfl) : ex_G M d pc ls (v :: st) h bc bs Q := by
  subst hq
  intro g p l e R s m args below meth c H locs cells slots lsA f1 f2 f3 f4 f5 f6 f7 f8 f9
  exact lv_pop f1.1 f1.2.1 hd (by rw [cv_cat]; exact hv) (k g p l e R s m args below meth c H locs cells slots lsA f1 f2 f3 f4 f5 f6 f7 f8 f9)

theorem ex_dup2 {v w : Value} (hd : decode M.2.1 pc = .ok (.dup2, 1)) (hv : v.category = 1) (hw : w.category = 1) (k : ex_G M d q ls (v :: w :: v :: w :: st) h bc bs Q) (hq : pc + 1 = q := by rfl) : ex_G M d pc ls (v :: w :: st) h bc bs Q := by
  subst hq
  intro g p l e R s m args below meth c H locs cells slots lsA f1 f2 f3 f4 f5 f6 f7 f8 f9
  exact lv_dup2_11 f1.1 f1.2.1 hd (by rw [cv_cat]; exact hv) (by rw [cv_cat]; exact hw) (k g p l e R s m args below meth c H locs cells slots lsA f1 f2 f3 f4 f5 f6 f7 f8 f9)

theorem ex_dup_x1 {v w : Value} (hd : decode M.2.1 pc = .ok (.dup_x1, 1)) (hv : v.category = 1) (hw : w.category = 1) (k : ex_G M d q ls (v :: w :: v :: st) h bc bs Q) (hq : pc + 1 = q := by rfl) : ex_G M d pc ls (v :: w :: st) h bc bs Q := by
  subst hq
  intro g p l e R s m args below meth c H locs cells slots lsA f1 f2 f3 f4 f5 f6 f7 f8 f9
  exact lv_dup_x1 f1.1 f1.2.1 hd (by rw [cv_cat]; exact hv) (by rw [cv_cat]; exact hw) (k g p l e R s m args below meth c H locs cells slots lsA f1 f2 f3 f4 f5 f6 f7 f8 f9)

theorem ex_dup2_2 {v : Value} (hd : decode M.2.1 pc = .ok (.dup2, 1)) (hv : v.category = 2) (k : ex_G M d q ls (v :: v :: st) h bc bs Q) (hq : pc + 1 = q := by rfl) : ex_G M d pc ls (v :: st) h bc bs Q := by
  subst hq
  intro g p l e R s m args below meth c H locs cells slots lsA f1 f2 f3 f4 f5 f6 f7 f8 f9
  exact lv_dup2_2 f1.1 f1.2.1 hd (by rw [cv_cat]; exact hv) (k g p l e R s m args below meth c H locs cells slots lsA f1 f2 f3 f4 f5 f6 f7 f8 f9)

theorem ex_if_eq {x : Int32} {off : Int} {tgt : Nat} (hd : decode M.2.1 pc = .ok (.ifCond .eq off, 3)) (k1 : x = 0 → ex_G M d tgt ls st h bc bs Q) (k2 : ¬ x = 0 → ex_G M d q ls st h bc bs Q) (ht : (pc : Int) + off = (tgt : Int) := by decide) (hq : pc + 3 = q := by rfl) : ex_G M d pc ls (.int x :: st) h bc bs Q := by
  subst hq
  intro g p l e R s m args below meth c H locs cells slots lsA f1 f2 f3 f4 f5 f6 f7 f8 f9
  exact lv_if_eq f1.1 f1.2.1 hd ht (fun hc => k1 hc g p l e R s m args below meth c H locs cells slots lsA f1 f2 f3 f4 f5 f6 f7 f8 f9) (fun hc => k2 hc g p l e R s m args below meth c H locs cells slots lsA f1 f2 f3 f4 f5 f6 f7 f8 f9)

theorem ex_icmp_eq {x y : Int32} {off : Int} {tgt : Nat} (hd : decode M.2.1 pc = .ok (.if_icmp .eq off, 3)) (k1 : x = y → ex_G M d tgt ls st h bc bs Q) (k2 : ¬ x = y → ex_G M d q ls st h bc bs Q) (ht : (pc : Int) + off = (tgt : Int) := by decide) (hq : pc + 3 = q := by rfl) : ex_G M d pc ls (.int y :: .int x :: st) h bc bs Q := by
  subst hq
  intro g p l e R s m args below meth c H locs cells slots lsA f1 f2 f3 f4 f5 f6 f7 f8 f9
  exact lv_icmp_eq f1.1 f1.2.1 hd ht (fun hc => k1 hc g p l e R s m args below meth c H locs cells slots lsA f1 f2 f3 f4 f5 f6 f7 f8 f9) (fun hc => k2 hc g p l e R s m args below meth c H locs cells slots lsA f1 f2 f3 f4 f5 f6 f7 f8 f9)

theorem ex_if_ne {x : Int32} {off : Int} {tgt : Nat} (hd : decode M.2.1 pc = .ok (.ifCond .ne off, 3)) (k1 : ¬ x = 0 → ex_G M d tgt ls st h bc bs Q) (k2 : x = 0 → ex_G M d q ls st h bc bs Q) (ht : (pc : Int) + off = (tgt : Int) := by decide) (hq : pc + 3 = q := by rfl) : ex_G M d pc ls (.int x :: st) h bc bs Q := by
  subst hq
  intro g p l e R s m args below meth c H locs cells slots lsA f1 f2 f3 f4 f5 f6 f7 f8 f9
  exact lv_if_ne f1.1 f1.2.1 hd ht (fun hc => k1 hc g p l e R s m args below meth c H locs cells slots lsA f1 f2 f3 f4 f5 f6 f7 f8 f9) (fun hc => k2 hc g p l e R s m args below meth c H locs cells slots lsA f1 f2 f3 f4 f5 f6 f7 f8 f9)

theorem ex_icmp_ne {x y : Int32} {off : Int} {tgt : Nat} (hd : decode M.2.1 pc = .ok (.if_icmp .ne off, 3)) (k1 : ¬ x = y → ex_G M d tgt ls st h bc bs Q) (k2 : x = y → ex_G M d q ls st h bc bs Q) (ht : (pc : Int) + off = (tgt : Int) := by decide) (hq : pc + 3 = q := by rfl) : ex_G M d pc ls (.int y :: .int x :: st) h bc bs Q := by
  subst hq
  intro g p l e R s m args below meth c H locs cells slots lsA f1 f2 f3 f4 f5 f6 f7 f8 f9
  exact lv_icmp_ne f1.1 f1.2.1 hd ht (fun hc => k1 hc g p l e R s m args below meth c H locs cells slots lsA f1 f2 f3 f4 f5 f6 f7 f8 f9) (fun hc => k2 hc g p l e R s m args below meth c H locs cells slots lsA f1 f2 f3 f4 f5 f6 f7 f8 f9)

theorem ex_if_lt {x : Int32} {off : Int} {tgt : Nat} (hd : decode M.2.1 pc = .ok (.ifCond .lt off, 3)) (k1 : x < 0 → ex_G M d tgt ls st h bc bs Q) (k2 : ¬ x < 0 → ex_G M d q ls st h bc bs Q) (ht : (pc : Int) + off = (tgt : Int) := by decide) (hq : pc + 3 = q := by rfl) : ex_G M d pc ls (.int x :: st) h bc bs Q := by
  subst hq
  intro g p l e R s m args below meth c H locs cells slots lsA f1 f2 f3 f4 f5 f6 f7 f8 f9
  exact lv_if_lt f1.1 f1.2.1 hd ht (fun hc => k1 hc g p l e R s m args below meth c H locs cells slots lsA f1 f2 f3 f4 f5 f6 f7 f8 f9) (fun hc => k2 hc g p l e R s m args below meth c H locs cells slots lsA f1 f2 f3 f4 f5 f6 f7 f8 f9)

theorem ex_icmp_lt {x y : Int32} {off : Int} {tgt : Nat} (hd : decode M.2.1 pc = .ok (.if_icmp .lt off, 3)) (k1 : x < y → ex_G M d tgt ls st h bc bs Q) (k2 : ¬ x < y → ex_G M d q ls st h bc bs Q) (ht : (pc : Int) + off = (tgt : Int) := by decide) (hq : pc + 3 = q := by rfl) : ex_G M d pc ls (.int y :: .int x :: st) h bc bs Q := by
  subst hq
  intro g p l e R s m args below meth c H locs cells slots lsA f1 f2 f3 f4 f5 f6 f7 f8 f9
  exact lv_icmp_lt f1.1 f1.2.1 hd ht (fun hc => k1 hc g p l e R s m args below meth c H locs cells slots lsA f1 f2 f3 f4 f5 f6 f7 f8 f9) (fun hc => k2 hc g p l e R s m args below meth c H locs cells slots lsA f1 f2 f3 f4 f5 f6 f7 f8 f9)

theorem ex_if_ge {x : Int32} {off : Int} {tgt : Nat} (hd : decode M.2.1 pc = .ok (.ifCond .ge off, 3)) (k1 : 0 ≤ x → ex_G M d tgt ls st h bc bs Q) (k2 : ¬ 0 ≤ x → ex_G M d q ls st h bc bs Q) (ht : (pc : Int) + off = (tgt : Int) := by decide) (hq : pc + 3 = q := by rfl) : ex_G M d pc ls (.int x :: st) h bc bs Q := by
  subst hq
  intro g p l e R s m args below meth c H locs cells slots lsA f1 f2 f3 f4 f5 f6 f7 f8 f9
  exact lv_if_ge f1.1 f1.2.1 hd ht (fun hc => k1 hc g p l e R s m args below meth c H locs cells slots lsA f1 f2 f3 f4 f5 f6 f7 f8 f9) (fun hc => k2 hc g p l e R s m args below meth c H locs cells slots lsA f1 f2 f3 f4 f5 f6 f7 f8 f9)

theorem ex_icmp_ge {x y : Int32} {off : Int} {tgt : Nat} (hd : decode M.2.1 pc = .ok (.if_icmp .ge off, 3)) (k1 : y ≤ x → ex_G M d tgt ls st h bc bs Q) (k2 : ¬ y ≤ x → ex_G M d q ls st h bc bs Q) (ht : (pc : Int) + off = (tgt : Int) := by decide) (hq : pc + 3 = q := by rfl) : ex_G M d pc ls (.int y :: .int x :: st) h bc bs Q := by
  subst hq
  intro g p l e R s m args below meth c H locs cells slots lsA f1 f2 f3 f4 f5 f6 f7 f8 f9
  exact lv_icmp_ge f1.1 f1.2.1 hd ht (fun hc => k1 hc g p l e R s m args below meth c H locs cells slots lsA f1 f2 f3 f4 f5 f6 f7 f8 f9) (fun hc => k2 hc g p l e R s m args below meth c H locs cells slots lsA f1 f2 f3 f4 f5 f6 f7 f8 f9)

theorem ex_if_gt {x : Int32} {off : Int} {tgt : Nat} (hd : decode M.2.1 pc = .ok (.ifCond .gt off, 3)) (k1 : 0 < x → ex_G M d tgt ls st h bc bs Q) (k2 : ¬ 0 < x → ex_G M d q ls st h bc bs Q) (ht : (pc : Int) + off = (tgt : Int) := by decide) (hq : pc + 3 = q := by rfl) : ex_G M d pc ls (.int x :: st) h bc bs Q := by
  subst hq
  intro g p l e R s m args below meth c H locs cells slots lsA f1 f2 f3 f4 f5 f6 f7 f8 f9
  exact lv_if_gt f1.1 f1.2.1 hd ht (fun hc => k1 hc g p l e R s m args below meth c H locs cells slots lsA f1 f2 f3 f4 f5 f6 f7 f8 f9) (fun hc => k2 hc g p l e R s m args below meth c H locs cells slots lsA f1 f2 f3 f4 f5 f6 f7 f8 f9)

theorem ex_icmp_gt {x y : Int32} {off : Int} {tgt : Nat} (hd : decode M.2.1 pc = .ok (.if_icmp .gt off, 3)) (k1 : y < x → ex_G M d tgt ls st h bc bs Q) (k2 : ¬ y < x → ex_G M d q ls st h bc bs Q) (ht : (pc : Int) + off = (tgt : Int) := by decide) (hq : pc + 3 = q := by rfl) : ex_G M d pc ls (.int y :: .int x :: st) h bc bs Q := by
  subst hq
  intro g p l e R s m args below meth c H locs cells slots lsA f1 f2 f3 f4 f5 f6 f7 f8 f9
  exact lv_icmp_gt f1.1 f1.2.1 hd ht (fun hc => k1 hc g p l e R s m args below meth c H locs cells slots lsA f1 f2 f3 f4 f5 f6 f7 f8 f9) (fun hc => k2 hc g p l e R s m args below meth c H locs cells slots lsA f1 f2 f3 f4 f5 f6 f7 f8 f9)

theorem ex_if_le {x : Int32} {off : Int} {tgt : Nat} (hd : decode M.2.1 pc = .ok (.ifCond .le off, 3)) (k1 : x ≤ 0 → ex_G M d tgt ls st h bc bs Q) (k2 : ¬ x ≤ 0 → ex_G M d q ls st h bc bs Q) (ht : (pc : Int) + off = (tgt : Int) := by decide) (hq : pc + 3 = q := by rfl) : ex_G M d pc ls (.int x :: st) h bc bs Q := by
  subst hq
  intro g p l e R s m args below meth c H locs cells slots lsA f1 f2 f3 f4 f5 f6 f7 f8 f9
  exact lv_if_le f1.1 f1.2.1 hd ht (fun hc => k1 hc g p l e R s m args below meth c H locs cells slots lsA f1 f2 f3 f4 f5 f6 f7 f8 f9) (fun hc => k2 hc g p l e R s m args below meth c H locs cells slots lsA f1 f2 f3 f4 f5 f6 f7 f8 f9)

theorem ex_icmp_le {x y : Int32} {off : Int} {tgt : Nat} (hd : decode M.2.1 pc = .ok (.if_icmp .le off, 3)) (k1 : x ≤ y → ex_G M d tgt ls st h bc bs Q) (k2 : ¬ x ≤ y → ex_G M d q ls st h bc bs Q) (ht : (pc : Int) + off = (tgt : Int) := by decide) (hq : pc + 3 = q := by rfl) : ex_G M d pc ls (.int y :: .int x :: st) h bc bs Q := by
  subst hq
  intro g p l e R s m args below meth c H locs cells slots lsA f1 f2 f3 f4 f5 f6 f7 f8 f9
  exact lv_icmp_le f1.1 f1.2.1 hd ht (fun hc => k1 hc g p l e R s m args below meth c H locs cells slots lsA f1 f2 f3 f4 f5 f6 f7 f8 f9) (fun hc => k2 hc g p l e R s m args below meth c H locs cells slots lsA f1 f2 f3 f4 f5 f6 f7 f8 f9)

theorem ex_goto {off : Int} {tgt : Nat} (hd : decode M.2.1 pc = .ok (.goto off, 3)) (k : ex_G M d tgt ls st h bc bs Q) (ht : (pc : Int) + off = (tgt : Int) := by decide) : ex_G M d pc ls st h bc bs Q := by
  intro g p l e R s m args below meth c H locs cells slots lsA f1 f2 f3 f4 f5 f6 f7 f8 f9
  exact lv_goto f1.1 f1.2.1 hd ht (k g p l e R s m args below meth c H locs cells slots lsA f1 f2 f3 f4 f5 f6 f7 f8 f9)

theorem ex_ifnull {r : Option Nat} {off : Int} {tgt : Nat} (hd : decode M.2.1 pc = .ok (.ifnull off, 3)) (k1 : r = none → ex_G M d tgt ls st h bc bs Q) (k2 : ∀ x, r = some x → ex_G M d q ls st h bc bs Q) (ht : (pc : Int) + off = (tgt : Int) := by decide) (hq : pc + 3 = q := by rfl) : ex_G M d pc ls (rv r :: st) h bc bs Q := by
  subst hq
  intro g p l e R s m args below meth c H locs cells slots lsA f1 f2 f3 f4 f5 f6 f7 f8 f9
  cases r with
  | none => exact lv_ifnullN f1.1 f1.2.1 hd ht (k1 rfl g p l e R s m args below meth c H locs cells slots lsA f1 f2 f3 f4 f5 f6 f7 f8 f9)
  | some x => exact lv_ifnull f1.1 f1.2.1 hd (k2 x rfl g p l e R s m args below meth c H locs cells slots lsA f1 f2 f3 f4 f5 f6 f7 f8 f9)

theorem ex_ifnonnull {r : Option Nat} {off : Int} {tgt : Nat} (hd : decode M.2.1 pc = .ok (.ifnonnull off, 3)) (k1 : ∀ x, r = some x → ex_G M d tgt ls st h bc bs Q) (k2 : r = none → ex_G M d q ls st h bc bs Q) (ht : (pc : Int) + off = (tgt : Int) := by decide) (hq : pc + 3 = q := by rfl) : ex_G M d pc ls (rv r :: st) h bc bs Q := by
  subst hq
  intro g p l e R s m args below meth c H locs cells slots lsA f1 f2 f3 f4 f5 f6 f7 f8 f9
  cases r with
  | none => exact lv_ifnonnullN f1.1 f1.2.1 hd (k2 rfl g p l e R s m args below meth c H locs cells slots lsA f1 f2 f3 f4 f5 f6 f7 f8 f9)
  | some x => exact lv_ifnonnull f1.1 f1.2.1 hd ht (k1 x rfl g p l e R s m args below meth c H locs cells slots lsA f1 f2 f3 f4 f5 f6 f7 f8 f9)

end ST
end
section
/-! Fields, arrays, new cells, returns. -/
/-- an object of class c at a -/
def ah_o (h : AH) (a c : Nat) : Prop := a < ah_n h ∧ (ah_k h a).1 = 20 + c
/-- an array of kind t and length n at a -/
def ah_x (h : AH) (a t n : Nat) : Prop := a < ah_n h ∧ ah_k h a = (t, n)
/-- an index within -/
def ix (i : Int32) (n : Nat) : Prop := 0 ≤ i.toInt ∧ i.toInt < n
theorem ix_in {i : Int32} {n : Nat} (h : ix i n) : vp_in i n := vp_in_iff.mpr h
theorem ix_lt {i : Int32} {n : Nat} (h : ix i n) : i.toNatClampNeg < n := Nat.not_le.mp fun q => ix_in h (Or.inr q)
theorem ad_lt (g : GD) {h : AH} {H : Heap} (hH : HR g h H) {a : Nat} (ha : a < ah_n h) : ad g a = gd_b g + a := if_pos (Nat.lt_of_lt_of_le ha hH.2.1)
theorem ex_tw {M : MM} {g : GD} {p : Program} {s : State} {m : MethodId} {args : Array Value} {meth : Method} {c : Code} (f : ex_F M g p s m args meth c) : ∀ w ∈ tw_l, w.before args s = true := fun w hw => f.2.2.2.2.1 w hw args
theorem ex_obj {M : MM} {g : GD} {p : Program} {s : State} {m : MethodId} {args : Array Value} {meth : Method} {cd : Code} {h : AH} {H : Heap} (f : ex_F M g p s m args meth cd) (hH : HR g h H) {a c k : Nat} (ho : ah_o h a c) (hc : c < 13) (hk : k < kt_N c) :
    ∃ (cf : ClassId) (kf : Class) (fi : Nat) (fd : Field) (cell : Cell) (kC : Class), s.fieldFound? (kt_R c) (kt_T c k).2.1 (kt_T c k).2.2.1 = some (cf, kf, fi, fd) ∧ fd.isStatic = false ∧ fd.slot = gd_s g c k ∧ H[ad g a]? = some cell ∧ cell.cls = gd_c g c ∧ cell.vm = .none ∧ (∀ j, j < kt_N c → cell.slots[gd_s g c j]? = some (ce_v g h a c j)) ∧ s.vm.findClass (kt_R c) = some (gd_c g c) ∧ s.vm.classes[gd_c g c]? = some kC ∧ kC.kind = .ordinary := by
  have hce := hH.2.2 a ho.1
  unfold ce at hce
  rw [ho.2] at hce
  rw [if_neg (by omega), if_neg (by omega), if_neg (by omega), show 20 + c - 20 = c by omega] at hce
  obtain ⟨-, cell, q1, q2, q3, q4⟩ := hce
  obtain ⟨hS, hfc, kC, hkC, hkind⟩ := f.2.2.2.2.2.2.2.2.1.1 c hc
  obtain ⟨cf, kf, fi, fd, hi, hsl⟩ := hS k hk
  have hst := (u_facts hfc hkC (u_lays (ex_tw f) (kt_in c hc) hk) hi).1
  rw [kt_dc c hc k hk] at hi
  exact ⟨cf, kf, fi, fd, cell, kC, hi, hst, hsl, by rw [ad_lt g hH ho.1]; exact q1, q2, q3, q4, hfc, hkC, hkind⟩
/-- an object's cell is written: the others stay -/
theorem HR.obj {g : GD} {h h1 : AH} {H H1 : Heap} (hH : HR g h H) {a c : Nat} (ho : ah_o h a c) (hc : c < 13) (hn : ah_n h1 = ah_n h) (hk : ah_k h1 = ah_k h) (hf : ∀ b, b ≠ a → ah_f h1 b = ah_f h b) (hr : ∀ b, b ≠ a → ah_r h1 b = ah_r h b) (hi : ah_i h1 = ah_i h) (hl : ah_l h1 = ah_l h) (hq : ah_q h1 = ah_q h)
    (hz : H1.size = H.size) (hs : ∀ x, x ≠ ad g a → H1[x]? = H[x]?) (ht : t_OB (ad g a) (gd_c g c) (kt_N c) (gd_s g c) H1 (ce_v g h1 a c)) : HR g h1 H1 := by
  refine ⟨by rw [hz, hn]; exact hH.1, by rw [hn]; exact hH.2.1, fun i hi' => ?_⟩
  rw [hn] at hi'
  by_cases e : i = a
  · subst e
    unfold ce
    rw [hk, ho.2, if_neg (by omega), if_neg (by omega), if_neg (by omega), show 20 + c - 20 = c by omega]
    refine ⟨hc, ?_⟩
    rw [ad_lt g hH ho.1] at ht
    exact ht
  · refine ce_same (ce_kept (hH.2.2 i hi') (hs _ ?_)) (by rw [hk]) (hf i e) (hr i e) (by rw [hi]) (by rw [hl]) (by rw [hq])
    rw [ad_lt g hH ho.1]
    omega
theorem ad_A (g : GD) {h : AH} {H : Heap} (hH : HR g h H) {a : Nat} (ha : a < ah_n h) : gd_A g (ad g a) := by
  rw [ad_lt g hH ha]
  exact Nat.le_add_right _ _
theorem ex_apart {M : MM} {g : GD} {p : Program} {s : State} {m : MethodId} {args : Array Value} {meth : Method} {cd : Code} (f : ex_F M g p s m args meth cd) {c : Nat} (hc : c < 13) : ∀ x y, x < kt_N c → y < kt_N c → x ≠ y → gd_s g c x ≠ gd_s g c y := by
  have hK : va_K (fun _ => gd_c g c, fun _ => gd_s g c) [(kt_R c, kt_T c, kt_N c)] [] s := by
    refine ⟨fun j q hq => ?_, fun k q h => by simp at h⟩
    cases j with
    | zero => cases hq; exact f.2.2.2.2.2.2.2.2.1.1 c hc
    | succ j => simp at hq
  exact va_apart (own := M.1) (ci := 0) (ex_tw f) (kt_in c hc) (kt_ty c) (kt_tyok c hc) (kt_nm c hc) hK rfl
theorem va_S.old {g : GD} {H0 H H1 : Heap} {locs : List Loc} (x : va_S (gd_A g) H0 H locs) (hb : gd_b g ≤ H0.size) : ∀ q, q < gd_b g → H[q]? = H0[q]? := fun q hq => x.2.1 q (Nat.lt_of_lt_of_le hq hb) (Nat.not_le.mpr hq)
/-- the link of a field: its own class's, or a nest mate's -/
def fl_ (own : String) (idx c k : Nat) : Prop := Cond.fieldLink own idx (kt_R c) (kt_T c k).2.1 (kt_T c k).2.2.1 ∈ tw_l ∨ ∃ host, Cond.fieldLinkNest own idx (kt_R c) (kt_T c k).2.1 (kt_T c k).2.2.1 host ∈ tw_l
section MEM
variable {M : MM} {d pc q bc bs : Nat} {ls st : List Value} {h : AH} {Q : Option Value → AH → Prop}
theorem ex_getv {idx a c k : Nat} (hd : decode M.2.1 pc = .ok (.getfield idx, 3)) (hl : fl_ M.1 idx c k) (ho : ah_o h a c) (v : Value) (hv : ∀ g, cv g v = ce_v g h a c k) (kk : ex_G M d q ls (v :: st) h bc bs Q) (hc : c < 13 := by decide) (hk : k < kt_N c := by decide) (hq : pc + 3 = q := by rfl) : ex_G M d pc ls (.ref a :: st) h bc bs Q := by
  subst hq
  intro g p l e R s m args below meth cd H locs cells slots lsA f1 f2 f3 f4 f5 f6 f7 f8 f9
  obtain ⟨cf, kf, fi, fd, cell, kC, hi, hst, hsl, hcell, hcls, hvm, hslots, -⟩ := ex_obj f1 f2 ho hc hk
  have hslot : cell.slots[fd.slot]? = some (cv g v) := by rw [hsl, hslots k hk, hv g]
  have kk := kk g p l e R s m args below meth cd H locs cells slots lsA f1 f2 f3 f4 f5 f6 f7 f8 f9
  rcases hl with hl | ⟨host, hl⟩
  · exact W.getf f1.1 f1.2.1 f1.2.2.2.1 (ex_tw f1 _ hl) hi hst hcell (by rw [hvm]; exact fun z => by cases z) hslot rfl rfl hd kk
  · exact va_Wgetf f1.1 f1.2.1 f1.2.2.2.1 (ex_tw f1 _ hl) hi hst hcell (by rw [hvm]; exact fun z => by cases z) hslot rfl rfl hd kk
theorem ex_getf {idx a c k : Nat} (hd : decode M.2.1 pc = .ok (.getfield idx, 3)) (hl : fl_ M.1 idx c k) (ho : ah_o h a c) (kk : ex_G M d q ls (.int (ah_f h a k) :: st) h bc bs Q) (hr : (kt_ty c k).isReference = false := by rfl) (hc : c < 13 := by decide) (hk : k < kt_N c := by decide) (hq : pc + 3 = q := by rfl) : ex_G M d pc ls (.ref a :: st) h bc bs Q :=
  ex_getv hd hl ho _ (fun g => by unfold ce_v; rw [if_neg (by rw [hr]; decide)]; rfl) kk hc hk hq
theorem ex_getq {idx a c k : Nat} (hd : decode M.2.1 pc = .ok (.getfield idx, 3)) (hl : fl_ M.1 idx c k) (ho : ah_o h a c) (kk : ex_G M d q ls (rv (ah_r h a k) :: st) h bc bs Q) (hr : (kt_ty c k).isReference = true := by rfl) (hc : c < 13 := by decide) (hk : k < kt_N c := by decide) (hq : pc + 3 = q := by rfl) : ex_G M d pc ls (.ref a :: st) h bc bs Q :=
  ex_getv hd hl ho _ (fun g => by unfold ce_v; rw [if_pos hr]; exact cv_rv g _) kk hc hk hq
theorem ex_getr {idx a c k x : Nat} (hd : decode M.2.1 pc = .ok (.getfield idx, 3)) (hl : fl_ M.1 idx c k) (ho : ah_o h a c) (hx : ah_r h a k = some x) (kk : ex_G M d q ls (.ref x :: st) h bc bs Q) (hr : (kt_ty c k).isReference = true := by rfl) (hc : c < 13 := by decide) (hk : k < kt_N c := by decide) (hq : pc + 3 = q := by rfl) : ex_G M d pc ls (.ref a :: st) h bc bs Q :=
  ex_getv hd hl ho _ (fun g => by unfold ce_v; rw [if_pos hr, hx]; rfl) kk hc hk hq
/-- putfield of any value: h1 is the heap behind it -/
theorem ex_putv {idx a c k : Nat} {v : Value} {h1 : AH} (hd : decode M.2.1 pc = .ok (.putfield idx, 3)) (hl : fl_ M.1 idx c k) (ho : ah_o h a c) (hc : c < 13) (hk : k < kt_N c) (hfin : (kt_T c k).2.2.2 = false ∨ (M.2.2.2.2 = "<init>" ∧ kt_R c = M.1 ∧ Cond.fieldLink M.1 idx (kt_R c) (kt_T c k).2.1 (kt_T c k).2.2.1 ∈ tw_l ∧ (kt_T c k).2.2.2 = true)) (hnr : ∀ g, narrow (kt_ty c k) (cv g v) = cv g v) (hft : ∀ g, fits (kt_ty c k) (cv g v) = true)
    (hn : ah_n h1 = ah_n h) (hkd : ah_k h1 = ah_k h) (hf : ∀ b, b ≠ a → ah_f h1 b = ah_f h b) (hr : ∀ b, b ≠ a → ah_r h1 b = ah_r h b) (hi : ah_i h1 = ah_i h) (hll : ah_l h1 = ah_l h) (hqq : ah_q h1 = ah_q h) (hce : ∀ g j, j < kt_N c → updV (ce_v g h a c) k (cv g v) j = ce_v g h1 a c j) (hq : pc + 3 = q)
    (kk : ex_G M d q ls st h1 bc bs Q) : ex_G M d pc ls (v :: .ref a :: st) h bc bs Q := by
  subst hq
  intro g p l e R s m args below meth cd H locs cells slots lsA f1 f2 f3 f4 f5 f6 f7 f8 f9
  obtain ⟨cf, kf, fi, fd, cell, kC, hi', hst, hsl, hcell, hcls, hvm, hslots, hfc, hkC, hkind⟩ := ex_obj f1 f2 ho hc hk
  have hlt : fd.slot < cell.slots.size := by rw [hsl]; exact k2_hasslot (hslots k hk)
  have fin : ∀ (H' : Heap), H'[ad g a]? = some (cell.setSlot fd.slot (cv g v)) → H'.size = H.size → (∀ q, q ≠ ad g a → H'[q]? = H[q]?) → W p l e R s m args below meth cd H' (locs ++ [⟨ad g a, fd.slot⟩]) cells slots (MQ below (ex_Q g Q) args s R.cells R.slots (gd_A g)) (F0 m (pc + 3) lsA (st.map (cv g))) := by
    intro H' e1 e2 e3
    have ht : t_OB (ad g a) (gd_c g c) (kt_N c) (gd_s g c) H' (ce_v g h1 a c) := by
      rw [hsl] at e1
      exact t_OB.to (V := updV (ce_v g h a c) k (cv g v)) ⟨_, e1, hcls, hvm, t_set hslots (ex_apart f1 hc) hk (cv g v)⟩ (hce g)
    have hH' : HR g h1 H' := HR.obj f2 ho hc hn hkd hf hr hi hll hqq e2 e3 ht
    have f4' := f4.put (k := fd.slot) e2 e3 (ad_A g f2 ho.1)
    exact kk g p l e R s m args below meth cd H' _ cells slots lsA f1 hH' ((f3.kept (fun x hx => e3 x (by rw [ad_lt g f2 ho.1]; omega))).same (fun j _ => by rw [hkd]) (fun j _ => by rw [hi])) f4' f5 f6 f7 f8 f9
  have hlay := ex_tw f1 _ (kt_in c hc _ (u_in_lay hk))
  unfold u_lay at hlay
  have hi2 := hi'
  rw [← kt_dc c hc k hk] at hi2
  rcases hfin with hfin | ⟨hinit, hown, hl2, hfin⟩
  · rw [if_neg (by rw [hfin]; decide)] at hlay
    have h6 := u_store hfc hkC hkind hlay hi2 (kt_tyok c hc k hk) (hnr g) (hft g)
    rcases hl with hl | ⟨host, hl⟩
    · exact W.putK f1.1 f1.2.1 (f := fd) ⟨f1.2.2.2.1, ex_tw f1 _ hl, ⟨_, _, _, hi'⟩, hst⟩ (by rw [hcls]; exact h6) hcell hvm hlt rfl rfl hd fin
    · exact va_WputK f1.1 f1.2.1 (f := fd) f1.2.2.2.1 (ex_tw f1 _ hl) hi' hst (by rw [hcls]; exact h6) hcell hvm hlt rfl rfl hd fin
  · rw [if_pos hfin] at hlay
    have hcf : m.cls = cf := by
      obtain ⟨_, _, c', _, _, _, -, -, hf', -, -, -, hown2, -⟩ := Cond.laysFinal_spec hlay
      have e1 : c' = cf := by have := hi2.symm.trans hf'; simp at this; exact this.1.symm
      rw [kt_dc c hc k hk, hown] at hown2
      rw [← e1]; exact Option.some.inj (f1.2.2.2.1.symm.trans hown2)
    have h6 := u_fits hfc hkC hkind (Or.inr hlay) hi2 (kt_tyok c hc k hk) (hnr g) (hft g)
    exact W.putFinK f1.1 f1.2.1 f1.2.2.2.1 (ex_tw f1 _ hl2) hi' hst hcf (by rw [f1.2.2.2.2.2.2.2.1]; exact hinit) (by rw [hcls]; exact h6) hcell hvm hlt rfl rfl hd fin
end MEM
end
section
theorem ce_v_f {g : GD} {h : AH} {a c k : Nat} {v : Int32} (hr : (kt_ty c k).isReference = false) (j : Nat) : updV (ce_v g h a c) k (cv g (.int v)) j = ce_v g (ah_sf h a k v) a c j := by
  unfold updV ce_v
  by_cases e : j = k
  · subst e
    rw [if_pos rfl, if_neg (by rw [hr]; decide)]
    show Value.int v = Value.int (u1 (ah_f h) a (u1 (ah_f h a) j v) a j)
    rw [u1_s, u1_s]
  · rw [if_neg e]
    show _ = if _ then cr g (ah_r h a j) else Value.int (u1 (ah_f h) a (u1 (ah_f h a) k v) a j)
    rw [u1_s, u1_n _ _ e]
theorem ce_v_r {g : GD} {h : AH} {a c k : Nat} {v : Option Nat} (hr : (kt_ty c k).isReference = true) (j : Nat) : updV (ce_v g h a c) k (cv g (rv v)) j = ce_v g (ah_sr h a k v) a c j := by
  unfold updV ce_v
  by_cases e : j = k
  · subst e
    rw [if_pos rfl, if_pos hr, cv_rv]
    show cr g v = cr g (u1 (ah_r h) a (u1 (ah_r h a) j v) a j)
    rw [u1_s, u1_s]
  · rw [if_neg e]
    show _ = if _ then cr g (u1 (ah_r h) a (u1 (ah_r h a) k v) a j) else Value.int (ah_f h a j)
    rw [u1_s, u1_n _ _ e]
/-- 0 or 1 -/
def bo (v : Int32) : Prop := v = 0 ∨ v = 1
/-- what the field or array of that type may take -/
def fo (ty : FieldType) (v : Int32) : Prop := ty = .int ∨ (ty = .boolean ∧ bo v)
theorem fo_n {ty : FieldType} {v : Int32} (h : fo ty v) : narrow ty (.int v) = .int v := by
  rcases h with rfl | ⟨rfl, rfl | rfl⟩ <;> rfl
theorem fo_f {ty : FieldType} {v : Int32} (h : fo ty v) : fits ty (.int v) = true := by
  rcases h with rfl | ⟨rfl, rfl | rfl⟩ <;> rfl
theorem rf_n {ty : FieldType} (hr : ty.isReference = true) (g : GD) (v : Option Nat) : narrow ty (cv g (rv v)) = cv g (rv v) ∧ fits ty (cv g (rv v)) = true := by
  rw [cv_rv]
  cases ty with
  | object n => cases v <;> exact ⟨rfl, rfl⟩
  | array n => cases v <;> exact ⟨rfl, rfl⟩
  | _ => cases hr
/-- which fields may be written here -/
def fw_ (M : MM) (idx c k : Nat) : Prop := (kt_T c k).2.2.2 = false ∨ (M.2.2.2.2 = "<init>" ∧ kt_R c = M.1 ∧ Cond.fieldLink M.1 idx (kt_R c) (kt_T c k).2.1 (kt_T c k).2.2.1 ∈ tw_l ∧ (kt_T c k).2.2.2 = true)
theorem arr_at {g : GD} {h : AH} {H : Heap} (hH : HR g h H) {a t n : Nat} (hx : ah_x h a t n) (ht : t ≤ 1) : H[ad g a]? = some (arrV (gd_a g t) n (fun j => .int (ah_i h a j))) := by
  have hce := hH.2.2 a hx.1
  unfold ce at hce
  rw [hx.2, if_pos ht] at hce
  rw [ad_lt g hH hx.1]
  exact hce
theorem arr_at2 {g : GD} {h : AH} {H : Heap} (hH : HR g h H) {a n : Nat} (hx : ah_x h a 2 n) : H[ad g a]? = some (arrV (gd_a g 2) n (fun j => .long (ah_l h a j))) := by
  have hce := hH.2.2 a hx.1
  unfold ce at hce
  rw [hx.2, if_neg (show ¬ (2 : Nat) ≤ 1 by decide), if_pos rfl] at hce
  rw [ad_lt g hH hx.1]
  exact hce
theorem arr_at3 {g : GD} {h : AH} {H : Heap} (hH : HR g h H) {a t n : Nat} (hx : ah_x h a t n) (h3 : 3 ≤ t) (ht : t < 20) : H[ad g a]? = some (arrV (gd_a g t) n (fun j => cr g (ah_q h a j))) := by
  have hce := hH.2.2 a hx.1
  unfold ce at hce
  rw [hx.2, if_neg (by show ¬ t ≤ 1; omega), if_neg (by show ¬ t = 2; omega), if_pos ht] at hce
  rw [ad_lt g hH hx.1]
  exact hce
/-- an array's cell is written: the others stay -/
theorem HR.arr {g : GD} {h h1 : AH} {H H1 : Heap} (hH : HR g h H) {a : Nat} (ha : a < ah_n h) (hn : ah_n h1 = ah_n h) (hk : ah_k h1 = ah_k h) (hf : ah_f h1 = ah_f h) (hr : ah_r h1 = ah_r h) (hi : ∀ b, b ≠ a → ah_i h1 b = ah_i h b) (hl : ∀ b, b ≠ a → ah_l h1 b = ah_l h b) (hq : ∀ b, b ≠ a → ah_q h1 b = ah_q h b)
    (hz : H1.size = H.size) (hs : ∀ x, x ≠ ad g a → H1[x]? = H[x]?) (ht : ce g h1 a H1) : HR g h1 H1 := by
  refine ⟨by rw [hz, hn]; exact hH.1, by rw [hn]; exact hH.2.1, fun i hi' => ?_⟩
  rw [hn] at hi'
  by_cases e : i = a
  · subst e
    exact ht
  · refine ce_same (ce_kept (hH.2.2 i hi') (hs _ ?_)) (by rw [hk]) (by rw [hf]) (by rw [hr]) (hi i e) (hl i e) (hq i e)
    rw [ad_lt g hH ha]
    omega
theorem OL.far {g : GD} {h h1 : AH} {s : State} {H H1 : Heap} (hH : HR g h H) (x : OL g h s H) {a : Nat} (ha : a < ah_n h) (hk : ah_k h1 = ah_k h) (hi : ∀ b, b ≠ a → ah_i h1 b = ah_i h b) (hs : ∀ q, q ≠ ad g a → H1[q]? = H[q]?) : OL g h1 s H1 := by
  refine (x.kept (fun q hq => hs q ?_)).same (fun j _ => by rw [hk]) (fun j _ => hi _ ?_)
  · rw [ad_lt g hH ha]; omega
  · have := hH.2.1; omega
/-- an int array that may be read: a cell of the walk, or an old one -/
def ah_ra (h : AH) (a n : Nat) : Prop := ah_x h a 0 n ∨ ∃ j, j < 3 ∧ a = 10000000 + j ∧ (ah_k h a).2 = n
section ARR
variable {M : MM} {d pc q bc bs : Nat} {ls st : List Value} {h : AH} {Q : Option Value → AH → Prop}
theorem ex_putf {idx a c k : Nat} {v : Int32} (hd : decode M.2.1 pc = .ok (.putfield idx, 3)) (hl : fl_ M.1 idx c k) (hw : fw_ M idx c k) (ho : ah_o h a c) (hv : fo (kt_ty c k) v) (kk : ex_G M d q ls st (ah_sf h a k v) bc bs Q) (hr : (kt_ty c k).isReference = false := by rfl) (hc : c < 13 := by decide) (hk : k < kt_N c := by decide) (hq : pc + 3 = q := by rfl) : ex_G M d pc ls (.int v :: .ref a :: st) h bc bs Q :=
  ex_putv (h1 := ah_sf h a k v) hd hl ho hc hk hw (fun _ => fo_n hv) (fun _ => fo_f hv) rfl rfl (fun b hb => u1_n _ _ hb) (fun _ _ => rfl) rfl rfl rfl (fun g j _ => ce_v_f hr j) hq kk
theorem ex_putq {idx a c k : Nat} {v : Option Nat} (hd : decode M.2.1 pc = .ok (.putfield idx, 3)) (hl : fl_ M.1 idx c k) (hw : fw_ M idx c k) (ho : ah_o h a c) (kk : ex_G M d q ls st (ah_sr h a k v) bc bs Q) (hr : (kt_ty c k).isReference = true := by rfl) (hc : c < 13 := by decide) (hk : k < kt_N c := by decide) (hq : pc + 3 = q := by rfl) : ex_G M d pc ls (rv v :: .ref a :: st) h bc bs Q :=
  ex_putv (h1 := ah_sr h a k v) hd hl ho hc hk hw (fun g => (rf_n hr g v).1) (fun g => (rf_n hr g v).2) rfl rfl (fun _ _ => rfl) (fun b hb => u1_n _ _ hb) rfl rfl rfl (fun g j _ => ce_v_r hr j) hq kk
theorem ex_putr {idx a c k x : Nat} (hd : decode M.2.1 pc = .ok (.putfield idx, 3)) (hl : fl_ M.1 idx c k) (hw : fw_ M idx c k) (ho : ah_o h a c) (kk : ex_G M d q ls st (ah_sr h a k (some x)) bc bs Q) (hr : (kt_ty c k).isReference = true := by rfl) (hc : c < 13 := by decide) (hk : k < kt_N c := by decide) (hq : pc + 3 = q := by rfl) : ex_G M d pc ls (.ref x :: .ref a :: st) h bc bs Q :=
  ex_putq (v := some x) hd hl hw ho kk hr hc hk hq
theorem ex_iaload {a n : Nat} {i : Int32} (hd : decode M.2.1 pc = .ok (.iaload, 1)) (hx : ah_ra h a n) (hi : ix i n) (kk : ex_G M d q ls (.int (ah_i h a i.toNatClampNeg) :: st) h bc bs Q) (hq : pc + 1 = q := by rfl) : ex_G M d pc ls (.int i :: .ref a :: st) h bc bs Q := by
  subst hq
  intro g p l e R s m args below meth cd H locs cells slots lsA f1 f2 f3 f4 f5 f6 f7 f8 f9
  have kk := kk g p l e R s m args below meth cd H locs cells slots lsA f1 f2 f3 f4 f5 f6 f7 f8 f9
  rcases hx with hx | ⟨j, hj, rfl, hn⟩
  · exact W.iald f1.1 f1.2.1 (arr_at f2 hx (by decide)) ((f1.2.2.2.2.2.2.2.2.1.2.1 0 (by decide)).1 n _) (fun z => by cases z) (by rw [arrV_size]; exact ix_in hi) (by rw [arrV_read _ _ (ix_lt hi)]; rfl) rfl rfl hd kk
  · obtain ⟨o1, o2, scr, o3, o4, o5, o6, o7⟩ := f3 j hj
    have ea : ad g (10000000 + j) = gd_o g j := by unfold ad; rw [if_neg (by omega), Nat.add_sub_cancel_left]
    rw [hn] at o6 o7
    exact W.iald f1.1 f1.2.1 (a := ad g (10000000 + j)) (by rw [ea]; exact o3) o4 o5 (by rw [o6]; exact ix_in hi) (o7 _ (ix_lt hi)) rfl rfl hd kk
theorem ex_alen {a n : Nat} (hd : decode M.2.1 pc = .ok (.arraylength, 1)) (hx : ah_ra h a n ∨ ah_x h a 2 n) (kk : ex_G M d q ls (.int (Int32.ofNat n) :: st) h bc bs Q) (hq : pc + 1 = q := by rfl) : ex_G M d pc ls (.ref a :: st) h bc bs Q := by
  subst hq
  intro g p l e R s m args below meth cd H locs cells slots lsA f1 f2 f3 f4 f5 f6 f7 f8 f9
  have kk := kk g p l e R s m args below meth cd H locs cells slots lsA f1 f2 f3 f4 f5 f6 f7 f8 f9
  rcases hx with (hx | ⟨j, hj, rfl, hn⟩) | hx
  · exact W.alen f1.1 f1.2.1 (arr_at f2 hx (by decide)) ((f1.2.2.2.2.2.2.2.2.1.2.1 0 (by decide)).1 n _) (by rw [arrV_size]) rfl rfl hd kk
  · obtain ⟨o1, o2, scr, o3, o4, o5, o6, o7⟩ := f3 j hj
    have ea : ad g (10000000 + j) = gd_o g j := by unfold ad; rw [if_neg (by omega), Nat.add_sub_cancel_left]
    rw [hn] at o6 o7
    exact W.alen f1.1 f1.2.1 (a := ad g (10000000 + j)) (by rw [ea]; exact o3) o4 (by rw [o6]) rfl rfl hd kk
  · exact W.alen f1.1 f1.2.1 (arr_at2 f2 hx) ((f1.2.2.2.2.2.2.2.2.1.2.1 2 (by decide)).1 n _) (by rw [arrV_size]) rfl rfl hd kk
theorem ex_baload {a n : Nat} {i : Int32} (hd : decode M.2.1 pc = .ok (.baload, 1)) (hx : ah_x h a 1 n) (hi : ix i n) (kk : ex_G M d q ls (.int (ah_i h a i.toNatClampNeg) :: st) h bc bs Q) (hq : pc + 1 = q := by rfl) : ex_G M d pc ls (.int i :: .ref a :: st) h bc bs Q := by
  subst hq
  intro g p l e R s m args below meth cd H locs cells slots lsA f1 f2 f3 f4 f5 f6 f7 f8 f9
  have kk := kk g p l e R s m args below meth cd H locs cells slots lsA f1 f2 f3 f4 f5 f6 f7 f8 f9
  exact W.zald f1.1 f1.2.1 (arr_at f2 hx (by decide)) ((f1.2.2.2.2.2.2.2.2.1.2.1 1 (by decide)).1 n _) (fun z => by cases z) (by rw [arrV_size]; exact ix_in hi) (by rw [arrV_read _ _ (ix_lt hi)]; rfl) rfl rfl hd kk
theorem ex_laload {a n : Nat} {i : Int32} (hd : decode M.2.1 pc = .ok (.laload, 1)) (hx : ah_x h a 2 n) (hi : ix i n) (kk : ex_G M d q ls (.long (ah_l h a i.toNatClampNeg) :: st) h bc bs Q) (hq : pc + 1 = q := by rfl) : ex_G M d pc ls (.int i :: .ref a :: st) h bc bs Q := by
  subst hq
  intro g p l e R s m args below meth cd H locs cells slots lsA f1 f2 f3 f4 f5 f6 f7 f8 f9
  have kk := kk g p l e R s m args below meth cd H locs cells slots lsA f1 f2 f3 f4 f5 f6 f7 f8 f9
  exact W.lald f1.1 f1.2.1 (arr_at2 f2 hx) ((f1.2.2.2.2.2.2.2.2.1.2.1 2 (by decide)).1 n _) (fun z => by cases z) (by rw [arrV_size]; exact ix_in hi) (by rw [arrV_read _ _ (ix_lt hi)]; rfl) rfl rfl hd kk
theorem at_ref {t : Nat} (h3 : 3 ≤ t) : (at_ty t).isReference = true := by
  match t, h3 with
  | 3, _ => rfl
  | t + 4, _ => rfl
theorem ex_aaloadq {a t n : Nat} {i : Int32} (hd : decode M.2.1 pc = .ok (.aaload, 1)) (hx : ah_x h a t n) (hi : ix i n) (kk : ex_G M d q ls (rv (ah_q h a i.toNatClampNeg) :: st) h bc bs Q) (ht : t ∈ at_tags ∧ 3 ≤ t := by decide) (hq : pc + 1 = q := by rfl) : ex_G M d pc ls (.int i :: .ref a :: st) h bc bs Q := by
  subst hq
  intro g p l e R s m args below meth cd H locs cells slots lsA f1 f2 f3 f4 f5 f6 f7 f8 f9
  have kk := kk g p l e R s m args below meth cd H locs cells slots lsA f1 f2 f3 f4 f5 f6 f7 f8 f9
  rw [List.map_cons, cv_rv] at kk
  have h20 : t < 20 := by
    have := ht.1
    simp only [at_tags, List.mem_cons, List.not_mem_nil, or_false] at this
    omega
  exact W.aald f1.1 f1.2.1 (arr_at3 f2 hx ht.2 h20) ((f1.2.2.2.2.2.2.2.2.1.2.1 t ht.1).1 n _) (at_ref ht.2) (fun z => by cases z) (by rw [arrV_size]; exact ix_in hi) (by rw [arrV_read _ _ (ix_lt hi)]) rfl rfl hd kk
theorem ex_aaload {a t n x : Nat} {i : Int32} (hd : decode M.2.1 pc = .ok (.aaload, 1)) (hx : ah_x h a t n) (hi : ix i n) (hy : ah_q h a i.toNatClampNeg = some x) (kk : ex_G M d q ls (.ref x :: st) h bc bs Q) (ht : t ∈ at_tags ∧ 3 ≤ t := by decide) (hq : pc + 1 = q := by rfl) : ex_G M d pc ls (.int i :: .ref a :: st) h bc bs Q :=
  ex_aaloadq hd hx hi (by rw [hy]; exact kk) ht hq
theorem ex_iastore {a n : Nat} {i v : Int32} (hd : decode M.2.1 pc = .ok (.iastore, 1)) (hx : ah_x h a 0 n) (hi : ix i n) (kk : ex_G M d q ls st (ah_si h a i.toNatClampNeg v) bc bs Q) (hq : pc + 1 = q := by rfl) : ex_G M d pc ls (.int v :: .int i :: .ref a :: st) h bc bs Q := by
  subst hq
  intro g p l e R s m args below meth cd H locs cells slots lsA f1 f2 f3 f4 f5 f6 f7 f8 f9
  refine W.iast f1.1 f1.2.1 (arr_at f2 hx (by decide)) ((f1.2.2.2.2.2.2.2.2.1.2.1 0 (by decide)).1 n _) (fun z => by cases z) (by rw [arrV_size]; exact ix_in hi) rfl rfl hd fun H1 e1 z1 o1 => ?_
  have hH1 : HR g (ah_si h a i.toNatClampNeg v) H1 := by
    refine HR.arr f2 hx.1 rfl rfl rfl rfl (fun b hb => u1_n _ _ hb) (fun _ _ => rfl) (fun _ _ => rfl) z1 o1 ?_
    unfold ce
    show if (ah_k h a).1 ≤ 1 then _ else _
    rw [hx.2, if_pos (show (0 : Nat) ≤ 1 by decide), ← ad_lt g f2 hx.1, e1, arrV_store]
    show some (arrV _ n _) = some (arrV (gd_a g (ah_k h a).1) (ah_k h a).2 _)
    rw [hx.2]
    congr 2
    funext j
    show updV _ _ _ j = Value.int (u1 (ah_i h) a (u1 (ah_i h a) i.toNatClampNeg v) a j)
    rw [u1_s]
    unfold updV u1
    split <;> rfl
  exact kk g p l e R s m args below meth cd H1 _ cells slots lsA f1 hH1 (OL.far f2 f3 hx.1 rfl (fun b hb => u1_n _ _ hb) o1) (f4.put z1 o1 (ad_A g f2 hx.1)) f5 f6 f7 f8 f9
theorem ex_bastore {a n : Nat} {i v : Int32} (hd : decode M.2.1 pc = .ok (.bastore, 1)) (hx : ah_x h a 1 n) (hi : ix i n) (hv : bo v) (kk : ex_G M d q ls st (ah_si h a i.toNatClampNeg v) bc bs Q) (hq : pc + 1 = q := by rfl) : ex_G M d pc ls (.int v :: .int i :: .ref a :: st) h bc bs Q := by
  subst hq
  intro g p l e R s m args below meth cd H locs cells slots lsA f1 f2 f3 f4 f5 f6 f7 f8 f9
  refine W.zast f1.1 f1.2.1 (arr_at f2 hx (by decide)) ((f1.2.2.2.2.2.2.2.2.1.2.1 1 (by decide)).1 n _) (fun z => by cases z) (by rw [arrV_size]; exact ix_in hi) rfl rfl hd fun H1 e1 z1 o1 => ?_
  have hH1 : HR g (ah_si h a i.toNatClampNeg v) H1 := by
    refine HR.arr f2 hx.1 rfl rfl rfl rfl (fun b hb => u1_n _ _ hb) (fun _ _ => rfl) (fun _ _ => rfl) z1 o1 ?_
    unfold ce
    show if (ah_k h a).1 ≤ 1 then _ else _
    rw [hx.2, if_pos (show (1 : Nat) ≤ 1 by decide), ← ad_lt g f2 hx.1, e1, arrV_store, fo_n (Or.inr ⟨rfl, hv⟩)]
    show some (arrV _ n _) = some (arrV (gd_a g (ah_k h a).1) (ah_k h a).2 _)
    rw [hx.2]
    congr 2
    funext j
    show updV _ _ _ j = Value.int (u1 (ah_i h) a (u1 (ah_i h a) i.toNatClampNeg v) a j)
    rw [u1_s]
    unfold updV u1
    split <;> rfl
  exact kk g p l e R s m args below meth cd H1 _ cells slots lsA f1 hH1 (OL.far f2 f3 hx.1 rfl (fun b hb => u1_n _ _ hb) o1) (f4.put z1 o1 (ad_A g f2 hx.1)) f5 f6 f7 f8 f9
theorem ex_lastore {a n : Nat} {i : Int32} {v : Int64} (hd : decode M.2.1 pc = .ok (.lastore, 1)) (hx : ah_x h a 2 n) (hi : ix i n) (kk : ex_G M d q ls st (ah_sl h a i.toNatClampNeg v) bc bs Q) (hq : pc + 1 = q := by rfl) : ex_G M d pc ls (.long v :: .int i :: .ref a :: st) h bc bs Q := by
  subst hq
  intro g p l e R s m args below meth cd H locs cells slots lsA f1 f2 f3 f4 f5 f6 f7 f8 f9
  refine W.last f1.1 f1.2.1 (arr_at2 f2 hx) ((f1.2.2.2.2.2.2.2.2.1.2.1 2 (by decide)).1 n _) (fun z => by cases z) (by rw [arrV_size]; exact ix_in hi) rfl rfl hd fun H1 e1 z1 o1 => ?_
  have hH1 : HR g (ah_sl h a i.toNatClampNeg v) H1 := by
    refine HR.arr f2 hx.1 rfl rfl rfl rfl (fun _ _ => rfl) (fun b hb => u1_n _ _ hb) (fun _ _ => rfl) z1 o1 ?_
    unfold ce
    show if (ah_k h a).1 ≤ 1 then _ else if (ah_k h a).1 = 2 then _ else _
    rw [hx.2, if_neg (show ¬ (2 : Nat) ≤ 1 by decide), if_pos (show (2 : Nat) = 2 from rfl), ← ad_lt g f2 hx.1, e1, arrV_store]
    show some (arrV _ n _) = some (arrV _ (ah_k h a).2 _)
    rw [hx.2]
    congr 2
    funext j
    show updV _ _ _ j = Value.long (u1 (ah_l h) a (u1 (ah_l h a) i.toNatClampNeg v) a j)
    rw [u1_s]
    unfold updV u1
    split <;> rfl
  exact kk g p l e R s m args below meth cd H1 _ cells slots lsA f1 hH1 (OL.far f2 f3 hx.1 rfl (fun _ _ => rfl) o1) (f4.put z1 o1 (ad_A g f2 hx.1)) f5 f6 f7 f8 f9
end ARR
end
section
/-! Returns, constants, switches, new cells, calls. -/
section CAL
variable {M : MM} {d pc q bc bs : Nat} {ls st : List Value} {h : AH} {Q : Option Value → AH → Prop}
theorem ex_fin {g : GD} {s t : State} {H : Heap} {locs : List Loc} {args : Array Value} {r : Option Value} (f2 : HR g h H) (f3 : OL g h s H) (f4 : va_S (gd_A g) s.heap H locs) (hb : gd_b g ≤ s.heap.size) (hQ : Q r h) (ht : t.heap = H) (hW : s.WarmedH t.vm) : ex_Q g Q args s (.returned (r.map (cv g))) t :=
  ⟨r, h, rfl, hQ, by rw [ht]; exact f2, by rw [ht]; exact f3.moved hW.alike, by rw [ht]; exact f4.1, fun x hx => by rw [ht]; exact f4.2.1 x (Nat.lt_of_lt_of_le hx hb) (Nat.not_le.mpr hx)⟩
theorem ex_ireturn {v : Int32} {ty : FieldType} (hd : decode M.2.1 pc = .ok (.ireturn, 1)) (hr : M.2.2.2.1 = some ty) (hv : fo ty v) (hQ : Q (some (.int v)) h) : ex_G M d pc ls [.int v] h bc bs Q := by
  intro g p l e R s m args below meth cd H locs cells slots lsA f1 f2 f3 f4 f5 f6 f7 f8 f9
  refine W.widen (k := R.cells) (n := R.slots) (by omega) (by omega) ?_
  exact W.zret f1.1 f1.2.1 (by rw [f1.2.2.2.2.2.1]; exact hr) (fo_n hv) (fun t ht hW => ex_fin (r := some (.int v)) f2 f3 f4 f1.2.2.2.2.2.2.2.2.2.2 hQ ht hW) f4.2.2 hd f1.2.2.2.2.2.2.1
theorem ex_lreturn {v : Int64} (hd : decode M.2.1 pc = .ok (.lreturn, 1)) (hQ : Q (some (.long v)) h) (hr : M.2.2.2.1 = some .long := by rfl) : ex_G M d pc ls [.long v] h bc bs Q := by
  intro g p l e R s m args below meth cd H locs cells slots lsA f1 f2 f3 f4 f5 f6 f7 f8 f9
  refine W.widen (k := R.cells) (n := R.slots) (by omega) (by omega) ?_
  exact W.lret f1.1 f1.2.1 (by rw [f1.2.2.2.2.2.1]; exact hr) (fun t ht hW => ex_fin (r := some (.long v)) f2 f3 f4 f1.2.2.2.2.2.2.2.2.2.2 hQ ht hW) f4.2.2 hd f1.2.2.2.2.2.2.1
theorem ex_return (hd : decode M.2.1 pc = .ok (.return_, 1)) (hQ : Q none h) (hr : M.2.2.2.1 = none := by rfl) : ex_G M d pc ls [] h bc bs Q := by
  intro g p l e R s m args below meth cd H locs cells slots lsA f1 f2 f3 f4 f5 f6 f7 f8 f9
  refine W.widen (k := R.cells) (n := R.slots) (by omega) (by omega) ?_
  exact W.vret f1.1 f1.2.1 (by rw [f1.2.2.2.2.2.1]; exact hr) (fun t ht hW => ex_fin (r := none) f2 f3 f4 f1.2.2.2.2.2.2.2.2.2.2 hQ ht hW) f4.2.2 hd f1.2.2.2.2.2.2.1
theorem ex_lcmp {x y : Int64} (hd : decode M.2.1 pc = .ok (.lcmp, 1)) (k : ex_G M d q ls (.int (lg_cmp x y) :: st) h bc bs Q) (hq : pc + 1 = q := by rfl) : ex_G M d pc ls (.long y :: .long x :: st) h bc bs Q := by
  subst hq
  intro g p l e R s m args below meth cd H locs cells slots lsA f1 f2 f3 f4 f5 f6 f7 f8 f9
  exact W.lcmp f1.1 f1.2.1 hd (k g p l e R s m args below meth cd H locs cells slots lsA f1 f2 f3 f4 f5 f6 f7 f8 f9)
theorem ex_ldc {idx : Nat} {v : Int32} (hd : decode M.2.1 pc = .ok (.ldc idx, 2)) (hl : Cond.constant M.1 idx v ∈ tw_l) (k : ex_G M d q ls (.int v :: st) h bc bs Q) (hq : pc + 2 = q := by rfl) : ex_G M d pc ls st h bc bs Q := by
  subst hq
  intro g p l e R s m args below meth cd H locs cells slots lsA f1 f2 f3 f4 f5 f6 f7 f8 f9
  exact lv_ldc f1.1 f1.2.1 f1.2.2.2.1 (ex_tw f1 _ hl) hd (k g p l e R s m args below meth cd H locs cells slots lsA f1 f2 f3 f4 f5 f6 f7 f8 f9)
theorem ex_ldc_w {idx : Nat} {v : Int32} (hd : decode M.2.1 pc = .ok (.ldc_w idx, 3)) (hl : Cond.constant M.1 idx v ∈ tw_l) (k : ex_G M d q ls (.int v :: st) h bc bs Q) (hq : pc + 3 = q := by rfl) : ex_G M d pc ls st h bc bs Q := by
  subst hq
  intro g p l e R s m args below meth cd H locs cells slots lsA f1 f2 f3 f4 f5 f6 f7 f8 f9
  exact lv_ldcw f1.1 f1.2.1 f1.2.2.2.1 (ex_tw f1 _ hl) hd (k g p l e R s m args below meth cd H locs cells slots lsA f1 f2 f3 f4 f5 f6 f7 f8 f9)
theorem ex_ldc2_w {idx : Nat} {v : Int64} (hd : decode M.2.1 pc = .ok (.ldc2_w idx, 3)) (hl : Cond.constantLong M.1 idx v ∈ tw_l) (k : ex_G M d q ls (.long v :: st) h bc bs Q) (hq : pc + 3 = q := by rfl) : ex_G M d pc ls st h bc bs Q := by
  subst hq
  intro g p l e R s m args below meth cd H locs cells slots lsA f1 f2 f3 f4 f5 f6 f7 f8 f9
  exact lv_ldc2 f1.1 f1.2.1 f1.2.2.2.1 (ex_tw f1 _ hl) hd (k g p l e R s m args below meth cd H locs cells slots lsA f1 f2 f3 f4 f5 f6 f7 f8 f9)
/-- tableswitch: the jump's place as a function of the number -/
def sw_t (dflt lo hi : Int) (offs : List Int) (x : Int) : Int := if x < lo ∨ hi < x then dflt else offs.getD (x - lo).toNat 0
theorem ex_tsw {dflt lo hi : Int} {offs : Array Int} {len tgt : Nat} {x : Int32} (hd : decode M.2.1 pc = .ok (.tableswitch dflt lo hi offs, len)) (ht : (pc : Int) + sw_t dflt lo hi offs.toList x.toInt = (tgt : Int)) (k : ex_G M d tgt ls st h bc bs Q) (hz : (hi - lo).toNat < offs.size := by decide) : ex_G M d pc ls (.int x :: st) h bc bs Q := by
  intro g p l e R s m args below meth cd H locs cells slots lsA f1 f2 f3 f4 f5 f6 f7 f8 f9
  have k := k g p l e R s m args below meth cd H locs cells slots lsA f1 f2 f3 f4 f5 f6 f7 f8 f9
  unfold sw_t at ht
  by_cases hx : x.toInt < lo ∨ hi < x.toInt
  · rw [if_pos hx] at ht
    exact lv_tableOut f1.1 f1.2.1 hd hx ht k
  · rw [if_neg hx] at ht
    refine lv_tableIn f1.1 f1.2.1 hd (fun z => hx (Or.inl z)) (fun z => hx (Or.inr z)) (off := offs.toList.getD (x.toInt - lo).toNat 0) ?_ ht k
    have hlt : (x.toInt - lo).toNat < offs.size := by omega
    rw [Array.getElem?_eq_getElem hlt, List.getD_eq_getElem?_getD, List.getElem?_eq_getElem (by simpa using hlt)]
    rfl
theorem ex_lsw {dflt : Int} {ps : Array (Int × Int)} {len tgt : Nat} {x : Int32} (hd : decode M.2.1 pc = .ok (.lookupswitch dflt ps, len)) (ht : (pc : Int) + Op.lookupswitch.offset ps.toList dflt x.toInt = (tgt : Int)) (k : ex_G M d tgt ls st h bc bs Q) (hp : (ps.toList.zip (ps.toList.drop 1)).all (fun (a, next) => a.1 < next.1) = true := by decide) : ex_G M d pc ls (.int x :: st) h bc bs Q := by
  intro g p l e R s m args below meth cd H locs cells slots lsA f1 f2 f3 f4 f5 f6 f7 f8 f9
  exact lv_lookup f1.1 f1.2.1 hd hp rfl ht (k g p l e R s m args below meth cd H locs cells slots lsA f1 f2 f3 f4 f5 f6 f7 f8 f9)
/-- getstatic of the two tables -/
theorem ex_gets1 {idx : Nat} (hd : decode M.2.1 pc = .ok (.getstatic idx, 3)) (hl : Cond.fieldLink M.1 idx RX11 "COLOUR_COUNTS" "[I" ∈ tw_l) (k : ex_G M d q ls (.ref 10000001 :: st) h bc bs Q) (hq : pc + 3 = q := by rfl) : ex_G M d pc ls st h bc bs Q := by
  subst hq
  intro g p l e R s m args below meth cd H locs cells slots lsA f1 f2 f3 f4 f5 f6 f7 f8 f9
  exact va_gets f1.1 f1.2.1 f1.2.2.2.2.2.2.2.2.2.1.1 f4 f1.2.2.2.1 (ex_tw f1 _ hl) (fun _ h => h) hd (k g p l e R s m args below meth cd H locs cells slots lsA f1 f2 f3 f4 f5 f6 f7 f8 f9)
theorem ex_gets2 {idx : Nat} (hd : decode M.2.1 pc = .ok (.getstatic idx, 3)) (hl : Cond.fieldLink M.1 idx RX5 "PARENTS" "[I" ∈ tw_l) (k : ex_G M d q ls (.ref 10000002 :: st) h bc bs Q) (hq : pc + 3 = q := by rfl) : ex_G M d pc ls st h bc bs Q := by
  subst hq
  intro g p l e R s m args below meth cd H locs cells slots lsA f1 f2 f3 f4 f5 f6 f7 f8 f9
  exact va_gets f1.1 f1.2.1 f1.2.2.2.2.2.2.2.2.2.1.2 f4 f1.2.2.2.1 (ex_tw f1 _ hl) (fun _ h => h) hd (k g p l e R s m args below meth cd H locs cells slots lsA f1 f2 f3 f4 f5 f6 f7 f8 f9)
/-- one cell more -/
theorem HR.push {g : GD} {h h1 : AH} {H H1 : Heap} (hH : HR g h H) (hN : ah_n h < 10000000) (hn : ah_n h1 = ah_n h + 1) (hk : ∀ b, b ≠ ah_n h → ah_k h1 b = ah_k h b) (hf : ∀ b, b ≠ ah_n h → ah_f h1 b = ah_f h b) (hr : ∀ b, b ≠ ah_n h → ah_r h1 b = ah_r h b) (hi : ∀ b, b ≠ ah_n h → ah_i h1 b = ah_i h b) (hl : ∀ b, b ≠ ah_n h → ah_l h1 b = ah_l h b) (hq : ∀ b, b ≠ ah_n h → ah_q h1 b = ah_q h b)
    (hz : H1.size = H.size + 1) (hs : ∀ x, x < H.size → H1[x]? = H[x]?) (ht : ce g h1 (ah_n h) H1) : HR g h1 H1 := by
  refine ⟨by rw [hz, hn, hH.1]; omega, by rw [hn]; omega, fun i hi' => ?_⟩
  rw [hn] at hi'
  by_cases e : i = ah_n h
  · subst e
    exact ht
  · exact ce_same (ce_kept (hH.2.2 i (by omega)) (hs _ (by rw [hH.1]; omega))) (hk i e) (hf i e) (hr i e) (hi i e) (hl i e) (hq i e)
theorem OL.push {g : GD} {h h1 : AH} {s : State} {H H1 : Heap} (hH : HR g h H) (x : OL g h s H) (hN : ah_n h < 10000000) (hk : ∀ b, b ≠ ah_n h → ah_k h1 b = ah_k h b) (hi : ∀ b, b ≠ ah_n h → ah_i h1 b = ah_i h b) (hs : ∀ x, x < H.size → H1[x]? = H[x]?) : OL g h1 s H1 :=
  (x.kept (fun q hq => hs q (by rw [hH.1]; omega))).same (fun j _ => hk _ (by omega)) (fun j _ => hi _ (by omega))
theorem va_S.push {A : Nat → Prop} {H0 H H1 : Heap} {locs : List Loc} (x : va_S A H0 H locs) (hz : H1.size = H.size + 1) (hs : ∀ x, x < H.size → H1[x]? = H[x]?) : va_S A H0 H1 locs :=
  ⟨Nat.le_trans x.1 (by omega), fun q h1 h2 => (hs q (Nat.lt_of_lt_of_le h1 x.1)).trans (x.2.1 q h1 h2), x.2.2⟩
theorem kt_dv : ∀ c, c < 13 → ∀ k, k < kt_N c → defaultValue (kt_ty c k) = if (kt_ty c k).isReference = true then .null else .int 0 := by decide +kernel
theorem ex_new {idx c : Nat} (hd : decode M.2.1 pc = .ok (.new idx, 3)) (hl : Cond.classLink M.1 idx (kt_R c) ∈ tw_l) (hin : Cond.instantiable (kt_R c) (kt_N c) ∈ tw_l) (hini : Cond.initialized (kt_R c) ∈ tw_l) (hN : ah_n h < 10000000) (kk : ex_G M d q ls (.ref (ah_n h) :: st) (ah_no h c) bc bs Q) (hc : c < 13 := by decide) (hq : pc + 3 = q := by rfl) : ex_G M d pc ls st h (bc + 1) (bs + kt_N c) Q := by
  subst hq
  intro g p l e R s m args below meth cd H locs cells slots lsA f1 f2 f3 f4 f5 f6 f7 f8 f9
  have hKn := f1.2.2.2.2.2.2.2.2.1.1 c hc
  refine W.newcK f1.1 f1.2.1 f1.2.2.2.1 (ex_tw f1 _ hl) (ex_tw f1 _ hin) (ex_tw f1 _ hini) rfl hd (by omega) (by omega) hKn.2.1 rfl fun H1 kC hkC e1 z1 o1 => ?_
  have hH1 : HR g (ah_no h c) H1 := by
    refine f2.push hN rfl (fun b hb => u1_n _ _ hb) (fun b hb => u1_n _ _ hb) (fun b hb => u1_n _ _ hb) (fun _ _ => rfl) (fun _ _ => rfl) (fun _ _ => rfl) z1 o1 ?_
    have ek : ah_k (ah_no h c) (ah_n h) = (20 + c, 0) := u1_s _ _ _
    unfold ce
    rw [ek, if_neg (show ¬ 20 + c ≤ 1 by omega), if_neg (show ¬ 20 + c = 2 by omega), if_neg (show ¬ 20 + c < 20 by omega)]
    show 20 + c - 20 < 13 ∧ t_OB _ (gd_c g (20 + c - 20)) (kt_N (20 + c - 20)) (gd_s g (20 + c - 20)) H1 (ce_v g (ah_no h c) (ah_n h) (20 + c - 20))
    rw [show 20 + c - 20 = c by omega]
    refine ⟨hc, ?_⟩
    rw [f2.1] at e1
    refine (u_born (kt_ty c) (ex_tw f1) (kt_in c hc) hKn hkC e1 (kt_tyok c hc)).to (fun k hk => ?_)
    rw [kt_dv c hc k hk]
    unfold ce_v
    have er : ah_r (ah_no h c) (ah_n h) = fun _ => none := u1_s _ _ _
    have ef : ah_f (ah_no h c) (ah_n h) = fun _ => 0 := u1_s _ _ _
    rw [er, ef]
    rfl
  have kk := kk g p l e R s m args below meth cd H1 locs (cells + 1) (slots + kt_N c) lsA f1 hH1 (OL.push f2 f3 hN (fun b hb => u1_n _ _ hb) (fun _ _ => rfl) o1) (f4.push z1 o1) f5 f6 f7 (by omega) (by omega)
  have ea : ad g (ah_n h) = H.size := by rw [f2.1]; exact if_pos hN
  have e2 : (Value.ref (ah_n h) :: st).map (cv g) = .ref H.size :: st.map (cv g) := by show Value.ref (ad g (ah_n h)) :: _ = _; rw [ea]
  rw [e2] at kk
  exact kk
theorem ce_na {g : GD} {H1 : Heap} {t n : Nat} (ht : t < 20) {cA : ClassId} (ha : cA = gd_a g t) {x : Value} (hx : x = if t ≤ 1 then .int 0 else if t = 2 then .long 0 else .null) (e1 : H1[gd_b g + ah_n h]? = some (arrV cA n (fun _ => x))) : ce g (ah_na h t n) (ah_n h) H1 := by
  have ek : ah_k (ah_na h t n) (ah_n h) = (t, n) := u1_s _ _ _
  have ei : ah_i (ah_na h t n) (ah_n h) = fun _ => 0 := u1_s _ _ _
  have el : ah_l (ah_na h t n) (ah_n h) = fun _ => 0 := u1_s _ _ _
  have eq : ah_q (ah_na h t n) (ah_n h) = fun _ => none := u1_s _ _ _
  subst ha
  subst hx
  unfold ce
  rw [ek, ei, el, eq, e1]
  show if t ≤ 1 then _ else if t = 2 then _ else if t < 20 then _ else _
  by_cases h1 : t ≤ 1
  · rw [if_pos h1, if_pos h1]
  · rw [if_neg h1, if_neg h1]
    by_cases h2 : t = 2
    · subst h2
      rfl
    · rw [if_neg h2, if_neg h2, if_pos ht]
      rfl
theorem ex_newarray {atype : ArrayType} {t : Nat} {n : Int32} {N : Nat} (hd : decode M.2.1 pc = .ok (.newarray atype, 2)) (hty : newarray.typeOf atype = at_ty t) (ht : t ≤ 2) (hac : Cond.arrayClass (at_ty t) ∈ tw_l) (hn : n = Int32.ofNat N) (hN2 : N ≤ 1000000) (hN : ah_n h < 10000000) (kk : ex_G M d q ls (.ref (ah_n h) :: st) (ah_na h t N) bc bs Q) (hq : pc + 2 = q := by rfl) : ex_G M d pc ls (.int n :: st) h (bc + 1) (bs + N) Q := by
  subst hq
  intro g p l e R s m args below meth cd H locs cells slots lsA f1 f2 f3 f4 f5 f6 f7 f8 f9
  have hnc : n.toNatClampNeg = N := by rw [hn]; exact nI_clamp (by omega)
  have hn0 : ¬ n < 0 := by rw [hn]; exact nI_pos (by omega)
  have hac := ex_tw f1 _ hac
  rw [← hty] at hac
  have hcb : componentBytes (newarray.typeOf atype) ≤ 8 := by cases atype <;> decide
  refine va_newaK f1.1 f1.2.1 hac rfl hd rfl hn0 hnc (by have := Nat.mul_le_mul hN2 hcb; omega) (by omega) (by omega) rfl fun H1 cA e1 z1 o1 hAr hNm => ?_
  have hta : t ∈ at_tags := by
    match t, ht with
    | 0, _ => decide
    | 1, _ => decide
    | 2, _ => decide
  have hRA := (f1.2.2.2.2.2.2.2.2.1.2.1 t hta).2
  have ha : cA = gd_a g t := by
    rw [hty] at hNm
    match t, ht, hRA, hNm with
    | 0, _, hRA, hNm => exact Option.some.inj (hNm.symm.trans hRA)
    | 1, _, hRA, hNm => exact Option.some.inj (hNm.symm.trans hRA)
    | 2, _, hRA, hNm => exact Option.some.inj (hNm.symm.trans hRA)
  rw [f2.1] at e1
  have hH1 : HR g (ah_na h t N) H1 := by
    refine f2.push hN rfl (fun b hb => u1_n _ _ hb) (fun _ _ => rfl) (fun _ _ => rfl) (fun b hb => u1_n _ _ hb) (fun b hb => u1_n _ _ hb) (fun b hb => u1_n _ _ hb) z1 o1 (ce_na (by omega) ha ?_ e1)
    rw [hty]
    match t, ht with
    | 0, _ => rfl
    | 1, _ => rfl
    | 2, _ => rfl
  have kk := kk g p l e R s m args below meth cd H1 locs (cells + 1) (slots + N) lsA f1 hH1 (OL.push f2 f3 hN (fun b hb => u1_n _ _ hb) (fun b hb => u1_n _ _ hb) o1) (f4.push z1 o1) f5 f6 f7 (by omega) (by omega)
  have ea : ad g (ah_n h) = H.size := by rw [f2.1]; exact if_pos hN
  have e2 : (Value.ref (ah_n h) :: st).map (cv g) = .ref H.size :: st.map (cv g) := by show Value.ref (ad g (ah_n h)) :: _ = _; rw [ea]
  rw [e2] at kk
  exact kk
theorem ex_anewarray {idx c : Nat} {n : Int32} {N : Nat} (hd : decode M.2.1 pc = .ok (.anewarray idx, 3)) (hl : Cond.classLink M.1 idx (kt_R c) ∈ tw_l) (hao : Cond.arrayOver (.object (kt_R c)) ∈ tw_l) (hn : n = Int32.ofNat N) (hN2 : N ≤ 1000000) (hN : ah_n h < 10000000) (kk : ex_G M d q ls (.ref (ah_n h) :: st) (ah_na h (4 + c) N) bc bs Q) (hc : 4 + c ∈ at_tags ∧ c < 13 := by decide) (hq : pc + 3 = q := by rfl) : ex_G M d pc ls (.int n :: st) h (bc + 1) (bs + N) Q := by
  subst hq
  intro g p l e R s m args below meth cd H locs cells slots lsA f1 f2 f3 f4 f5 f6 f7 f8 f9
  have hnc : n.toNatClampNeg = N := by rw [hn]; exact nI_clamp (by omega)
  have hn0 : ¬ n < 0 := by rw [hn]; exact nI_pos (by omega)
  refine W.anew f1.1 f1.2.1 f1.2.2.2.1 (ex_tw f1 _ hl) (ex_tw f1 _ hao) rfl hd rfl hn0 (by rw [hnc]; omega) (by omega) (by rw [hnc]; omega) fun cA kA comp g1 g2 g3 g4 => ?_
  rw [hnc]
  generalize hH1 : H.push ({ cls := cA, slots := Array.replicate N .null, vm := .none } : Cell) = H1
  have z1 : H1.size = H.size + 1 := by rw [← hH1, Array.size_push]
  have e1 : H1[H.size]? = some (arrV cA N (fun _ => .null)) := by rw [← hH1, Array.getElem?_push_size, ← arrV_new]
  have o1 : ∀ q : Nat, q < H.size → H1[q]? = H[q]? := fun q hq => by rw [← hH1, Array.getElem?_push, if_neg (Nat.ne_of_lt hq)]
  have hRA := (f1.2.2.2.2.2.2.2.2.1.2.1 (4 + c) hc.1).2
  have ety : at_ty (4 + c) = .object (kt_R c) := by rw [Nat.add_comm]; rfl
  rw [ety] at hRA
  obtain ⟨_, _, -, -, -, r4⟩ := hRA
  have ha : cA = gd_a g (4 + c) := Option.some.inj (g1.symm.trans r4)
  rw [f2.1] at e1
  have hH2 : HR g (ah_na h (4 + c) N) H1 := f2.push hN rfl (fun b hb => u1_n _ _ hb) (fun _ _ => rfl) (fun _ _ => rfl) (fun b hb => u1_n _ _ hb) (fun b hb => u1_n _ _ hb) (fun b hb => u1_n _ _ hb) z1 o1 (ce_na (by omega) ha (by rw [if_neg (by omega), if_neg (by omega)]) e1)
  have kk := kk g p l e R s m args below meth cd H1 locs (cells + 1) (slots + N) lsA f1 hH2 (OL.push f2 f3 hN (fun b hb => u1_n _ _ hb) (fun b hb => u1_n _ _ hb) o1) (f4.push z1 o1) f5 f6 f7 (by omega) (by omega)
  have ea : ad g (ah_n h) = H.size := by rw [f2.1]; exact if_pos hN
  have e2 : (Value.ref (ah_n h) :: st).map (cv g) = .ref H.size :: st.map (cv g) := by show Value.ref (ad g (ah_n h)) :: _ = _; rw [ea]
  rw [e2] at kk
  exact kk
end CAL
end
section
/-! aastore, calls. -/
section CA2
variable {M : MM} {d pc q bc bs : Nat} {ls st : List Value} {h : AH} {Q : Option Value → AH → Prop}
theorem ce_sq {g : GD} {H H1 : Heap} (f2 : HR g h H) {a t n x j : Nat} (hx : ah_x h a t n) (h3 : 3 ≤ t) (h20 : t < 20) (e1 : H1[ad g a]? = some ((arrV (gd_a g t) n (fun j => cr g (ah_q h a j))).setSlot j (.ref (ad g x)))) : ce g (ah_sq h a j (some x)) a H1 := by
  unfold ce
  show if (ah_k h a).1 ≤ 1 then _ else if (ah_k h a).1 = 2 then _ else if (ah_k h a).1 < 20 then _ else _
  rw [hx.2, if_neg (show ¬ t ≤ 1 by omega), if_neg (show ¬ t = 2 by omega), if_pos (show t < 20 from h20), ← ad_lt g f2 hx.1, e1, arrV_store]
  show some (arrV _ n _) = some (arrV (gd_a g (ah_k h a).1) (ah_k h a).2 _)
  rw [hx.2]
  congr 2
  funext k
  show updV _ _ _ k = cr g (u1 (ah_q h) a (u1 (ah_q h a) j (some x)) a k)
  rw [u1_s]
  unfold updV u1
  split <;> rfl
theorem ex_aastore {a c n x : Nat} {i : Int32} (hd : decode M.2.1 pc = .ok (.aastore, 1)) (hx : ah_x h a (4 + c) n) (hi : ix i n) (ho : ah_o h x c) (kk : ex_G M d q ls st (ah_sq h a i.toNatClampNeg (some x)) bc bs Q) (hc : 4 + c ∈ at_tags ∧ c < 13 := by decide) (hq : pc + 1 = q := by rfl) : ex_G M d pc ls (.ref x :: .int i :: .ref a :: st) h bc bs Q := by
  subst hq
  intro g p l e R s m args below meth cd H locs cells slots lsA f1 f2 f3 f4 f5 f6 f7 f8 f9
  have hce := f2.2.2 x ho.1
  unfold ce at hce
  rw [ho.2, if_neg (by omega), if_neg (by omega), if_neg (by omega), show 20 + c - 20 = c by omega] at hce
  obtain ⟨-, cellV, g1, g2, g3, -⟩ := hce
  rw [← ad_lt g f2 ho.1] at g1
  have hcls := (f1.2.2.2.2.2.2.2.2.1.1 c hc.2).2
  have hRA := (f1.2.2.2.2.2.2.2.2.1.2.1 (4 + c) hc.1).2
  have ety : at_ty (4 + c) = .object (kt_R c) := by rw [Nat.add_comm]; rfl
  rw [ety] at hRA
  obtain ⟨kA, comp, k1, k2, k3, -⟩ := hRA
  have hcomp : comp = gd_c g c := Option.some.inj (k3.symm.trans hcls.1)
  subst hcomp
  obtain ⟨kC, hkC, hkind⟩ := hcls.2
  refine W.aast f1.1 f1.2.1 (arr_at3 f2 hx (by omega) (by omega)) (fun z => by rintro ⟨⟩) (fun z => by cases z) k1 k2 rfl hkC (by rw [arrV_size]; exact ⟨fun z => ix_in hi (Or.inl z), ix_lt hi⟩) g1 (fun z => by rw [g3]; rintro ⟨⟩) (by rw [g2]; exact hkC) (by rw [g2]; exact va_assign hcls) rfl rfl hd fun H1 e1 z1 o1 => ?_
  have hH1 : HR g (ah_sq h a i.toNatClampNeg (some x)) H1 := HR.arr f2 hx.1 rfl rfl rfl rfl (fun _ _ => rfl) (fun _ _ => rfl) (fun b hb => u1_n _ _ hb) z1 o1 (ce_sq f2 hx (by omega) (by omega) e1)
  exact kk g p l e R s m args below meth cd H1 _ cells slots lsA f1 hH1 (OL.far f2 f3 hx.1 rfl (fun _ _ => rfl) o1) (f4.put z1 o1 (ad_A g f2 hx.1)) f5 f6 f7 f8 f9
theorem ex_aastorei {a n x m' : Nat} {i : Int32} (hd : decode M.2.1 pc = .ok (.aastore, 1)) (hx : ah_x h a 3 n) (hi : ix i n) (ho : ah_x h x 0 m') (kk : ex_G M d q ls st (ah_sq h a i.toNatClampNeg (some x)) bc bs Q) (hq : pc + 1 = q := by rfl) : ex_G M d pc ls (.ref x :: .int i :: .ref a :: st) h bc bs Q := by
  subst hq
  intro g p l e R s m args below meth cd H locs cells slots lsA f1 f2 f3 f4 f5 f6 f7 f8 f9
  obtain ⟨kA, kC, k1, k2, k3, k4⟩ := f1.2.2.2.2.2.2.2.2.1.2.2
  refine W.aast f1.1 f1.2.1 (arr_at3 f2 hx (by omega) (by omega)) (fun z => by rintro ⟨⟩) (fun z => by cases z) k1 k2 rfl k3 (by rw [arrV_size]; exact ⟨fun z => ix_in hi (Or.inl z), ix_lt hi⟩) (arr_at f2 ho (by decide)) (fun z => by rintro ⟨⟩) k3 k4 rfl rfl hd fun H1 e1 z1 o1 => ?_
  have hH1 : HR g (ah_sq h a i.toNatClampNeg (some x)) H1 := HR.arr f2 hx.1 rfl rfl rfl rfl (fun _ _ => rfl) (fun _ _ => rfl) (fun b hb => u1_n _ _ hb) z1 o1 (ce_sq f2 hx (by omega) (by omega) e1)
  exact kk g p l e R s m args below meth cd H1 _ cells slots lsA f1 hH1 (OL.far f2 f3 hx.1 rfl (fun _ _ => rfl) o1) (f4.put z1 o1 (ad_A g f2 hx.1)) f5 f6 f7 f8 f9
/-- Object's constructor -/
theorem ex_objInit {idx a : Nat} (hd : decode M.2.1 pc = .ok (.invokespecial idx, 3)) (hl : Cond.methodLink M.1 idx Lib.objectInit ∈ tw_l) (kk : ex_G M d q ls st h bc bs Q) (hd1 : 1 ≤ d := by omega) (hs : (st.map fun v => v.category).sum ≤ 8 := by decide) (h1 : Cond.instanceMethod Lib.objectInit ∈ tw_l := by decide +kernel) (h2 : Cond.code Lib.objectInit ⟨#[0xb1]⟩ 1 none ∈ tw_l := by decide +kernel) (hq : pc + 3 = q := by rfl) : ex_G M d pc ls (.ref a :: st) h bc bs Q := by
  subst hq
  intro g p l e R s m args below meth cd H locs cells slots lsA f1 f2 f3 f4 f5 f6 f7 f8 f9
  have hs2 : ((st.map (cv g)).map fun v => v.category).sum ≤ 8 := by
    rw [List.map_map]
    have : ((fun v => Value.category v) ∘ cv g) = fun v => v.category := funext fun v => cv_cat g v
    rw [this]
    exact hs
  refine W.objInit f1.1 f1.2.1 f1.2.2.2.1 (ex_tw f1 _ hl) (ex_tw f1 _ h1) (ex_tw f1 _ h2) rfl (by rw [f1.2.2.1]; exact f5.1) rfl hd (by omega) ?_ (kk g p l e R s m args below meth cd H locs cells slots lsA f1 f2 f3 f4 f5 f6 f7 f8 f9)
  show 2 * 0 + _ + 12 ≤ _
  omega
/-- what a call's place says of the one that is called -/
def cs_ (M : MM) (idx : Nat) (y : MethodName) (M' : MM) (n : Nat) : Prop :=
  (Cond.methodLink M.1 idx y ∈ tw_l ∨ ∃ host, Cond.methodLinkNest M.1 idx y host ∈ tw_l) ∧ Cond.code y M'.2.1 M'.2.2.1 M'.2.2.2.1 ∈ tw_l ∧ Cond.initialized y.cls ∈ tw_l ∧ (y.cls ≠ "java/lang/invoke/MethodHandle" ∧ y.cls ≠ "java/lang/invoke/VarHandle") ∧ (parseMethodDescriptor y.desc).map (fun d => d.parameters.length) = some n ∧ M'.2.2.1 ≤ 100
theorem cs_len {M M' : MM} {idx n : Nat} {y : MethodName} (x : cs_ M idx y M' n) : ∀ sig, parseMethodDescriptor y.desc = some sig → n = sig.parameters.length := fun sig h => by
  have h2 := x.2.2.2.2.1
  rw [h] at h2
  exact (Option.some.inj h2).symm
theorem tw_blind (g : GD) (h : AH) (vs : List Value) : FrameBlind (va_Pc vs (tw_i g h)) := by
  intro a U f mk x
  obtain ⟨e, x1, x2, x3, x4, x5⟩ := x
  exact ⟨e, tw_moved (u := U) (U := U.calling f mk a) (State.WarmedH.refl U) x1, x2.moved (u := U) (U := U.calling f mk a) (Vm.Alike.refl U.vm), x3, x4.moved (u := U) (U := U.calling f mk a) (Vm.Alike.refl U.vm), x5.moved (u := U) (U := U.calling f mk a) (Vm.Alike.refl U.vm)⟩
theorem tw_pre {g : GD} {p : Program} {s : State} {m : MethodId} {args : Array Value} {meth : Method} {cd : Code} {H : Heap} {locs : List Loc} (f1 : ex_F M g p s m args meth cd) (f2 : HR g h H) (f3 : OL g h s H) (f4 : va_S (gd_A g) s.heap H locs) (vs : List Value) : ∀ U : State, U.heap = H → s.WarmedH U.vm → va_Pc vs (tw_i g h) vs.toArray U := by
  intro U hU hW
  refine ⟨rfl, tw_moved hW f1.2.2.2.2.1, f1.2.2.2.2.2.2.2.2.1.moved hW.alike, by rw [hU]; exact f2, by rw [hU]; exact f3.moved hW.alike, ?_⟩
  rw [hU]
  exact (f1.2.2.2.2.2.2.2.2.2.1.kept (fun q hq => f4.2.1 q (Nat.lt_of_lt_of_le hq f1.2.2.2.2.2.2.2.2.2.2) (Nat.not_le.mpr hq))).moved hW.alike
theorem ex_after {g : GD} {p : Program} {l : Launch} {e : Env} {R : Room} {s : State} {m : MethodId} {args a : Array Value} {below : List Frame} {meth : Method} {cd : Code} {H : Heap} {locs : List Loc} {cells slots mc ms : Nat} {lsA : Array Slot} {st0 : List Value} {Q' : Option Value → AH → Prop}
    (hr : va_Run p l e R s m args below meth cd H locs cells slots mc ms (F0 m pc lsA st0) (st.map (cv g)) (ex_Q g Q' a) (gd_A g)) (f1 : ex_F M g p s m args meth cd) (f2 : HR g h H) (f4 : va_S (gd_A g) s.heap H locs) (f5 : lv_has lsA M.2.2.1 (ex_lp 0 (ls.map (cv g)))) (f6 : d ≤ R.frames) (f7 : 200 * d ≤ R.locals) (f8 : cells + (bc + mc) ≤ R.cells) (f9 : slots + (bs + ms) ≤ R.slots)
    (kk : ∀ r h', Q' r h' → ex_G M d (pc + 3) ls (r.toList ++ st) h' bc bs Q) : W p l e R s m args below meth cd H locs cells slots (MQ below (ex_Q g Q) args s R.cells R.slots (gd_A g)) (F0 m pc lsA st0) := by
  intro T hT X
  obtain ⟨v, st₀, t, T', L, h0, X', hL, e1, e2, ⟨r, h', hv, hq, hH', hO', hz, hold⟩, stp⟩ := hr T hT X
  rw [h0] at hz hold
  cases hv
  have hS' : va_S (gd_A g) s.heap t.heap (locs ++ L) := ⟨Nat.le_trans f4.1 hz, fun x h1 h2 => by rw [hold x (Nat.not_le.mp h2)]; exact f4.2.1 x h1 h2, fun x hx => by
      rcases List.mem_append.mp hx with y | y
      · exact f4.2.2 x y
      · exact hL x y⟩
  have hal : t.vm.Alike s.vm := by rw [← e2]; exact X'.warmed.alike.symm
  obtain ⟨t2, a1, b1⟩ := kk r h' hq g p l e R s m args below meth cd t.heap (locs ++ L) (cells + mc) (slots + ms) lsA f1 hH' (hO'.moved hal) hS' f5 f6 f7 (by omega) (by omega) T' e1 X'
  refine ⟨t2, stp t2 ?_, b1⟩
  have e3 : ((r.toList ++ st).map (cv g)) = (r.map (cv g)).toList ++ st.map (cv g) := by cases r <;> rfl
  rw [e3] at a1
  exact a1
theorem cv_cats {g : GD} (hs : (st.map fun v => v.category).sum ≤ 8) : ((st.map (cv g)).map fun v => v.category).sum ≤ 8 := by
  rw [List.map_map]
  have : ((fun v => Value.category v) ∘ cv g) = fun v => v.category := funext fun v => cv_cat g v
  rw [this]
  exact hs
theorem ex_callS {idx d' n : Nat} {y : MethodName} {M' : MM} {vs st0 : List Value} {mc ms : Nat} {Q' : Option Value → AH → Prop} (hd : decode M.2.1 pc = .ok (.invokestatic idx, 3)) (hst0 : vs.reverse ++ st = st0) (hc : cs_ M idx y M' n) (hstat : Cond.static y ∈ tw_l) (hS : ex_S y M' d' vs h mc ms Q') (kk : ∀ r h', Q' r h' → ex_G M d q ls (r.toList ++ st) h' bc bs Q) (hdd : d' + 1 ≤ d := by omega) (hn : vs.length = n := by rfl) (hs : (st.map fun v => v.category).sum ≤ 8 := by decide) (hq : pc + 3 = q := by rfl) : ex_G M d pc ls st0 h (bc + mc) (bs + ms) Q := by
  subst hq
  intro g p l e R s m args below meth cd H locs cells slots lsA f1 f2 f3 f4 f5 f6 f7 f8 f9
  have hws : ∀ w ∈ [Cond.code y M'.2.1 M'.2.2.1 M'.2.2.2.1], ∀ (a' : Array Value) (U : State), s.WarmedH U.vm → w.before a' U = true := fun w hw a' U hW => by
    rw [List.mem_singleton.mp hw]
    exact tw_moved hW f1.2.2.2.2.1 _ hc.2.1 a'
  have hstk : st0.map (cv g) = (vs.map (cv g)).reverse ++ st.map (cv g) := by rw [← hst0, List.map_append, List.map_reverse]
  have hfx : CallFix p m cd M.2.1 M.2.2.1 s args tw_l M.1 := ⟨f1.1, f1.2.1, f1.2.2.1, f1.2.2.2.1, ex_tw f1⟩
  have h8 := hc.2.2.2.2.2
  refine ex_after (a := (vs.map (cv g)).toArray) (mc := mc) (ms := ms) ?_ f1 f2 f4 f5 f6 f7 (by omega) (by omega) kk
  rcases hc.1 with hl | ⟨host, hl⟩
  · exact va_runS (n := n) hfx (hS g l) ⟨⟨rfl, rfl, by show d' + 1 ≤ _; omega, by show 8 + (_ + 11) + 200 * d' ≤ _; omega, hws, List.mem_singleton.mpr rfl, ex_tw f1 _ hc.2.1, ex_tw f1 _ hc.2.2.1, hc.2.2.2.1, cs_len hc, ex_tw f1 _ hl⟩, ex_tw f1 _ hstat⟩ ⟨tw_blind g h _, tw_pre f1 f2 f3 f4 _⟩ rfl (by rw [List.length_map]; exact hn) f5.1 hstk (lv_room (cv_cats hs)) hd ⟨by omega, by omega⟩
  · exact va_runSN (n := n) hfx (hS g l) ⟨⟨⟨rfl, rfl, by show d' + 1 ≤ _; omega, by show 8 + (_ + 11) + 200 * d' ≤ _; omega, hws, List.mem_singleton.mpr rfl⟩, ex_tw f1 _ hc.2.1, ex_tw f1 _ hc.2.2.1, hc.2.2.2.1, cs_len hc, ex_tw f1 _ hl⟩, ex_tw f1 _ hstat, trivial⟩ ⟨tw_blind g h _, tw_pre f1 f2 f3 f4 _⟩ rfl (by rw [List.length_map]; exact hn) f5.1 hstk (lv_room (cv_cats hs)) hd ⟨by omega, by omega⟩
theorem ex_recv {g : GD} {p : Program} {s : State} {m : MethodId} {args : Array Value} {meth : Method} {cd : Code} {H : Heap} (f1 : ex_F M g p s m args meth cd) (f2 : HR g h H) {a c : Nat} (ho : ah_o h a c) (hc : c < 13) : ∃ cell : Cell, H[ad g a]? = some cell ∧ cell.vm.isStatics = false ∧ s.vm.findClass (kt_R c) = some cell.cls := by
  have hce := f2.2.2 a ho.1
  unfold ce at hce
  rw [ho.2, if_neg (by omega), if_neg (by omega), if_neg (by omega), show 20 + c - 20 = c by omega] at hce
  obtain ⟨-, cellV, g1, g2, g3, -⟩ := hce
  rw [← ad_lt g f2 ho.1] at g1
  exact ⟨cellV, g1, by rw [g3]; rfl, by rw [g2]; exact (f1.2.2.2.2.2.2.2.2.1.1 c hc).2.1⟩
theorem ex_callV {idx d' n a c : Nat} {y : MethodName} {M' : MM} {vs st0 : List Value} {mc ms : Nat} {Q' : Option Value → AH → Prop} (hd : decode M.2.1 pc = .ok (.invokevirtual idx, 3)) (hst0 : vs.reverse ++ .ref a :: st = st0) (hc : cs_ M idx y M' n) (hin : Cond.instanceMethod y ∈ tw_l) (hse : Cond.selects (kt_R c) y y ∈ tw_l) (ho : ah_o h a c) (hS : ex_S y M' d' (.ref a :: vs) h mc ms Q') (kk : ∀ r h', Q' r h' → ex_G M d q ls (r.toList ++ st) h' bc bs Q) (hdd : d' + 1 ≤ d := by omega) (hn : vs.length = n := by rfl) (hs : (st.map fun v => v.category).sum ≤ 8 := by decide) (hcc : c < 13 := by decide) (hq : pc + 3 = q := by rfl) : ex_G M d pc ls st0 h (bc + mc) (bs + ms) Q := by
  subst hq
  intro g p l e R s m args below meth cd H locs cells slots lsA f1 f2 f3 f4 f5 f6 f7 f8 f9
  have hws : ∀ w ∈ [Cond.code y M'.2.1 M'.2.2.1 M'.2.2.2.1], ∀ (a' : Array Value) (U : State), s.WarmedH U.vm → w.before a' U = true := fun w hw a' U hW => by
    rw [List.mem_singleton.mp hw]
    exact tw_moved hW f1.2.2.2.2.1 _ hc.2.1 a'
  have hstk : st0.map (cv g) = (vs.map (cv g)).reverse ++ .ref (ad g a) :: st.map (cv g) := by rw [← hst0, List.map_append, List.map_reverse]; rfl
  have hfx : CallFix p m cd M.2.1 M.2.2.1 s args tw_l M.1 := ⟨f1.1, f1.2.1, f1.2.2.1, f1.2.2.2.1, ex_tw f1⟩
  have h8 := hc.2.2.2.2.2
  refine ex_after (a := (Value.ref (ad g a) :: vs.map (cv g)).toArray) (mc := mc) (ms := ms) ?_ f1 f2 f4 f5 f6 f7 (by omega) (by omega) kk
  rcases hc.1 with hl | ⟨host, hl⟩
  · exact va_runV (n := n) (As := vs.map (cv g)) (b := ad g a) hfx (hS g l) ⟨⟨rfl, rfl, by show d' + 1 ≤ _; omega, by show 8 + (_ + 11) + 200 * d' ≤ _; omega, hws, List.mem_singleton.mpr rfl, ex_tw f1 _ hc.2.1, ex_tw f1 _ hc.2.2.1, hc.2.2.2.1, cs_len hc, ex_tw f1 _ hl⟩, ex_tw f1 _ hin, ex_tw f1 _ hse⟩ ⟨tw_blind g h _, ex_recv f1 f2 ho hcc, tw_pre f1 f2 f3 f4 _⟩ rfl (by rw [List.length_map]; exact hn) f5.1 hstk (lv_room (cv_cats hs)) hd ⟨by omega, by omega⟩
  · exact va_runVN (n := n) (As := vs.map (cv g)) (b := ad g a) hfx (hS g l) ⟨⟨⟨rfl, rfl, by show d' + 1 ≤ _; omega, by show 8 + (_ + 11) + 200 * d' ≤ _; omega, hws, List.mem_singleton.mpr rfl⟩, ex_tw f1 _ hc.2.1, ex_tw f1 _ hc.2.2.1, hc.2.2.2.1, cs_len hc, ex_tw f1 _ hl⟩, ex_tw f1 _ hin, ex_tw f1 _ hse⟩ ⟨tw_blind g h _, ex_recv f1 f2 ho hcc, tw_pre f1 f2 f3 f4 _⟩ rfl (by rw [List.length_map]; exact hn) f5.1 hstk (lv_room (cv_cats hs)) hd ⟨by omega, by omega⟩
theorem ex_callI {idx d' n a : Nat} {y : MethodName} {M' : MM} {vs st0 : List Value} {mc ms : Nat} {Q' : Option Value → AH → Prop} (hd : decode M.2.1 pc = .ok (.invokespecial idx, 3)) (hst0 : vs.reverse ++ .ref a :: st = st0) (hc : cs_ M idx y M' n) (hin : Cond.instanceMethod y ∈ tw_l) (hyn : y.name = "<init>") (hr0 : M'.2.2.2.1 = none) (hS : ex_S y M' d' (.ref a :: vs) h mc ms Q') (kk : ∀ r h', Q' r h' → ex_G M d q ls (r.toList ++ st) h' bc bs Q) (hdd : d' + 1 ≤ d := by omega) (hn : vs.length = n := by rfl) (hs : (st.map fun v => v.category).sum ≤ 8 := by decide) (hq : pc + 3 = q := by rfl) : ex_G M d pc ls st0 h (bc + mc) (bs + ms) Q := by
  subst hq
  intro g p l e R s m args below meth cd H locs cells slots lsA f1 f2 f3 f4 f5 f6 f7 f8 f9
  have hws : ∀ w ∈ [Cond.code y M'.2.1 M'.2.2.1 M'.2.2.2.1], ∀ (a' : Array Value) (U : State), s.WarmedH U.vm → w.before a' U = true := fun w hw a' U hW => by
    rw [List.mem_singleton.mp hw]
    exact tw_moved hW f1.2.2.2.2.1 _ hc.2.1 a'
  have hstk : st0.map (cv g) = (vs.map (cv g)).reverse ++ .ref (ad g a) :: st.map (cv g) := by rw [← hst0, List.map_append, List.map_reverse]; rfl
  have hfx : CallFix p m cd M.2.1 M.2.2.1 s args tw_l M.1 := ⟨f1.1, f1.2.1, f1.2.2.1, f1.2.2.2.1, ex_tw f1⟩
  have h8 := hc.2.2.2.2.2
  have hcode := hc.2.1
  have hS' := hS g l
  rw [hr0] at hcode hS' hws
  refine ex_after (a := (Value.ref (ad g a) :: vs.map (cv g)).toArray) (mc := mc) (ms := ms) ?_ f1 f2 f4 f5 f6 f7 (by omega) (by omega) kk
  rcases hc.1 with hl | ⟨host, hl⟩
  · exact va_runI (n := n) (As := vs.map (cv g)) (b := ad g a) hfx hS' ⟨⟨rfl, rfl, by show d' + 1 ≤ _; omega, by show 8 + (_ + 11) + 200 * d' ≤ _; omega, hws, List.mem_singleton.mpr rfl, ex_tw f1 _ hcode, ex_tw f1 _ hc.2.2.1, hc.2.2.2.1, cs_len hc, ex_tw f1 _ hl⟩, hyn, ex_tw f1 _ hin⟩ ⟨tw_blind g h _, tw_pre f1 f2 f3 f4 _⟩ rfl (by rw [List.length_map]; exact hn) f5.1 hstk (lv_room (cv_cats hs)) hd ⟨by omega, by omega⟩
  · exact va_runIN (n := n) (As := vs.map (cv g)) (b := ad g a) hfx hS' ⟨⟨⟨rfl, rfl, by show d' + 1 ≤ _; omega, by show 8 + (_ + 11) + 200 * d' ≤ _; omega, hws, List.mem_singleton.mpr rfl⟩, ex_tw f1 _ hcode, ex_tw f1 _ hc.2.2.1, hc.2.2.2.1, cs_len hc, ex_tw f1 _ hl⟩, hyn, ex_tw f1 _ hin⟩ ⟨tw_blind g h _, tw_pre f1 f2 f3 f4 _⟩ rfl (by rw [List.length_map]; exact hn) f5.1 hstk (lv_room (cv_cats hs)) hd ⟨by omega, by omega⟩
end CA2
end
section
/-! System.arraycopy of ints, of longs. -/
section CPY
variable {M : MM} {d pc q bc bs : Nat} {ls st : List Value} {h : AH} {Q : Option Value → AH → Prop}
theorem ex_copyi {idx a0 a n0 n1 : Nat} {sp dp n : Int32} (hd : decode M.2.1 pc = .ok (.invokestatic idx, 3)) (hl : Cond.methodLink M.1 idx arraycopyName ∈ tw_l) (ha0 : ah_x h a0 0 n0) (ha1 : ah_x h a 0 n1) (h1 : 0 ≤ sp.toInt) (h2 : 0 ≤ dp.toInt) (h3 : 0 ≤ n.toInt) (h4 : sp.toInt + n.toInt ≤ n0) (h5 : dp.toInt + n.toInt ≤ n1)
    (kk : ex_G M d q ls st (ah_wi h a (va_cpy (ah_i h a0) (ah_i h a) sp.toNatClampNeg dp.toNatClampNeg n.toNatClampNeg)) bc bs Q) (hd1 : 1 ≤ d := by omega) (hs : (st.map fun v => v.category).sum ≤ 8 := by decide) (hq : pc + 3 = q := by rfl) : ex_G M d pc ls (.int n :: .int dp :: .ref a :: .int sp :: .ref a0 :: st) h bc bs Q := by
  subst hq
  intro g p l e R s m args below meth cd H locs cells slots lsA f1 f2 f3 f4 f5 f6 f7 f8 f9
  have nn : ∀ z : Int32, 0 ≤ z.toInt → z.toInt = (z.toNatClampNeg : Int) := by
    intro z hz
    show z.toInt = ((z.toInt.toNat : Nat) : Int)
    omega
  have ng : ∀ z : Int32, 0 ≤ z.toInt → ¬ z < 0 := fun z hz hlt => by
    have := Int32.lt_iff_toInt_lt.mp hlt
    rw [Int32.toInt_zero] at this
    omega
  have e1 := nn sp h1
  have e2 := nn dp h2
  have e3 := nn n h3
  intro T hT X
  have hc0 := arr_at f2 ha0 (by decide)
  have hc1 := arr_at f2 ha1 (by decide)
  have hK := (f1.2.2.2.2.2.2.2.2.1.2.1 0 (by decide)).1
  obtain ⟨-, k0, hk0, cm0, hkk0⟩ := hK n0 (fun j => .int (ah_i h a0 j))
  obtain ⟨-, k1, hk1, cm1, hkk1⟩ := hK n1 (fun j => .int (ah_i h a j))
  obtain ⟨vm', X', step⟩ := X.arraycopy f1.1 f1.2.2.2.1 (ex_tw f1 _ hl) (ex_tw f1 (.native arraycopyName) (by decide +kernel)) (ex_tw f1 (.static arraycopyName) (by decide +kernel)) (ex_tw f1 (.initialized "java/lang/System") (by decide +kernel)) (src := ad g a0) (dst := ad g a) (srcPos := sp) (destPos := dp) (n := n) (by rw [hT]; exact hc0) (by rw [hT]; exact hc1)
    (fun _ h => by cases h) (fun _ h => by cases h) (fun h => by cases h) (fun h => by cases h) hk0 hk1 hkk0 hkk1 (by rfl) (ng sp h1) (ng dp h2) (ng n h3)
    (by rw [arrV_size]; omega) (by rw [arrV_size]; omega)
    (fun vm₁ _ i hi => by
      have e : (arrV (gd_a g 0) n0 (fun j => Value.int (ah_i h a0 j))).slots.getD (sp.toNatClampNeg + i) .null = .int (ah_i h a0 (sp.toNatClampNeg + i)) := by
        rw [Array.getD_eq_getD_getElem?, arrV_read _ _ (by omega)]
        rfl
      rw [e]
      exact ⟨rfl, trivial⟩)
    (g := F0 m pc lsA ((.int n :: .int dp :: .ref a :: .int sp :: .ref a0 :: st).map (cv g))) rfl (by rw [f1.2.2.1]; exact f5.1) (rest := st.map (cv g)) rfl (by rw [f1.2.1]; exact hd) (by omega) (by have := cv_cats (g := g) hs; show 2 * 0 + _ + (nativeFrameWords "java/lang/System" "arraycopy" 5 + 11) ≤ _; have : nativeFrameWords "java/lang/System" "arraycopy" 5 ≤ 100 := (by decide +kernel); omega)
  have ec : copied (arrV (gd_a g 0) n0 (fun j => Value.int (ah_i h a0 j))) (arrV (gd_a g 0) n1 (fun j => Value.int (ah_i h a j))) sp dp n = arrV (gd_a g 0) n1 (fun j => .int (va_cpy (ah_i h a0) (ah_i h a) sp.toNatClampNeg dp.toNatClampNeg n.toNatClampNeg j)) := va_copied (fun z => .int z) _ _ _ _ (by omega)
  rw [ec] at X' step
  have hlt : ad g a < H.size := (Array.getElem?_eq_some_iff.mp hc1).1
  generalize hH1 : H.setIfInBounds (ad g a) (arrV (gd_a g 0) n1 (fun j => Value.int (va_cpy (ah_i h a0) (ah_i h a) sp.toNatClampNeg dp.toNatClampNeg n.toNatClampNeg j))) = H1
  have hheap : ((T.setVm vm').setCell (ad g a) (arrV (gd_a g 0) n1 (fun j => Value.int (va_cpy (ah_i h a0) (ah_i h a) sp.toNatClampNeg dp.toNatClampNeg n.toNatClampNeg j)))).heap = H1 := by rw [← hH1, ← hT]; rfl
  have oq : ∀ q : Nat, q ≠ ad g a → H1[q]? = H[q]? := fun q hq => by rw [← hH1]; simp [Array.getElem?_setIfInBounds, Ne.symm hq]
  have hself : H1[ad g a]? = some (arrV (gd_a g 0) n1 (fun j => Value.int (va_cpy (ah_i h a0) (ah_i h a) sp.toNatClampNeg dp.toNatClampNeg n.toNatClampNeg j))) := by rw [← hH1]; simp [Array.getElem?_setIfInBounds, hlt]
  have hz : H1.size = H.size := by rw [← hH1]; simp
  have hH2 : HR g (ah_wi h a (va_cpy (ah_i h a0) (ah_i h a) sp.toNatClampNeg dp.toNatClampNeg n.toNatClampNeg)) H1 := by
    refine HR.arr f2 ha1.1 rfl rfl rfl rfl (fun b hb => u1_n _ _ hb) (fun _ _ => rfl) (fun _ _ => rfl) hz oq ?_
    unfold ce
    show if (ah_k h a).1 ≤ 1 then _ else _
    rw [ha1.2, if_pos (show (0 : Nat) ≤ 1 by decide), ← ad_lt g f2 ha1.1, hself]
    show some (arrV _ n1 _) = some (arrV (gd_a g (ah_k h a).1) (ah_k h a).2 _)
    rw [ha1.2]
    congr 2
    funext j
    show Value.int _ = Value.int (u1 (ah_i h) a _ a j)
    rw [u1_s]
  obtain ⟨t, a1, b1⟩ := kk g p l e R s m args below meth cd H1 _ cells slots lsA f1 hH2 (OL.far f2 f3 ha1.1 rfl (fun b hb => u1_n _ _ hb) oq) ⟨by rw [hz]; exact f4.1, fun q g1 g2 => by
      rw [oq q (fun e => g2 (by rw [e]; exact ad_A g f2 ha1.1))]
      exact f4.2.1 q g1 g2, fun q hq => by
      rcases List.mem_append.mp hq with h | h
      · exact f4.2.2 q h
      · obtain ⟨z, -, hz⟩ := List.mem_map.mp h
        rw [← hz]
        exact ad_A g f2 ha1.1⟩ f5 f6 f7 f8 f9 _ hheap X'
  exact ⟨t, step t a1, b1⟩
theorem ex_copyl {idx a0 a n0 n1 : Nat} {sp dp n : Int32} (hd : decode M.2.1 pc = .ok (.invokestatic idx, 3)) (hl : Cond.methodLink M.1 idx arraycopyName ∈ tw_l) (ha0 : ah_x h a0 2 n0) (ha1 : ah_x h a 2 n1) (h1 : 0 ≤ sp.toInt) (h2 : 0 ≤ dp.toInt) (h3 : 0 ≤ n.toInt) (h4 : sp.toInt + n.toInt ≤ n0) (h5 : dp.toInt + n.toInt ≤ n1)
    (kk : ex_G M d q ls st (ah_wl h a (va_cpy (ah_l h a0) (ah_l h a) sp.toNatClampNeg dp.toNatClampNeg n.toNatClampNeg)) bc bs Q) (hd1 : 1 ≤ d := by omega) (hs : (st.map fun v => v.category).sum ≤ 8 := by decide) (hq : pc + 3 = q := by rfl) : ex_G M d pc ls (.int n :: .int dp :: .ref a :: .int sp :: .ref a0 :: st) h bc bs Q := by
  subst hq
  intro g p l e R s m args below meth cd H locs cells slots lsA f1 f2 f3 f4 f5 f6 f7 f8 f9
  have nn : ∀ z : Int32, 0 ≤ z.toInt → z.toInt = (z.toNatClampNeg : Int) := by
    intro z hz
    show z.toInt = ((z.toInt.toNat : Nat) : Int)
    omega
  have ng : ∀ z : Int32, 0 ≤ z.toInt → ¬ z < 0 := fun z hz hlt => by
    have := Int32.lt_iff_toInt_lt.mp hlt
    rw [Int32.toInt_zero] at this
    omega
  have e1 := nn sp h1
  have e2 := nn dp h2
  have e3 := nn n h3
  intro T hT X
  have hc0 := arr_at2 f2 ha0
  have hc1 := arr_at2 f2 ha1
  have hK := (f1.2.2.2.2.2.2.2.2.1.2.1 2 (by decide)).1
  obtain ⟨-, k0, hk0, cm0, hkk0⟩ := hK n0 (fun j => .long (ah_l h a0 j))
  obtain ⟨-, k1, hk1, cm1, hkk1⟩ := hK n1 (fun j => .long (ah_l h a j))
  obtain ⟨vm', X', step⟩ := X.arraycopy f1.1 f1.2.2.2.1 (ex_tw f1 _ hl) (ex_tw f1 (.native arraycopyName) (by decide +kernel)) (ex_tw f1 (.static arraycopyName) (by decide +kernel)) (ex_tw f1 (.initialized "java/lang/System") (by decide +kernel)) (src := ad g a0) (dst := ad g a) (srcPos := sp) (destPos := dp) (n := n) (by rw [hT]; exact hc0) (by rw [hT]; exact hc1)
    (fun _ h => by cases h) (fun _ h => by cases h) (fun h => by cases h) (fun h => by cases h) hk0 hk1 hkk0 hkk1 (by rfl) (ng sp h1) (ng dp h2) (ng n h3)
    (by rw [arrV_size]; omega) (by rw [arrV_size]; omega)
    (fun vm₁ _ i hi => by
      have e : (arrV (gd_a g 2) n0 (fun j => Value.long (ah_l h a0 j))).slots.getD (sp.toNatClampNeg + i) .null = .long (ah_l h a0 (sp.toNatClampNeg + i)) := by
        rw [Array.getD_eq_getD_getElem?, arrV_read _ _ (by omega)]
        rfl
      rw [e]
      exact ⟨rfl, trivial⟩)
    (g := F0 m pc lsA ((.int n :: .int dp :: .ref a :: .int sp :: .ref a0 :: st).map (cv g))) rfl (by rw [f1.2.2.1]; exact f5.1) (rest := st.map (cv g)) rfl (by rw [f1.2.1]; exact hd) (by omega) (by have := cv_cats (g := g) hs; show 2 * 0 + _ + (nativeFrameWords "java/lang/System" "arraycopy" 5 + 11) ≤ _; have : nativeFrameWords "java/lang/System" "arraycopy" 5 ≤ 100 := (by decide +kernel); omega)
  have ec : copied (arrV (gd_a g 2) n0 (fun j => Value.long (ah_l h a0 j))) (arrV (gd_a g 2) n1 (fun j => Value.long (ah_l h a j))) sp dp n = arrV (gd_a g 2) n1 (fun j => .long (va_cpy (ah_l h a0) (ah_l h a) sp.toNatClampNeg dp.toNatClampNeg n.toNatClampNeg j)) := va_copied (fun z => .long z) _ _ _ _ (by omega)
  rw [ec] at X' step
  have hlt : ad g a < H.size := (Array.getElem?_eq_some_iff.mp hc1).1
  generalize hH1 : H.setIfInBounds (ad g a) (arrV (gd_a g 2) n1 (fun j => Value.long (va_cpy (ah_l h a0) (ah_l h a) sp.toNatClampNeg dp.toNatClampNeg n.toNatClampNeg j))) = H1
  have hheap : ((T.setVm vm').setCell (ad g a) (arrV (gd_a g 2) n1 (fun j => Value.long (va_cpy (ah_l h a0) (ah_l h a) sp.toNatClampNeg dp.toNatClampNeg n.toNatClampNeg j)))).heap = H1 := by rw [← hH1, ← hT]; rfl
  have oq : ∀ q : Nat, q ≠ ad g a → H1[q]? = H[q]? := fun q hq => by rw [← hH1]; simp [Array.getElem?_setIfInBounds, Ne.symm hq]
  have hself : H1[ad g a]? = some (arrV (gd_a g 2) n1 (fun j => Value.long (va_cpy (ah_l h a0) (ah_l h a) sp.toNatClampNeg dp.toNatClampNeg n.toNatClampNeg j))) := by rw [← hH1]; simp [Array.getElem?_setIfInBounds, hlt]
  have hz : H1.size = H.size := by rw [← hH1]; simp
  have hH2 : HR g (ah_wl h a (va_cpy (ah_l h a0) (ah_l h a) sp.toNatClampNeg dp.toNatClampNeg n.toNatClampNeg)) H1 := by
    refine HR.arr f2 ha1.1 rfl rfl rfl rfl (fun _ _ => rfl) (fun b hb => u1_n _ _ hb) (fun _ _ => rfl) hz oq ?_
    unfold ce
    show if (ah_k h a).1 ≤ 1 then _ else if (ah_k h a).1 = 2 then _ else _
    rw [ha1.2, if_neg (show ¬ (2 : Nat) ≤ 1 by decide), if_pos (show (2 : Nat) = 2 from rfl), ← ad_lt g f2 ha1.1, hself]
    show some (arrV _ n1 _) = some (arrV _ (ah_k h a).2 _)
    rw [ha1.2]
    congr 2
    funext j
    show Value.long _ = Value.long (u1 (ah_l h) a _ a j)
    rw [u1_s]
  obtain ⟨t, a1, b1⟩ := kk g p l e R s m args below meth cd H1 _ cells slots lsA f1 hH2 (OL.far f2 f3 ha1.1 rfl (fun _ _ => rfl) oq) ⟨by rw [hz]; exact f4.1, fun q g1 g2 => by
      rw [oq q (fun e => g2 (by rw [e]; exact ad_A g f2 ha1.1))]
      exact f4.2.1 q g1 g2, fun q hq => by
      rcases List.mem_append.mp hq with h | h
      · exact f4.2.2 q h
      · obtain ⟨z, -, hz⟩ := List.mem_map.mp h
        rw [← hz]
        exact ad_A g f2 ha1.1⟩ f5 f6 f7 f8 f9 _ hheap X'
  exact ⟨t, step t a1, b1⟩
end CPY
end
section
theorem z_9 : 1 = 1 := rfl
end
