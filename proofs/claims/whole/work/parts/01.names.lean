-- ===== PART A: goes FIRST, ahead of the names: the tables' words, and 'selects' of the private methods out of them =====
/-- a private method of a class that the tables say can be made, by its rows of tables_1 -/
def lw_okq (q : MethodName × Nat) : Prop := (q.1.cls ≠ "java/lang/invoke/MethodHandle" ∧ q.1.cls ≠ "java/lang/invoke/VarHandle") ∧ Cond.instantiable q.1.cls q.2 ∈ tables_1 ∧ Cond.privateMethod q.1 ∈ tables_1 ∧ Cond.instanceMethod q.1 ∈ tables_1
theorem lw_p0 : lw_okq (⟨"VeilsOfTheView$Land", "sumUpShown", "()V"⟩, 14) := ⟨⟨by decide +kernel, by decide +kernel⟩, List.mem_of_getElem? (i := 24) (by decide +kernel), List.mem_of_getElem? (i := 37) (by decide +kernel), List.mem_of_getElem? (i := 38) (by decide +kernel)⟩
theorem lw_p1 : lw_okq (⟨"VeilsOfTheView", "refuse", "(I)I"⟩, 8) := ⟨⟨by decide +kernel, by decide +kernel⟩, List.mem_of_getElem? (i := 16) (by decide +kernel), List.mem_of_getElem? (i := 210) (by decide +kernel), List.mem_of_getElem? (i := 211) (by decide +kernel)⟩
theorem lw_p2 : lw_okq (⟨"VeilsOfTheView", "rowFault", "(IZI)I"⟩, 8) := ⟨⟨by decide +kernel, by decide +kernel⟩, List.mem_of_getElem? (i := 16) (by decide +kernel), List.mem_of_getElem? (i := 225) (by decide +kernel), List.mem_of_getElem? (i := 226) (by decide +kernel)⟩
theorem lw_p3 : lw_okq (⟨"VeilsOfTheView", "copyFault", "(II)I"⟩, 8) := ⟨⟨by decide +kernel, by decide +kernel⟩, List.mem_of_getElem? (i := 16) (by decide +kernel), List.mem_of_getElem? (i := 249) (by decide +kernel), List.mem_of_getElem? (i := 250) (by decide +kernel)⟩
theorem lw_p4 : lw_okq (⟨"VeilsOfTheView$Land", "openByKind", "(IIIIZ)I"⟩, 14) := ⟨⟨by decide +kernel, by decide +kernel⟩, List.mem_of_getElem? (i := 24) (by decide +kernel), List.mem_of_getElem? (i := 291) (by decide +kernel), List.mem_of_getElem? (i := 292) (by decide +kernel)⟩
theorem lw_p5 : lw_okq (⟨"VeilsOfTheView$Tape", "readStatement", "(LVeilsOfTheView$Land;)Z"⟩, 6) := ⟨⟨by decide +kernel, by decide +kernel⟩, List.mem_of_getElem? (i := 130) (by decide +kernel), List.mem_of_getElem? (i := 381) (by decide +kernel), List.mem_of_getElem? (i := 382) (by decide +kernel)⟩
theorem lw_p6 : lw_okq (⟨"VeilsOfTheView$Tape", "step", "()V"⟩, 6) := ⟨⟨by decide +kernel, by decide +kernel⟩, List.mem_of_getElem? (i := 130) (by decide +kernel), List.mem_of_getElem? (i := 385) (by decide +kernel), List.mem_of_getElem? (i := 386) (by decide +kernel)⟩
theorem lw_p7 : lw_okq (⟨"VeilsOfTheView$Tape", "isWord", "(Ljava/lang/String;)Z"⟩, 6) := ⟨⟨by decide +kernel, by decide +kernel⟩, List.mem_of_getElem? (i := 130) (by decide +kernel), List.mem_of_getElem? (i := 393) (by decide +kernel), List.mem_of_getElem? (i := 394) (by decide +kernel)⟩
theorem lw_p8 : lw_okq (⟨"VeilsOfTheView$Tape", "readCells", "(LVeilsOfTheView$Land;)Z"⟩, 6) := ⟨⟨by decide +kernel, by decide +kernel⟩, List.mem_of_getElem? (i := 130) (by decide +kernel), List.mem_of_getElem? (i := 445) (by decide +kernel), List.mem_of_getElem? (i := 446) (by decide +kernel)⟩
theorem lw_p9 : lw_okq (⟨"VeilsOfTheView$Tape", "readNumber", "(II)Z"⟩, 6) := ⟨⟨by decide +kernel, by decide +kernel⟩, List.mem_of_getElem? (i := 130) (by decide +kernel), List.mem_of_getElem? (i := 449) (by decide +kernel), List.mem_of_getElem? (i := 450) (by decide +kernel)⟩
theorem lw_p10 : lw_okq (⟨"VeilsOfTheView$Tape", "readVisitor", "(LVeilsOfTheView$Land;)Z"⟩, 6) := ⟨⟨by decide +kernel, by decide +kernel⟩, List.mem_of_getElem? (i := 130) (by decide +kernel), List.mem_of_getElem? (i := 456) (by decide +kernel), List.mem_of_getElem? (i := 457) (by decide +kernel)⟩
theorem lw_p11 : lw_okq (⟨"VeilsOfTheView$Tape", "readShy", "(LVeilsOfTheView$Land;)Z"⟩, 6) := ⟨⟨by decide +kernel, by decide +kernel⟩, List.mem_of_getElem? (i := 130) (by decide +kernel), List.mem_of_getElem? (i := 463) (by decide +kernel), List.mem_of_getElem? (i := 464) (by decide +kernel)⟩
theorem lw_p12 : lw_okq (⟨"VeilsOfTheView$Tape", "readThing", "(LVeilsOfTheView$Land;)Z"⟩, 6) := ⟨⟨by decide +kernel, by decide +kernel⟩, List.mem_of_getElem? (i := 130) (by decide +kernel), List.mem_of_getElem? (i := 469) (by decide +kernel), List.mem_of_getElem? (i := 470) (by decide +kernel)⟩
theorem lw_p13 : lw_okq (⟨"VeilsOfTheView$Tape", "readSaw", "(LVeilsOfTheView$Land;)Z"⟩, 6) := ⟨⟨by decide +kernel, by decide +kernel⟩, List.mem_of_getElem? (i := 130) (by decide +kernel), List.mem_of_getElem? (i := 474) (by decide +kernel), List.mem_of_getElem? (i := 475) (by decide +kernel)⟩
theorem lw_p14 : lw_okq (⟨"VeilsOfTheView$Tape", "readVeil", "(LVeilsOfTheView$Land;)Z"⟩, 6) := ⟨⟨by decide +kernel, by decide +kernel⟩, List.mem_of_getElem? (i := 130) (by decide +kernel), List.mem_of_getElem? (i := 479) (by decide +kernel), List.mem_of_getElem? (i := 480) (by decide +kernel)⟩
theorem lw_p15 : lw_okq (⟨"VeilsOfTheView$Tape", "readDay", "(LVeilsOfTheView$Land;)Z"⟩, 6) := ⟨⟨by decide +kernel, by decide +kernel⟩, List.mem_of_getElem? (i := 130) (by decide +kernel), List.mem_of_getElem? (i := 484) (by decide +kernel), List.mem_of_getElem? (i := 485) (by decide +kernel)⟩
def lw_privs_1 : List (MethodName × Nat) := [(⟨"VeilsOfTheView$Land", "sumUpShown", "()V"⟩, 14), (⟨"VeilsOfTheView", "refuse", "(I)I"⟩, 8), (⟨"VeilsOfTheView", "rowFault", "(IZI)I"⟩, 8), (⟨"VeilsOfTheView", "copyFault", "(II)I"⟩, 8), (⟨"VeilsOfTheView$Land", "openByKind", "(IIIIZ)I"⟩, 14), (⟨"VeilsOfTheView$Tape", "readStatement", "(LVeilsOfTheView$Land;)Z"⟩, 6), (⟨"VeilsOfTheView$Tape", "step", "()V"⟩, 6), (⟨"VeilsOfTheView$Tape", "isWord", "(Ljava/lang/String;)Z"⟩, 6), (⟨"VeilsOfTheView$Tape", "readCells", "(LVeilsOfTheView$Land;)Z"⟩, 6), (⟨"VeilsOfTheView$Tape", "readNumber", "(II)Z"⟩, 6), (⟨"VeilsOfTheView$Tape", "readVisitor", "(LVeilsOfTheView$Land;)Z"⟩, 6), (⟨"VeilsOfTheView$Tape", "readShy", "(LVeilsOfTheView$Land;)Z"⟩, 6), (⟨"VeilsOfTheView$Tape", "readThing", "(LVeilsOfTheView$Land;)Z"⟩, 6), (⟨"VeilsOfTheView$Tape", "readSaw", "(LVeilsOfTheView$Land;)Z"⟩, 6), (⟨"VeilsOfTheView$Tape", "readVeil", "(LVeilsOfTheView$Land;)Z"⟩, 6), (⟨"VeilsOfTheView$Tape", "readDay", "(LVeilsOfTheView$Land;)Z"⟩, 6)]
theorem lw_r1 : ∀ q ∈ lw_privs_1, lw_okq q := List.forall_mem_cons.mpr ⟨lw_p0, List.forall_mem_cons.mpr ⟨lw_p1, List.forall_mem_cons.mpr ⟨lw_p2, List.forall_mem_cons.mpr ⟨lw_p3, List.forall_mem_cons.mpr ⟨lw_p4, List.forall_mem_cons.mpr ⟨lw_p5, List.forall_mem_cons.mpr ⟨lw_p6, List.forall_mem_cons.mpr ⟨lw_p7, List.forall_mem_cons.mpr ⟨lw_p8, List.forall_mem_cons.mpr ⟨lw_p9, List.forall_mem_cons.mpr ⟨lw_p10, List.forall_mem_cons.mpr ⟨lw_p11, List.forall_mem_cons.mpr ⟨lw_p12, List.forall_mem_cons.mpr ⟨lw_p13, List.forall_mem_cons.mpr ⟨lw_p14, List.forall_mem_cons.mpr ⟨lw_p15, fun _ h => absurd h List.not_mem_nil⟩⟩⟩⟩⟩⟩⟩⟩⟩⟩⟩⟩⟩⟩⟩⟩
theorem lw_p16 : lw_okq (⟨"VeilsOfTheView$Orders", "compare", "(I)V"⟩, 3) := ⟨⟨by decide +kernel, by decide +kernel⟩, List.mem_of_getElem? (i := 157) (by decide +kernel), List.mem_of_getElem? (i := 598) (by decide +kernel), List.mem_of_getElem? (i := 599) (by decide +kernel)⟩
theorem lw_p17 : lw_okq (⟨"VeilsOfTheView", "tellsVisitors", "(LVeilsOfTheView$Shelf;I)Z"⟩, 8) := ⟨⟨by decide +kernel, by decide +kernel⟩, List.mem_of_getElem? (i := 16) (by decide +kernel), List.mem_of_getElem? (i := 631) (by decide +kernel), List.mem_of_getElem? (i := 632) (by decide +kernel)⟩
theorem lw_p18 : lw_okq (⟨"VeilsOfTheView", "tellsVeils", "(LVeilsOfTheView$Shelf;I)Z"⟩, 8) := ⟨⟨by decide +kernel, by decide +kernel⟩, List.mem_of_getElem? (i := 16) (by decide +kernel), List.mem_of_getElem? (i := 639) (by decide +kernel), List.mem_of_getElem? (i := 640) (by decide +kernel)⟩
theorem lw_p19 : lw_okq (⟨"VeilsOfTheView", "kindsThatFit", "(LVeilsOfTheView$Shelf;II)I"⟩, 8) := ⟨⟨by decide +kernel, by decide +kernel⟩, List.mem_of_getElem? (i := 16) (by decide +kernel), List.mem_of_getElem? (i := 644) (by decide +kernel), List.mem_of_getElem? (i := 645) (by decide +kernel)⟩
theorem lw_p20 : lw_okq (⟨"VeilsOfTheView", "isShownAsTold", "(LVeilsOfTheView$Shelf;IIII)Z"⟩, 8) := ⟨⟨by decide +kernel, by decide +kernel⟩, List.mem_of_getElem? (i := 16) (by decide +kernel), List.mem_of_getElem? (i := 648) (by decide +kernel), List.mem_of_getElem? (i := 649) (by decide +kernel)⟩
theorem lw_p21 : lw_okq (⟨"VeilsOfTheView", "wantsThatFit", "(LVeilsOfTheView$Shelf;II)I"⟩, 8) := ⟨⟨by decide +kernel, by decide +kernel⟩, List.mem_of_getElem? (i := 16) (by decide +kernel), List.mem_of_getElem? (i := 653) (by decide +kernel), List.mem_of_getElem? (i := 654) (by decide +kernel)⟩
theorem lw_p22 : lw_okq (⟨"VeilsOfTheView", "isSoFrom", "(ILVeilsOfTheView$Shelf;II)Z"⟩, 8) := ⟨⟨by decide +kernel, by decide +kernel⟩, List.mem_of_getElem? (i := 16) (by decide +kernel), List.mem_of_getElem? (i := 669) (by decide +kernel), List.mem_of_getElem? (i := 670) (by decide +kernel)⟩
theorem lw_p23 : lw_okq (⟨"VeilsOfTheView", "veilIfFirst", "(II)I"⟩, 8) := ⟨⟨by decide +kernel, by decide +kernel⟩, List.mem_of_getElem? (i := 16) (by decide +kernel), List.mem_of_getElem? (i := 677) (by decide +kernel), List.mem_of_getElem? (i := 678) (by decide +kernel)⟩
theorem lw_p24 : lw_okq (⟨"VeilsOfTheView$Land", "passDay", "()V"⟩, 14) := ⟨⟨by decide +kernel, by decide +kernel⟩, List.mem_of_getElem? (i := 24) (by decide +kernel), List.mem_of_getElem? (i := 724) (by decide +kernel), List.mem_of_getElem? (i := 725) (by decide +kernel)⟩
theorem lw_p25 : lw_okq (⟨"VeilsOfTheView", "knownBehindTwo", "(II)I"⟩, 8) := ⟨⟨by decide +kernel, by decide +kernel⟩, List.mem_of_getElem? (i := 16) (by decide +kernel), List.mem_of_getElem? (i := 744) (by decide +kernel), List.mem_of_getElem? (i := 745) (by decide +kernel)⟩
theorem lw_p26 : lw_okq (⟨"VeilsOfTheView", "placeOf", "(I)I"⟩, 8) := ⟨⟨by decide +kernel, by decide +kernel⟩, List.mem_of_getElem? (i := 16) (by decide +kernel), List.mem_of_getElem? (i := 760) (by decide +kernel), List.mem_of_getElem? (i := 761) (by decide +kernel)⟩
theorem lw_p27 : lw_okq (⟨"VeilsOfTheView", "firstWrong", "(LVeilsOfTheView$Shelf;I)I"⟩, 8) := ⟨⟨by decide +kernel, by decide +kernel⟩, List.mem_of_getElem? (i := 16) (by decide +kernel), List.mem_of_getElem? (i := 784) (by decide +kernel), List.mem_of_getElem? (i := 785) (by decide +kernel)⟩
theorem lw_p28 : lw_okq (⟨"VeilsOfTheView$Land", "draw", "(I)I"⟩, 14) := ⟨⟨by decide +kernel, by decide +kernel⟩, List.mem_of_getElem? (i := 24) (by decide +kernel), List.mem_of_getElem? (i := 804) (by decide +kernel), List.mem_of_getElem? (i := 805) (by decide +kernel)⟩
theorem lw_p29 : lw_okq (⟨"VeilsOfTheView", "shelvesInUse", "()I"⟩, 8) := ⟨⟨by decide +kernel, by decide +kernel⟩, List.mem_of_getElem? (i := 16) (by decide +kernel), List.mem_of_getElem? (i := 827) (by decide +kernel), List.mem_of_getElem? (i := 828) (by decide +kernel)⟩
theorem lw_p30 : lw_okq (⟨"VeilsOfTheViewModel", "no", "(I)I"⟩, 28) := ⟨⟨by decide +kernel, by decide +kernel⟩, List.mem_of_getElem? (i := 831) (by decide +kernel), List.mem_of_getElem? (i := 933) (by decide +kernel), List.mem_of_getElem? (i := 934) (by decide +kernel)⟩
theorem lw_p31 : lw_okq (⟨"VeilsOfTheViewModel", "isRow", "(I)Z"⟩, 28) := ⟨⟨by decide +kernel, by decide +kernel⟩, List.mem_of_getElem? (i := 831) (by decide +kernel), List.mem_of_getElem? (i := 941) (by decide +kernel), List.mem_of_getElem? (i := 942) (by decide +kernel)⟩
def lw_privs_2 : List (MethodName × Nat) := [(⟨"VeilsOfTheView$Orders", "compare", "(I)V"⟩, 3), (⟨"VeilsOfTheView", "tellsVisitors", "(LVeilsOfTheView$Shelf;I)Z"⟩, 8), (⟨"VeilsOfTheView", "tellsVeils", "(LVeilsOfTheView$Shelf;I)Z"⟩, 8), (⟨"VeilsOfTheView", "kindsThatFit", "(LVeilsOfTheView$Shelf;II)I"⟩, 8), (⟨"VeilsOfTheView", "isShownAsTold", "(LVeilsOfTheView$Shelf;IIII)Z"⟩, 8), (⟨"VeilsOfTheView", "wantsThatFit", "(LVeilsOfTheView$Shelf;II)I"⟩, 8), (⟨"VeilsOfTheView", "isSoFrom", "(ILVeilsOfTheView$Shelf;II)Z"⟩, 8), (⟨"VeilsOfTheView", "veilIfFirst", "(II)I"⟩, 8), (⟨"VeilsOfTheView$Land", "passDay", "()V"⟩, 14), (⟨"VeilsOfTheView", "knownBehindTwo", "(II)I"⟩, 8), (⟨"VeilsOfTheView", "placeOf", "(I)I"⟩, 8), (⟨"VeilsOfTheView", "firstWrong", "(LVeilsOfTheView$Shelf;I)I"⟩, 8), (⟨"VeilsOfTheView$Land", "draw", "(I)I"⟩, 14), (⟨"VeilsOfTheView", "shelvesInUse", "()I"⟩, 8), (⟨"VeilsOfTheViewModel", "no", "(I)I"⟩, 28), (⟨"VeilsOfTheViewModel", "isRow", "(I)Z"⟩, 28)]
theorem lw_r2 : ∀ q ∈ lw_privs_2, lw_okq q := List.forall_mem_cons.mpr ⟨lw_p16, List.forall_mem_cons.mpr ⟨lw_p17, List.forall_mem_cons.mpr ⟨lw_p18, List.forall_mem_cons.mpr ⟨lw_p19, List.forall_mem_cons.mpr ⟨lw_p20, List.forall_mem_cons.mpr ⟨lw_p21, List.forall_mem_cons.mpr ⟨lw_p22, List.forall_mem_cons.mpr ⟨lw_p23, List.forall_mem_cons.mpr ⟨lw_p24, List.forall_mem_cons.mpr ⟨lw_p25, List.forall_mem_cons.mpr ⟨lw_p26, List.forall_mem_cons.mpr ⟨lw_p27, List.forall_mem_cons.mpr ⟨lw_p28, List.forall_mem_cons.mpr ⟨lw_p29, List.forall_mem_cons.mpr ⟨lw_p30, List.forall_mem_cons.mpr ⟨lw_p31, fun _ h => absurd h List.not_mem_nil⟩⟩⟩⟩⟩⟩⟩⟩⟩⟩⟩⟩⟩⟩⟩⟩
theorem lw_p32 : lw_okq (⟨"VeilsOfTheViewModel", "noRow", "(I)I"⟩, 28) := ⟨⟨by decide +kernel, by decide +kernel⟩, List.mem_of_getElem? (i := 831) (by decide +kernel), List.mem_of_getElem? (i := 945) (by decide +kernel), List.mem_of_getElem? (i := 946) (by decide +kernel)⟩
theorem lw_p33 : lw_okq (⟨"VeilsOfTheViewModel", "isOne", "(I)Z"⟩, 28) := ⟨⟨by decide +kernel, by decide +kernel⟩, List.mem_of_getElem? (i := 831) (by decide +kernel), List.mem_of_getElem? (i := 968) (by decide +kernel), List.mem_of_getElem? (i := 969) (by decide +kernel)⟩
theorem lw_p34 : lw_okq (⟨"VeilsOfTheViewModel", "openTo", "(II)I"⟩, 28) := ⟨⟨by decide +kernel, by decide +kernel⟩, List.mem_of_getElem? (i := 831) (by decide +kernel), List.mem_of_getElem? (i := 979) (by decide +kernel), List.mem_of_getElem? (i := 980) (by decide +kernel)⟩
theorem lw_p35 : lw_okq (⟨"VeilsOfTheViewModel", "openBy", "(IZ)I"⟩, 28) := ⟨⟨by decide +kernel, by decide +kernel⟩, List.mem_of_getElem? (i := 831) (by decide +kernel), List.mem_of_getElem? (i := 983) (by decide +kernel), List.mem_of_getElem? (i := 984) (by decide +kernel)⟩
theorem lw_p36 : lw_okq (⟨"VeilsOfTheViewModel", "asks", "(I)Z"⟩, 28) := ⟨⟨by decide +kernel, by decide +kernel⟩, List.mem_of_getElem? (i := 831) (by decide +kernel), List.mem_of_getElem? (i := 992) (by decide +kernel), List.mem_of_getElem? (i := 993) (by decide +kernel)⟩
theorem lw_p37 : lw_okq (⟨"VeilsOfTheViewModel", "newOne", "(III)I"⟩, 28) := ⟨⟨by decide +kernel, by decide +kernel⟩, List.mem_of_getElem? (i := 831) (by decide +kernel), List.mem_of_getElem? (i := 1007) (by decide +kernel), List.mem_of_getElem? (i := 1008) (by decide +kernel)⟩
theorem lw_p38 : lw_okq (⟨"VeilsOfTheViewModel", "isCell", "(I)Z"⟩, 28) := ⟨⟨by decide +kernel, by decide +kernel⟩, List.mem_of_getElem? (i := 831) (by decide +kernel), List.mem_of_getElem? (i := 1019) (by decide +kernel), List.mem_of_getElem? (i := 1020) (by decide +kernel)⟩
theorem lw_p39 : lw_okq (⟨"VeilsOfTheViewModel", "keep", "([I)V"⟩, 28) := ⟨⟨by decide +kernel, by decide +kernel⟩, List.mem_of_getElem? (i := 831) (by decide +kernel), List.mem_of_getElem? (i := 1039) (by decide +kernel), List.mem_of_getElem? (i := 1040) (by decide +kernel)⟩
theorem lw_p40 : lw_okq (⟨"VeilsOfTheViewModel", "next", "()V"⟩, 28) := ⟨⟨by decide +kernel, by decide +kernel⟩, List.mem_of_getElem? (i := 831) (by decide +kernel), List.mem_of_getElem? (i := 1043) (by decide +kernel), List.mem_of_getElem? (i := 1044) (by decide +kernel)⟩
theorem lw_p41 : lw_okq (⟨"VeilsOfTheViewModel", "statement", "()Z"⟩, 28) := ⟨⟨by decide +kernel, by decide +kernel⟩, List.mem_of_getElem? (i := 831) (by decide +kernel), List.mem_of_getElem? (i := 1053) (by decide +kernel), List.mem_of_getElem? (i := 1054) (by decide +kernel)⟩
theorem lw_p42 : lw_okq (⟨"VeilsOfTheViewModel", "isWord", "(Ljava/lang/String;)Z"⟩, 28) := ⟨⟨by decide +kernel, by decide +kernel⟩, List.mem_of_getElem? (i := 831) (by decide +kernel), List.mem_of_getElem? (i := 1058) (by decide +kernel), List.mem_of_getElem? (i := 1059) (by decide +kernel)⟩
theorem lw_p43 : lw_okq (⟨"VeilsOfTheViewModel", "comesOne", "()Z"⟩, 28) := ⟨⟨by decide +kernel, by decide +kernel⟩, List.mem_of_getElem? (i := 831) (by decide +kernel), List.mem_of_getElem? (i := 1064) (by decide +kernel), List.mem_of_getElem? (i := 1065) (by decide +kernel)⟩
theorem lw_p44 : lw_okq (⟨"VeilsOfTheViewModel", "number", "(II)I"⟩, 28) := ⟨⟨by decide +kernel, by decide +kernel⟩, List.mem_of_getElem? (i := 831) (by decide +kernel), List.mem_of_getElem? (i := 1068) (by decide +kernel), List.mem_of_getElem? (i := 1069) (by decide +kernel)⟩
theorem lw_p45 : lw_okq (⟨"VeilsOfTheViewModel", "tellsOf", "([II)Z"⟩, 28) := ⟨⟨by decide +kernel, by decide +kernel⟩, List.mem_of_getElem? (i := 831) (by decide +kernel), List.mem_of_getElem? (i := 1073) (by decide +kernel), List.mem_of_getElem? (i := 1074) (by decide +kernel)⟩
theorem lw_p46 : lw_okq (⟨"VeilsOfTheViewModel", "again", "([I)V"⟩, 28) := ⟨⟨by decide +kernel, by decide +kernel⟩, List.mem_of_getElem? (i := 831) (by decide +kernel), List.mem_of_getElem? (i := 1082) (by decide +kernel), List.mem_of_getElem? (i := 1083) (by decide +kernel)⟩
theorem lw_p47 : lw_okq (⟨"VeilsOfTheViewModel", "seenBy", "(I)I"⟩, 28) := ⟨⟨by decide +kernel, by decide +kernel⟩, List.mem_of_getElem? (i := 831) (by decide +kernel), List.mem_of_getElem? (i := 1094) (by decide +kernel), List.mem_of_getElem? (i := 1095) (by decide +kernel)⟩
def lw_privs_3 : List (MethodName × Nat) := [(⟨"VeilsOfTheViewModel", "noRow", "(I)I"⟩, 28), (⟨"VeilsOfTheViewModel", "isOne", "(I)Z"⟩, 28), (⟨"VeilsOfTheViewModel", "openTo", "(II)I"⟩, 28), (⟨"VeilsOfTheViewModel", "openBy", "(IZ)I"⟩, 28), (⟨"VeilsOfTheViewModel", "asks", "(I)Z"⟩, 28), (⟨"VeilsOfTheViewModel", "newOne", "(III)I"⟩, 28), (⟨"VeilsOfTheViewModel", "isCell", "(I)Z"⟩, 28), (⟨"VeilsOfTheViewModel", "keep", "([I)V"⟩, 28), (⟨"VeilsOfTheViewModel", "next", "()V"⟩, 28), (⟨"VeilsOfTheViewModel", "statement", "()Z"⟩, 28), (⟨"VeilsOfTheViewModel", "isWord", "(Ljava/lang/String;)Z"⟩, 28), (⟨"VeilsOfTheViewModel", "comesOne", "()Z"⟩, 28), (⟨"VeilsOfTheViewModel", "number", "(II)I"⟩, 28), (⟨"VeilsOfTheViewModel", "tellsOf", "([II)Z"⟩, 28), (⟨"VeilsOfTheViewModel", "again", "([I)V"⟩, 28), (⟨"VeilsOfTheViewModel", "seenBy", "(I)I"⟩, 28)]
theorem lw_r3 : ∀ q ∈ lw_privs_3, lw_okq q := List.forall_mem_cons.mpr ⟨lw_p32, List.forall_mem_cons.mpr ⟨lw_p33, List.forall_mem_cons.mpr ⟨lw_p34, List.forall_mem_cons.mpr ⟨lw_p35, List.forall_mem_cons.mpr ⟨lw_p36, List.forall_mem_cons.mpr ⟨lw_p37, List.forall_mem_cons.mpr ⟨lw_p38, List.forall_mem_cons.mpr ⟨lw_p39, List.forall_mem_cons.mpr ⟨lw_p40, List.forall_mem_cons.mpr ⟨lw_p41, List.forall_mem_cons.mpr ⟨lw_p42, List.forall_mem_cons.mpr ⟨lw_p43, List.forall_mem_cons.mpr ⟨lw_p44, List.forall_mem_cons.mpr ⟨lw_p45, List.forall_mem_cons.mpr ⟨lw_p46, List.forall_mem_cons.mpr ⟨lw_p47, fun _ h => absurd h List.not_mem_nil⟩⟩⟩⟩⟩⟩⟩⟩⟩⟩⟩⟩⟩⟩⟩⟩
theorem lw_p48 : lw_okq (⟨"VeilsOfTheViewModel", "isGroup", "(I)Z"⟩, 28) := ⟨⟨by decide +kernel, by decide +kernel⟩, List.mem_of_getElem? (i := 831) (by decide +kernel), List.mem_of_getElem? (i := 1102) (by decide +kernel), List.mem_of_getElem? (i := 1103) (by decide +kernel)⟩
theorem lw_p49 : lw_okq (⟨"VeilsOfTheViewModel", "shownTo", "(II)I"⟩, 28) := ⟨⟨by decide +kernel, by decide +kernel⟩, List.mem_of_getElem? (i := 831) (by decide +kernel), List.mem_of_getElem? (i := 1110) (by decide +kernel), List.mem_of_getElem? (i := 1111) (by decide +kernel)⟩
theorem lw_p50 : lw_okq (⟨"VeilsOfTheViewModel", "knownBy", "(I)I"⟩, 28) := ⟨⟨by decide +kernel, by decide +kernel⟩, List.mem_of_getElem? (i := 831) (by decide +kernel), List.mem_of_getElem? (i := 1118) (by decide +kernel), List.mem_of_getElem? (i := 1119) (by decide +kernel)⟩
theorem lw_p51 : lw_okq (⟨"VeilsOfTheViewModel", "newOf", "(I)I"⟩, 28) := ⟨⟨by decide +kernel, by decide +kernel⟩, List.mem_of_getElem? (i := 831) (by decide +kernel), List.mem_of_getElem? (i := 1126) (by decide +kernel), List.mem_of_getElem? (i := 1127) (by decide +kernel)⟩
theorem lw_p52 : lw_okq (⟨"VeilsOfTheViewModel", "shownToAll", "(I)I"⟩, 28) := ⟨⟨by decide +kernel, by decide +kernel⟩, List.mem_of_getElem? (i := 831) (by decide +kernel), List.mem_of_getElem? (i := 1130) (by decide +kernel), List.mem_of_getElem? (i := 1131) (by decide +kernel)⟩
theorem lw_p53 : lw_okq (⟨"VeilsOfTheViewModel", "all", "()I"⟩, 28) := ⟨⟨by decide +kernel, by decide +kernel⟩, List.mem_of_getElem? (i := 831) (by decide +kernel), List.mem_of_getElem? (i := 1134) (by decide +kernel), List.mem_of_getElem? (i := 1135) (by decide +kernel)⟩
theorem lw_p54 : lw_okq (⟨"VeilsOfTheViewModel", "veilBehind", "(I)I"⟩, 28) := ⟨⟨by decide +kernel, by decide +kernel⟩, List.mem_of_getElem? (i := 831) (by decide +kernel), List.mem_of_getElem? (i := 1142) (by decide +kernel), List.mem_of_getElem? (i := 1143) (by decide +kernel)⟩
theorem lw_p55 : lw_okq (⟨"VeilsOfTheViewModel", "areCells", "(I)Z"⟩, 28) := ⟨⟨by decide +kernel, by decide +kernel⟩, List.mem_of_getElem? (i := 831) (by decide +kernel), List.mem_of_getElem? (i := 1154) (by decide +kernel), List.mem_of_getElem? (i := 1155) (by decide +kernel)⟩
theorem lw_p56 : lw_okq (⟨"VeilsOfTheViewModel", "orders", "(II)V"⟩, 28) := ⟨⟨by decide +kernel, by decide +kernel⟩, List.mem_of_getElem? (i := 831) (by decide +kernel), List.mem_of_getElem? (i := 1162) (by decide +kernel), List.mem_of_getElem? (i := 1163) (by decide +kernel)⟩
theorem lw_p57 : lw_okq (⟨"VeilsOfTheViewModel", "goes", "(I)V"⟩, 28) := ⟨⟨by decide +kernel, by decide +kernel⟩, List.mem_of_getElem? (i := 831) (by decide +kernel), List.mem_of_getElem? (i := 1166) (by decide +kernel), List.mem_of_getElem? (i := 1167) (by decide +kernel)⟩
theorem lw_p58 : lw_okq (⟨"VeilsOfTheViewModel", "passesDay", "()V"⟩, 28) := ⟨⟨by decide +kernel, by decide +kernel⟩, List.mem_of_getElem? (i := 831) (by decide +kernel), List.mem_of_getElem? (i := 1170) (by decide +kernel), List.mem_of_getElem? (i := 1171) (by decide +kernel)⟩
theorem lw_p59 : lw_okq (⟨"VeilsOfTheViewModel", "shownAlone", "(I)I"⟩, 28) := ⟨⟨by decide +kernel, by decide +kernel⟩, List.mem_of_getElem? (i := 831) (by decide +kernel), List.mem_of_getElem? (i := 1178) (by decide +kernel), List.mem_of_getElem? (i := 1179) (by decide +kernel)⟩
theorem lw_p60 : lw_okq (⟨"VeilsOfTheViewModel", "noTwos", "(III)I"⟩, 28) := ⟨⟨by decide +kernel, by decide +kernel⟩, List.mem_of_getElem? (i := 831) (by decide +kernel), List.mem_of_getElem? (i := 1190) (by decide +kernel), List.mem_of_getElem? (i := 1191) (by decide +kernel)⟩
theorem lw_p61 : lw_okq (⟨"VeilsOfTheViewModel", "noTold", "(II)I"⟩, 28) := ⟨⟨by decide +kernel, by decide +kernel⟩, List.mem_of_getElem? (i := 831) (by decide +kernel), List.mem_of_getElem? (i := 1194) (by decide +kernel), List.mem_of_getElem? (i := 1195) (by decide +kernel)⟩
theorem lw_p62 : lw_okq (⟨"VeilsOfTheViewModel", "toldAt", "(II)J"⟩, 28) := ⟨⟨by decide +kernel, by decide +kernel⟩, List.mem_of_getElem? (i := 831) (by decide +kernel), List.mem_of_getElem? (i := 1198) (by decide +kernel), List.mem_of_getElem? (i := 1199) (by decide +kernel)⟩
theorem lw_p63 : lw_okq (⟨"VeilsOfTheViewModel", "isRegistered", "(III)Z"⟩, 28) := ⟨⟨by decide +kernel, by decide +kernel⟩, List.mem_of_getElem? (i := 831) (by decide +kernel), List.mem_of_getElem? (i := 1202) (by decide +kernel), List.mem_of_getElem? (i := 1203) (by decide +kernel)⟩
def lw_privs_4 : List (MethodName × Nat) := [(⟨"VeilsOfTheViewModel", "isGroup", "(I)Z"⟩, 28), (⟨"VeilsOfTheViewModel", "shownTo", "(II)I"⟩, 28), (⟨"VeilsOfTheViewModel", "knownBy", "(I)I"⟩, 28), (⟨"VeilsOfTheViewModel", "newOf", "(I)I"⟩, 28), (⟨"VeilsOfTheViewModel", "shownToAll", "(I)I"⟩, 28), (⟨"VeilsOfTheViewModel", "all", "()I"⟩, 28), (⟨"VeilsOfTheViewModel", "veilBehind", "(I)I"⟩, 28), (⟨"VeilsOfTheViewModel", "areCells", "(I)Z"⟩, 28), (⟨"VeilsOfTheViewModel", "orders", "(II)V"⟩, 28), (⟨"VeilsOfTheViewModel", "goes", "(I)V"⟩, 28), (⟨"VeilsOfTheViewModel", "passesDay", "()V"⟩, 28), (⟨"VeilsOfTheViewModel", "shownAlone", "(I)I"⟩, 28), (⟨"VeilsOfTheViewModel", "noTwos", "(III)I"⟩, 28), (⟨"VeilsOfTheViewModel", "noTold", "(II)I"⟩, 28), (⟨"VeilsOfTheViewModel", "toldAt", "(II)J"⟩, 28), (⟨"VeilsOfTheViewModel", "isRegistered", "(III)Z"⟩, 28)]
theorem lw_r4 : ∀ q ∈ lw_privs_4, lw_okq q := List.forall_mem_cons.mpr ⟨lw_p48, List.forall_mem_cons.mpr ⟨lw_p49, List.forall_mem_cons.mpr ⟨lw_p50, List.forall_mem_cons.mpr ⟨lw_p51, List.forall_mem_cons.mpr ⟨lw_p52, List.forall_mem_cons.mpr ⟨lw_p53, List.forall_mem_cons.mpr ⟨lw_p54, List.forall_mem_cons.mpr ⟨lw_p55, List.forall_mem_cons.mpr ⟨lw_p56, List.forall_mem_cons.mpr ⟨lw_p57, List.forall_mem_cons.mpr ⟨lw_p58, List.forall_mem_cons.mpr ⟨lw_p59, List.forall_mem_cons.mpr ⟨lw_p60, List.forall_mem_cons.mpr ⟨lw_p61, List.forall_mem_cons.mpr ⟨lw_p62, List.forall_mem_cons.mpr ⟨lw_p63, fun _ h => absurd h List.not_mem_nil⟩⟩⟩⟩⟩⟩⟩⟩⟩⟩⟩⟩⟩⟩⟩⟩
theorem lw_p64 : lw_okq (⟨"VeilsOfTheViewModel", "isShownSo", "(III)Z"⟩, 28) := ⟨⟨by decide +kernel, by decide +kernel⟩, List.mem_of_getElem? (i := 831) (by decide +kernel), List.mem_of_getElem? (i := 1210) (by decide +kernel), List.mem_of_getElem? (i := 1211) (by decide +kernel)⟩
theorem lw_p65 : lw_okq (⟨"VeilsOfTheViewModel", "knowAll", "(I)Z"⟩, 28) := ⟨⟨by decide +kernel, by decide +kernel⟩, List.mem_of_getElem? (i := 831) (by decide +kernel), List.mem_of_getElem? (i := 1218) (by decide +kernel), List.mem_of_getElem? (i := 1219) (by decide +kernel)⟩
theorem lw_p66 : lw_okq (⟨"VeilsOfTheViewModel", "isLaid", "(IIII)Z"⟩, 28) := ⟨⟨by decide +kernel, by decide +kernel⟩, List.mem_of_getElem? (i := 831) (by decide +kernel), List.mem_of_getElem? (i := 1230) (by decide +kernel), List.mem_of_getElem? (i := 1231) (by decide +kernel)⟩
theorem lw_p67 : lw_okq (⟨"VeilsOfTheViewModel", "liftFrom", "(III)I"⟩, 28) := ⟨⟨by decide +kernel, by decide +kernel⟩, List.mem_of_getElem? (i := 831) (by decide +kernel), List.mem_of_getElem? (i := 1238) (by decide +kernel), List.mem_of_getElem? (i := 1239) (by decide +kernel)⟩
theorem lw_p68 : lw_okq (⟨"VeilsOfTheViewModel", "wrong", "(II)I"⟩, 28) := ⟨⟨by decide +kernel, by decide +kernel⟩, List.mem_of_getElem? (i := 831) (by decide +kernel), List.mem_of_getElem? (i := 1327) (by decide +kernel), List.mem_of_getElem? (i := 1328) (by decide +kernel)⟩
theorem lw_p69 : lw_okq (⟨"VeilsOfTheViewModel", "canBe", "(J)Z"⟩, 28) := ⟨⟨by decide +kernel, by decide +kernel⟩, List.mem_of_getElem? (i := 831) (by decide +kernel), List.mem_of_getElem? (i := 1331) (by decide +kernel), List.mem_of_getElem? (i := 1332) (by decide +kernel)⟩
theorem lw_p70 : lw_okq (⟨"VeilsOfTheViewModel", "draw", "(I)I"⟩, 28) := ⟨⟨by decide +kernel, by decide +kernel⟩, List.mem_of_getElem? (i := 831) (by decide +kernel), List.mem_of_getElem? (i := 1347) (by decide +kernel), List.mem_of_getElem? (i := 1348) (by decide +kernel)⟩
def lw_privs_5 : List (MethodName × Nat) := [(⟨"VeilsOfTheViewModel", "isShownSo", "(III)Z"⟩, 28), (⟨"VeilsOfTheViewModel", "knowAll", "(I)Z"⟩, 28), (⟨"VeilsOfTheViewModel", "isLaid", "(IIII)Z"⟩, 28), (⟨"VeilsOfTheViewModel", "liftFrom", "(III)I"⟩, 28), (⟨"VeilsOfTheViewModel", "wrong", "(II)I"⟩, 28), (⟨"VeilsOfTheViewModel", "canBe", "(J)Z"⟩, 28), (⟨"VeilsOfTheViewModel", "draw", "(I)I"⟩, 28)]
theorem lw_r5 : ∀ q ∈ lw_privs_5, lw_okq q := List.forall_mem_cons.mpr ⟨lw_p64, List.forall_mem_cons.mpr ⟨lw_p65, List.forall_mem_cons.mpr ⟨lw_p66, List.forall_mem_cons.mpr ⟨lw_p67, List.forall_mem_cons.mpr ⟨lw_p68, List.forall_mem_cons.mpr ⟨lw_p69, List.forall_mem_cons.mpr ⟨lw_p70, fun _ h => absurd h List.not_mem_nil⟩⟩⟩⟩⟩⟩⟩
def lw_privs : List (MethodName × Nat) := lw_privs_1 ++ (lw_privs_2 ++ (lw_privs_3 ++ (lw_privs_4 ++ (lw_privs_5))))
def lw_tbl : List Cond := k2_sels lw_privs ++ tables_1
theorem lw_privs_ok : ∀ q ∈ lw_privs, lw_okq q := by
  show ∀ q ∈ lw_privs_1 ++ (lw_privs_2 ++ (lw_privs_3 ++ (lw_privs_4 ++ (lw_privs_5)))), lw_okq q
  exact List.forall_mem_append.mpr ⟨lw_r1, List.forall_mem_append.mpr ⟨lw_r2, List.forall_mem_append.mpr ⟨lw_r3, List.forall_mem_append.mpr ⟨lw_r4, lw_r5⟩⟩⟩⟩
def RX0 : String := "VeilsOfTheView$Land"
def TX0 : u_T := fun k => match k with
  | 0 => ("VeilsOfTheView$Land", "shyness", "[I", true)
  | 1 => ("VeilsOfTheView$Land", "thing", "[I", true)
  | 2 => ("VeilsOfTheView$Land", "shownBy", "[I", true)
  | 3 => ("VeilsOfTheView$Land", "kind", "[I", true)
  | 4 => ("VeilsOfTheView$Land", "a", "[I", true)
  | 5 => ("VeilsOfTheView$Land", "want", "[I", true)
  | 6 => ("VeilsOfTheView$Land", "seen", "[I", true)
  | 7 => ("VeilsOfTheView$Land", "cells", "I", false)
  | 8 => ("VeilsOfTheView$Land", "veil", "I", false)
  | 9 => ("VeilsOfTheView$Land", "day", "I", false)
  | 10 => ("VeilsOfTheView$Land", "seed", "I", false)
  | 11 => ("VeilsOfTheView$Land", "visitors", "I", false)
  | 12 => ("VeilsOfTheView$Land", "askers", "I", false)
  | _ => ("VeilsOfTheView$Land", "children", "I", false)
def tyX0 : Nat → FieldType := fun k => match k with
  | 0 => .array .int
  | 1 => .array .int
  | 2 => .array .int
  | 3 => .array .int
  | 4 => .array .int
  | 5 => .array .int
  | 6 => .array .int
  | 7 => .int
  | 8 => .int
  | 9 => .int
  | 10 => .int
  | 11 => .int
  | 12 => .int
  | _ => .int
abbrev wsX00 : List Cond := u_ws RX0 TX0 14
theorem nmX0 : ∀ a, a < 14 → ∀ b, b < 14 → a ≠ b → (TX0 a).2.1 ≠ (TX0 b).2.1 := by decide +kernel
theorem tyX0_ok : ∀ k, k < 14 → parseFieldDescriptor (TX0 k).2.2.1 = some (tyX0 k) := by decide +kernel
abbrev cX0_init : ByteArray := prog_2_method_1_code
def yX0_init : MethodName := ⟨RX0, "<init>", "()V"⟩
abbrev cX0_takeFrom : ByteArray := prog_2_method_2_code
def yX0_takeFrom : MethodName := ⟨RX0, "takeFrom", "(LVeilsOfTheView$Land;)V"⟩
abbrev cX0_paveTo : ByteArray := prog_2_method_3_code
def yX0_paveTo : MethodName := ⟨RX0, "paveTo", "(I)V"⟩
abbrev cX0_makeShy : ByteArray := prog_2_method_4_code
def yX0_makeShy : MethodName := ⟨RX0, "makeShy", "(II)V"⟩
abbrev cX0_sumUpShown : ByteArray := prog_2_method_5_code
def yX0_sumUpShown : MethodName := ⟨RX0, "sumUpShown", "()V"⟩
abbrev cX0_hasRoom : ByteArray := prog_2_method_6_code
def yX0_hasRoom : MethodName := ⟨RX0, "hasRoom", "()Z"⟩
abbrev cX0_let : ByteArray := prog_2_method_7_code
def yX0_let : MethodName := ⟨RX0, "let", "(III)V"⟩
abbrev cX0_hasCell : ByteArray := prog_2_method_8_code
def yX0_hasCell : MethodName := ⟨RX0, "hasCell", "(I)Z"⟩
abbrev cX0_hasCells : ByteArray := prog_2_method_9_code
def yX0_hasCells : MethodName := ⟨RX0, "hasCells", "(I)Z"⟩
abbrev cX0_allCells : ByteArray := prog_2_method_10_code
def yX0_allCells : MethodName := ⟨RX0, "allCells", "()I"⟩
abbrev cX0_hasVisitor : ByteArray := prog_2_method_11_code
def yX0_hasVisitor : MethodName := ⟨RX0, "hasVisitor", "(I)Z"⟩
abbrev cX0_hasGroup : ByteArray := prog_2_method_12_code
def yX0_hasGroup : MethodName := ⟨RX0, "hasGroup", "(I)Z"⟩
abbrev cX0_canVisit : ByteArray := prog_2_method_13_code
def yX0_canVisit : MethodName := ⟨RX0, "canVisit", "(I)Z"⟩
abbrev cX0_hasInGroup : ByteArray := prog_2_method_14_code
def yX0_hasInGroup : MethodName := ⟨RX0, "hasInGroup", "(II)Z"⟩
abbrev cX0_all : ByteArray := prog_2_method_15_code
def yX0_all : MethodName := ⟨RX0, "all", "()I"⟩
abbrev cX0_seenBy : ByteArray := prog_2_method_16_code
def yX0_seenBy : MethodName := ⟨RX0, "seenBy", "(I)I"⟩
abbrev cX0_knownBy : ByteArray := prog_2_method_17_code
def yX0_knownBy : MethodName := ⟨RX0, "knownBy", "(I)I"⟩
abbrev cX0_openByKind : ByteArray := prog_2_method_18_code
def yX0_openByKind : MethodName := ⟨RX0, "openByKind", "(IIIIZ)I"⟩
abbrev cX0_openTo : ByteArray := prog_2_method_19_code
def yX0_openTo : MethodName := ⟨RX0, "openTo", "(III)I"⟩
abbrev cX0_shownTo : ByteArray := prog_2_method_20_code
def yX0_shownTo : MethodName := ⟨RX0, "shownTo", "(III)I"⟩
abbrev cX0_shownAlone : ByteArray := prog_2_method_21_code
def yX0_shownAlone : MethodName := ⟨RX0, "shownAlone", "(II)I"⟩
abbrev cX0_shownIf : ByteArray := prog_2_method_22_code
def yX0_shownIf : MethodName := ⟨RX0, "shownIf", "(IIII)I"⟩
abbrev cX0_shownIfWanting : ByteArray := prog_2_method_23_code
def yX0_shownIfWanting : MethodName := ⟨RX0, "shownIfWanting", "(II)I"⟩
abbrev cX0_shownToAny : ByteArray := prog_2_method_24_code
def yX0_shownToAny : MethodName := ⟨RX0, "shownToAny", "(II)I"⟩
abbrev cX0_newBy : ByteArray := prog_2_method_25_code
def yX0_newBy : MethodName := ⟨RX0, "newBy", "(I)I"⟩
abbrev cX0_veilBehind : ByteArray := prog_2_method_26_code
def yX0_veilBehind : MethodName := ⟨RX0, "veilBehind", "(II)I"⟩
abbrev cX0_goTogether : ByteArray := prog_2_method_27_code
def yX0_goTogether : MethodName := ⟨RX0, "goTogether", "(I)V"⟩
abbrev cX0_passDay : ByteArray := prog_2_method_28_code
def yX0_passDay : MethodName := ⟨RX0, "passDay", "()V"⟩
abbrev cX0_dayByDraws : ByteArray := prog_2_method_29_code
def yX0_dayByDraws : MethodName := ⟨RX0, "dayByDraws", "()I"⟩
abbrev cX0_draw : ByteArray := prog_2_method_30_code
def yX0_draw : MethodName := ⟨RX0, "draw", "(I)I"⟩
def RX1 : String := "VeilsOfTheView$Orders"
def TX1 : u_T := fun k => match k with
  | 0 => ("VeilsOfTheView$Orders", "best", "[I", true)
  | 1 => ("VeilsOfTheView$Orders", "most", "I", false)
  | _ => ("VeilsOfTheView$Orders", "tried", "[I", true)
def tyX1 : Nat → FieldType := fun k => match k with
  | 0 => .array .int
  | 1 => .int
  | _ => .array .int
abbrev wsX10 : List Cond := u_ws RX1 TX1 3
theorem nmX1 : ∀ a, a < 3 → ∀ b, b < 3 → a ≠ b → (TX1 a).2.1 ≠ (TX1 b).2.1 := by decide +kernel
theorem tyX1_ok : ∀ k, k < 3 → parseFieldDescriptor (TX1 k).2.2.1 = some (tyX1 k) := by decide +kernel
abbrev cX1_init : ByteArray := prog_3_method_1_code
def yX1_init : MethodName := ⟨RX1, "<init>", "()V"⟩
abbrev cX1_seek : ByteArray := prog_3_method_2_code
def yX1_seek : MethodName := ⟨RX1, "seek", "(LVeilsOfTheView$Land;I)V"⟩
abbrev cX1_goOn : ByteArray := prog_3_method_3_code
def yX1_goOn : MethodName := ⟨RX1, "goOn", "(LVeilsOfTheView$Orders;LVeilsOfTheView$Land;IIII)V"⟩
abbrev cX1_compare : ByteArray := prog_3_method_4_code
def yX1_compare : MethodName := ⟨RX1, "compare", "(I)V"⟩
def RX2 : String := "VeilsOfTheView$Shelf"
def TX2 : u_T := fun k => match k with
  | 0 => ("VeilsOfTheView$Shelf", "elements", "[J", true)
  | 1 => ("VeilsOfTheView$Shelf", "size", "I", false)
  | _ => ("VeilsOfTheView$Shelf", "held", "I", false)
def tyX2 : Nat → FieldType := fun k => match k with
  | 0 => .array .long
  | 1 => .int
  | _ => .int
abbrev wsX20 : List Cond := u_ws RX2 TX2 3
theorem nmX2 : ∀ a, a < 3 → ∀ b, b < 3 → a ≠ b → (TX2 a).2.1 ≠ (TX2 b).2.1 := by decide +kernel
theorem tyX2_ok : ∀ k, k < 3 → parseFieldDescriptor (TX2 k).2.2.1 = some (tyX2 k) := by decide +kernel
abbrev cX2_init : ByteArray := prog_4_method_1_code
def yX2_init : MethodName := ⟨RX2, "<init>", "()V"⟩
abbrev cX2_holdsRow : ByteArray := prog_4_method_2_code
def yX2_holdsRow : MethodName := ⟨RX2, "holdsRow", "()Z"⟩
abbrev cX2_holdsVisitor : ByteArray := prog_4_method_3_code
def yX2_holdsVisitor : MethodName := ⟨RX2, "holdsVisitor", "()Z"⟩
abbrev cX2_holdRow : ByteArray := prog_4_method_4_code
def yX2_holdRow : MethodName := ⟨RX2, "holdRow", "(II)V"⟩
abbrev cX2_hasPart : ByteArray := prog_4_method_5_code
def yX2_hasPart : MethodName := ⟨RX2, "hasPart", "(II)Z"⟩
abbrev cX2_put : ByteArray := prog_4_method_6_code
def yX2_put : MethodName := ⟨RX2, "put", "(IJ)V"⟩
abbrev cX2_asKept : ByteArray := prog_4_method_7_code
def yX2_asKept : MethodName := ⟨RX2, "asKept", "(IJ)J"⟩
def RX3 : String := "VeilsOfTheView$Tape"
def TX3 : u_T := fun k => match k with
  | 0 => ("VeilsOfTheView$Tape", "letters", "[C", true)
  | 1 => ("VeilsOfTheView$Tape", "size", "I", false)
  | 2 => ("VeilsOfTheView$Tape", "start", "I", false)
  | 3 => ("VeilsOfTheView$Tape", "end", "I", false)
  | 4 => ("VeilsOfTheView$Tape", "sort", "I", false)
  | _ => ("VeilsOfTheView$Tape", "number", "I", false)
def tyX3 : Nat → FieldType := fun k => match k with
  | 0 => .array .char
  | 1 => .int
  | 2 => .int
  | 3 => .int
  | 4 => .int
  | _ => .int
abbrev wsX30 : List Cond := u_ws RX3 TX3 6
theorem nmX3 : ∀ a, a < 6 → ∀ b, b < 6 → a ≠ b → (TX3 a).2.1 ≠ (TX3 b).2.1 := by decide +kernel
theorem tyX3_ok : ∀ k, k < 6 → parseFieldDescriptor (TX3 k).2.2.1 = some (tyX3 k) := by decide +kernel
abbrev cX3_init : ByteArray := prog_5_method_1_code
def yX3_init : MethodName := ⟨RX3, "<init>", "()V"⟩
abbrev cX3_hasRoom : ByteArray := prog_5_method_2_code
def yX3_hasRoom : MethodName := ⟨RX3, "hasRoom", "()Z"⟩
abbrev cX3_add : ByteArray := prog_5_method_3_code
def yX3_add : MethodName := ⟨RX3, "add", "(I)V"⟩
abbrev cX3_readInto : ByteArray := prog_5_method_4_code
def yX3_readInto : MethodName := ⟨RX3, "readInto", "(LVeilsOfTheView$Land;)I"⟩
abbrev cX3_readStatement : ByteArray := prog_5_method_5_code
def yX3_readStatement : MethodName := ⟨RX3, "readStatement", "(LVeilsOfTheView$Land;)Z"⟩
abbrev cX3_readCells : ByteArray := prog_5_method_6_code
def yX3_readCells : MethodName := ⟨RX3, "readCells", "(LVeilsOfTheView$Land;)Z"⟩
abbrev cX3_readVisitor : ByteArray := prog_5_method_7_code
def yX3_readVisitor : MethodName := ⟨RX3, "readVisitor", "(LVeilsOfTheView$Land;)Z"⟩
abbrev cX3_readShy : ByteArray := prog_5_method_8_code
def yX3_readShy : MethodName := ⟨RX3, "readShy", "(LVeilsOfTheView$Land;)Z"⟩
abbrev cX3_readThing : ByteArray := prog_5_method_9_code
def yX3_readThing : MethodName := ⟨RX3, "readThing", "(LVeilsOfTheView$Land;)Z"⟩
abbrev cX3_readSaw : ByteArray := prog_5_method_10_code
def yX3_readSaw : MethodName := ⟨RX3, "readSaw", "(LVeilsOfTheView$Land;)Z"⟩
abbrev cX3_readVeil : ByteArray := prog_5_method_11_code
def yX3_readVeil : MethodName := ⟨RX3, "readVeil", "(LVeilsOfTheView$Land;)Z"⟩
abbrev cX3_readDay : ByteArray := prog_5_method_12_code
def yX3_readDay : MethodName := ⟨RX3, "readDay", "(LVeilsOfTheView$Land;)Z"⟩
abbrev cX3_readNumber : ByteArray := prog_5_method_13_code
def yX3_readNumber : MethodName := ⟨RX3, "readNumber", "(II)Z"⟩
abbrev cX3_isWord : ByteArray := prog_5_method_14_code
def yX3_isWord : MethodName := ⟨RX3, "isWord", "(Ljava/lang/String;)Z"⟩
abbrev cX3_step : ByteArray := prog_5_method_15_code
def yX3_step : MethodName := ⟨RX3, "step", "()V"⟩
abbrev cX3_sortOf : ByteArray := prog_5_method_16_code
def yX3_sortOf : MethodName := ⟨RX3, "sortOf", "(C)I"⟩
def RX4 : String := "VeilsOfTheView"
def TX4 : u_T := fun k => match k with
  | 0 => ("VeilsOfTheView", "now", "LVeilsOfTheView$Land;", true)
  | 1 => ("VeilsOfTheView", "kept", "LVeilsOfTheView$Land;", true)
  | 2 => ("VeilsOfTheView", "trial", "LVeilsOfTheView$Land;", true)
  | 3 => ("VeilsOfTheView", "shelves", "[LVeilsOfTheView$Shelf;", true)
  | 4 => ("VeilsOfTheView", "tape", "LVeilsOfTheView$Tape;", true)
  | 5 => ("VeilsOfTheView", "orders", "LVeilsOfTheView$Orders;", true)
  | 6 => ("VeilsOfTheView", "refusals", "[I", true)
  | _ => ("VeilsOfTheView", "isKept", "Z", false)
def tyX4 : Nat → FieldType := fun k => match k with
  | 0 => .object "VeilsOfTheView$Land"
  | 1 => .object "VeilsOfTheView$Land"
  | 2 => .object "VeilsOfTheView$Land"
  | 3 => .array (.object "VeilsOfTheView$Shelf")
  | 4 => .object "VeilsOfTheView$Tape"
  | 5 => .object "VeilsOfTheView$Orders"
  | 6 => .array .int
  | _ => .boolean
abbrev wsX40 : List Cond := u_ws RX4 TX4 8
theorem nmX4 : ∀ a, a < 8 → ∀ b, b < 8 → a ≠ b → (TX4 a).2.1 ≠ (TX4 b).2.1 := by decide +kernel
theorem tyX4_ok : ∀ k, k < 8 → parseFieldDescriptor (TX4 k).2.2.1 = some (tyX4 k) := by decide +kernel
abbrev cX4_init : ByteArray := prog_1_method_1_code
def yX4_init : MethodName := ⟨RX4, "<init>", "()V"⟩
abbrev cX4_row : ByteArray := prog_1_method_2_code
def yX4_row : MethodName := ⟨RX4, "row", "(III)I"⟩
abbrev cX4_set : ByteArray := prog_1_method_3_code
def yX4_set : MethodName := ⟨RX4, "set", "(IIJ)I"⟩
abbrev cX4_copy : ByteArray := prog_1_method_4_code
def yX4_copy : MethodName := ⟨RX4, "copy", "(IIIII)I"⟩
abbrev cX4_element : ByteArray := prog_1_method_5_code
def yX4_element : MethodName := ⟨RX4, "element", "(II)J"⟩
abbrev cX4_holds : ByteArray := prog_1_method_6_code
def yX4_holds : MethodName := ⟨RX4, "holds", "(I)I"⟩
abbrev cX4_show : ByteArray := prog_1_method_7_code
def yX4_show : MethodName := ⟨RX4, "show", "(II)I"⟩
abbrev cX4_says : ByteArray := prog_1_method_8_code
def yX4_says : MethodName := ⟨RX4, "says", "(II)I"⟩
abbrev cX4_paves : ByteArray := prog_1_method_9_code
def yX4_paves : MethodName := ⟨RX4, "paves", "(I)I"⟩
abbrev cX4_visitor : ByteArray := prog_1_method_10_code
def yX4_visitor : MethodName := ⟨RX4, "visitor", "(III)I"⟩
abbrev cX4_wants : ByteArray := prog_1_method_11_code
def yX4_wants : MethodName := ⟨RX4, "wants", "(II)I"⟩
abbrev cX4_mark : ByteArray := prog_1_method_12_code
def yX4_mark : MethodName := ⟨RX4, "mark", "(III)I"⟩
abbrev cX4_tell : ByteArray := prog_1_method_13_code
def yX4_tell : MethodName := ⟨RX4, "tell", "(II)I"⟩
abbrev cX4_feed : ByteArray := prog_1_method_14_code
def yX4_feed : MethodName := ⟨RX4, "feed", "(I)I"⟩
abbrev cX4_wipe : ByteArray := prog_1_method_15_code
def yX4_wipe : MethodName := ⟨RX4, "wipe", "()I"⟩
abbrev cX4_view : ByteArray := prog_1_method_16_code
def yX4_view : MethodName := ⟨RX4, "view", "()I"⟩
abbrev cX4_visitorOf : ByteArray := prog_1_method_17_code
def yX4_visitorOf : MethodName := ⟨RX4, "visitorOf", "(II)I"⟩
abbrev cX4_cellOf : ByteArray := prog_1_method_18_code
def yX4_cellOf : MethodName := ⟨RX4, "cellOf", "(II)I"⟩
abbrev cX4_open : ByteArray := prog_1_method_19_code
def yX4_open : MethodName := ⟨RX4, "open", "(II)I"⟩
abbrev cX4_shown : ByteArray := prog_1_method_20_code
def yX4_shown : MethodName := ⟨RX4, "shown", "(II)I"⟩
abbrev cX4_known : ByteArray := prog_1_method_21_code
def yX4_known : MethodName := ⟨RX4, "known", "(I)I"⟩
abbrev cX4_fresh : ByteArray := prog_1_method_22_code
def yX4_fresh : MethodName := ⟨RX4, "fresh", "(I)I"⟩
abbrev cX4_veilThen : ByteArray := prog_1_method_23_code
def yX4_veilThen : MethodName := ⟨RX4, "veilThen", "(I)I"⟩
abbrev cX4_send : ByteArray := prog_1_method_24_code
def yX4_send : MethodName := ⟨RX4, "send", "(I)I"⟩
abbrev cX4_fewest : ByteArray := prog_1_method_25_code
def yX4_fewest : MethodName := ⟨RX4, "fewest", "(I)I"⟩
abbrev cX4_order : ByteArray := prog_1_method_26_code
def yX4_order : MethodName := ⟨RX4, "order", "(II)I"⟩
abbrev cX4_how : ByteArray := prog_1_method_27_code
def yX4_how : MethodName := ⟨RX4, "how", "(II)I"⟩
abbrev cX4_lifted : ByteArray := prog_1_method_28_code
def yX4_lifted : MethodName := ⟨RX4, "lifted", "(III)I"⟩
abbrev cX4_register : ByteArray := prog_1_method_29_code
def yX4_register : MethodName := ⟨RX4, "register", "(IIII)I"⟩
abbrev cX4_fits : ByteArray := prog_1_method_30_code
def yX4_fits : MethodName := ⟨RX4, "fits", "(IIII)I"⟩
abbrev cX4_together : ByteArray := prog_1_method_31_code
def yX4_together : MethodName := ⟨RX4, "together", "()I"⟩
abbrev cX4_needed : ByteArray := prog_1_method_32_code
def yX4_needed : MethodName := ⟨RX4, "needed", "()I"⟩
abbrev cX4_picture : ByteArray := prog_1_method_33_code
def yX4_picture : MethodName := ⟨RX4, "picture", "(III)I"⟩
abbrev cX4_lift : ByteArray := prog_1_method_34_code
def yX4_lift : MethodName := ⟨RX4, "lift", "(II)I"⟩
abbrev cX4_chance : ByteArray := prog_1_method_35_code
def yX4_chance : MethodName := ⟨RX4, "chance", "(II)I"⟩
abbrev cX4_mean : ByteArray := prog_1_method_36_code
def yX4_mean : MethodName := ⟨RX4, "mean", "(I)I"⟩
abbrev cX4_hidden : ByteArray := prog_1_method_37_code
def yX4_hidden : MethodName := ⟨RX4, "hidden", "()I"⟩
abbrev cX4_best : ByteArray := prog_1_method_38_code
def yX4_best : MethodName := ⟨RX4, "best", "(I)I"⟩
abbrev cX4_mate : ByteArray := prog_1_method_39_code
def yX4_mate : MethodName := ⟨RX4, "mate", "(I)I"⟩
abbrev cX4_rarest : ByteArray := prog_1_method_40_code
def yX4_rarest : MethodName := ⟨RX4, "rarest", "(I)I"⟩
abbrev cX4_both : ByteArray := prog_1_method_41_code
def yX4_both : MethodName := ⟨RX4, "both", "(II)I"⟩
abbrev cX4_visitsTill : ByteArray := prog_1_method_42_code
def yX4_visitsTill : MethodName := ⟨RX4, "visitsTill", "(II)I"⟩
abbrev cX4_who : ByteArray := prog_1_method_43_code
def yX4_who : MethodName := ⟨RX4, "who", "(I)I"⟩
abbrev cX4_company : ByteArray := prog_1_method_44_code
def yX4_company : MethodName := ⟨RX4, "company", "(I)I"⟩
abbrev cX4_spoiler : ByteArray := prog_1_method_45_code
def yX4_spoiler : MethodName := ⟨RX4, "spoiler", "(I)I"⟩
abbrev cX4_split : ByteArray := prog_1_method_46_code
def yX4_split : MethodName := ⟨RX4, "split", "(II)I"⟩
abbrev cX4_couple : ByteArray := prog_1_method_47_code
def yX4_couple : MethodName := ⟨RX4, "couple", "()I"⟩
abbrev cX4_secret : ByteArray := prog_1_method_48_code
def yX4_secret : MethodName := ⟨RX4, "secret", "(I)I"⟩
abbrev cX4_rank : ByteArray := prog_1_method_49_code
def yX4_rank : MethodName := ⟨RX4, "rank", "(I)I"⟩
abbrev cX4_blind : ByteArray := prog_1_method_50_code
def yX4_blind : MethodName := ⟨RX4, "blind", "(I)I"⟩
abbrev cX4_shyest : ByteArray := prog_1_method_51_code
def yX4_shyest : MethodName := ⟨RX4, "shyest", "(I)I"⟩
abbrev cX4_alike : ByteArray := prog_1_method_52_code
def yX4_alike : MethodName := ⟨RX4, "alike", "(II)I"⟩
abbrev cX4_ofKind : ByteArray := prog_1_method_53_code
def yX4_ofKind : MethodName := ⟨RX4, "ofKind", "(I)I"⟩
abbrev cX4_judge : ByteArray := prog_1_method_54_code
def yX4_judge : MethodName := ⟨RX4, "judge", "(II)I"⟩
abbrev cX4_behind : ByteArray := prog_1_method_55_code
def yX4_behind : MethodName := ⟨RX4, "behind", "(III)I"⟩
abbrev cX4_visit : ByteArray := prog_1_method_56_code
def yX4_visit : MethodName := ⟨RX4, "visit", "(I)I"⟩
abbrev cX4_days : ByteArray := prog_1_method_57_code
def yX4_days : MethodName := ⟨RX4, "days", "(I)I"⟩
abbrev cX4_seed : ByteArray := prog_1_method_58_code
def yX4_seed : MethodName := ⟨RX4, "seed", "(I)I"⟩
abbrev cX4_image : ByteArray := prog_1_method_59_code
def yX4_image : MethodName := ⟨RX4, "image", "()I"⟩
abbrev cX4_back : ByteArray := prog_1_method_60_code
def yX4_back : MethodName := ⟨RX4, "back", "()I"⟩
abbrev cX4_status : ByteArray := prog_1_method_61_code
def yX4_status : MethodName := ⟨RX4, "status", "(I)I"⟩
abbrev cX4_refuse : ByteArray := prog_1_method_62_code
def yX4_refuse : MethodName := ⟨RX4, "refuse", "(I)I"⟩
abbrev cX4_rowFault : ByteArray := prog_1_method_63_code
def yX4_rowFault : MethodName := ⟨RX4, "rowFault", "(IZI)I"⟩
abbrev cX4_copyFault : ByteArray := prog_1_method_64_code
def yX4_copyFault : MethodName := ⟨RX4, "copyFault", "(II)I"⟩
abbrev cX4_shelvesInUse : ByteArray := prog_1_method_65_code
def yX4_shelvesInUse : MethodName := ⟨RX4, "shelvesInUse", "()I"⟩
abbrev cX4_tellsVisitors : ByteArray := prog_1_method_66_code
def yX4_tellsVisitors : MethodName := ⟨RX4, "tellsVisitors", "(LVeilsOfTheView$Shelf;I)Z"⟩
abbrev cX4_tellsVeils : ByteArray := prog_1_method_67_code
def yX4_tellsVeils : MethodName := ⟨RX4, "tellsVeils", "(LVeilsOfTheView$Shelf;I)Z"⟩
abbrev cX4_kindsThatFit : ByteArray := prog_1_method_68_code
def yX4_kindsThatFit : MethodName := ⟨RX4, "kindsThatFit", "(LVeilsOfTheView$Shelf;II)I"⟩
abbrev cX4_wantsThatFit : ByteArray := prog_1_method_69_code
def yX4_wantsThatFit : MethodName := ⟨RX4, "wantsThatFit", "(LVeilsOfTheView$Shelf;II)I"⟩
abbrev cX4_isShownAsTold : ByteArray := prog_1_method_70_code
def yX4_isShownAsTold : MethodName := ⟨RX4, "isShownAsTold", "(LVeilsOfTheView$Shelf;IIII)Z"⟩
abbrev cX4_isSoFrom : ByteArray := prog_1_method_71_code
def yX4_isSoFrom : MethodName := ⟨RX4, "isSoFrom", "(ILVeilsOfTheView$Shelf;II)Z"⟩
abbrev cX4_firstWrong : ByteArray := prog_1_method_72_code
def yX4_firstWrong : MethodName := ⟨RX4, "firstWrong", "(LVeilsOfTheView$Shelf;I)I"⟩
abbrev cX4_knownBehindTwo : ByteArray := prog_1_method_73_code
def yX4_knownBehindTwo : MethodName := ⟨RX4, "knownBehindTwo", "(II)I"⟩
abbrev cX4_placeOf : ByteArray := prog_1_method_74_code
def yX4_placeOf : MethodName := ⟨RX4, "placeOf", "(I)I"⟩
abbrev cX4_veilIfFirst : ByteArray := prog_1_method_75_code
def yX4_veilIfFirst : MethodName := ⟨RX4, "veilIfFirst", "(II)I"⟩
abbrev cX4_veilByTurns : ByteArray := prog_1_method_76_code
def yX4_veilByTurns : MethodName := ⟨RX4, "veilByTurns", "(IIIIIZ)I"⟩
abbrev cX4_isWithin : ByteArray := prog_1_method_77_code
def yX4_isWithin : MethodName := ⟨RX4, "isWithin", "(III)Z"⟩
abbrev cX4_isShelf : ByteArray := prog_1_method_78_code
def yX4_isShelf : MethodName := ⟨RX4, "isShelf", "(I)Z"⟩
abbrev cX4_isKind : ByteArray := prog_1_method_79_code
def yX4_isKind : MethodName := ⟨RX4, "isKind", "(I)Z"⟩
abbrev cX4_isLevel : ByteArray := prog_1_method_80_code
def yX4_isLevel : MethodName := ⟨RX4, "isLevel", "(I)Z"⟩
abbrev cX4_isOneOfTwo : ByteArray := prog_1_method_81_code
def yX4_isOneOfTwo : MethodName := ⟨RX4, "isOneOfTwo", "(I)Z"⟩
abbrev cX4_isIn : ByteArray := prog_1_method_82_code
def yX4_isIn : MethodName := ⟨RX4, "isIn", "(IJ)Z"⟩
abbrev cX4_levelOf : ByteArray := prog_1_method_83_code
def yX4_levelOf : MethodName := ⟨RX4, "levelOf", "(I)I"⟩
abbrev cX4_isUnder : ByteArray := prog_1_method_84_code
def yX4_isUnder : MethodName := ⟨RX4, "isUnder", "(II)Z"⟩
def RX5 : String := "VeilsOfTheViewModel"
def TX5 : u_T := fun k => match k with
  | 0 => ("VeilsOfTheViewModel", "n", "I", false)
  | 1 => ("VeilsOfTheViewModel", "shy", "[I", true)
  | 2 => ("VeilsOfTheViewModel", "thing", "[I", true)
  | 3 => ("VeilsOfTheViewModel", "ways", "[I", true)
  | 4 => ("VeilsOfTheViewModel", "visitors", "I", false)
  | 5 => ("VeilsOfTheViewModel", "kind", "[I", true)
  | 6 => ("VeilsOfTheViewModel", "own", "[I", true)
  | 7 => ("VeilsOfTheViewModel", "want", "[I", true)
  | 8 => ("VeilsOfTheViewModel", "seen", "[I", true)
  | 9 => ("VeilsOfTheViewModel", "seed", "I", false)
  | 10 => ("VeilsOfTheViewModel", "taped", "I", false)
  | 11 => ("VeilsOfTheViewModel", "tape", "[I", true)
  | 12 => ("VeilsOfTheViewModel", "from", "I", false)
  | 13 => ("VeilsOfTheViewModel", "to", "I", false)
  | 14 => ("VeilsOfTheViewModel", "token", "I", false)
  | 15 => ("VeilsOfTheViewModel", "value", "I", false)
  | 16 => ("VeilsOfTheViewModel", "holding", "[I", true)
  | 17 => ("VeilsOfTheViewModel", "rowLength", "[I", true)
  | 18 => ("VeilsOfTheViewModel", "rowOf", "[J", true)
  | 19 => ("VeilsOfTheViewModel", "refusals", "[I", true)
  | 20 => ("VeilsOfTheViewModel", "imaged", "Z", false)
  | 21 => ("VeilsOfTheViewModel", "old", "[I", true)
  | 22 => ("VeilsOfTheViewModel", "before", "[I", true)
  | 23 => ("VeilsOfTheViewModel", "was", "[I", true)
  | 24 => ("VeilsOfTheViewModel", "shows", "[I", true)
  | 25 => ("VeilsOfTheViewModel", "tried", "[I", true)
  | 26 => ("VeilsOfTheViewModel", "first", "[I", true)
  | _ => ("VeilsOfTheViewModel", "most", "I", false)
def tyX5 : Nat → FieldType := fun k => match k with
  | 0 => .int
  | 1 => .array .int
  | 2 => .array .int
  | 3 => .array .int
  | 4 => .int
  | 5 => .array .int
  | 6 => .array .int
  | 7 => .array .int
  | 8 => .array .int
  | 9 => .int
  | 10 => .int
  | 11 => .array .int
  | 12 => .int
  | 13 => .int
  | 14 => .int
  | 15 => .int
  | 16 => .array .int
  | 17 => .array .int
  | 18 => .array .long
  | 19 => .array .int
  | 20 => .boolean
  | 21 => .array .int
  | 22 => .array .int
  | 23 => .array .int
  | 24 => .array .int
  | 25 => .array .int
  | 26 => .array .int
  | _ => .int
abbrev wsX50 : List Cond := u_ws RX5 TX5 28
theorem nmX5 : ∀ a, a < 28 → ∀ b, b < 28 → a ≠ b → (TX5 a).2.1 ≠ (TX5 b).2.1 := by decide +kernel
theorem tyX5_ok : ∀ k, k < 28 → parseFieldDescriptor (TX5 k).2.2.1 = some (tyX5 k) := by decide +kernel
abbrev cX5_init : ByteArray := prog_7_method_1_code
def yX5_init : MethodName := ⟨RX5, "<init>", "()V"⟩
abbrev cX5_no : ByteArray := prog_7_method_2_code
def yX5_no : MethodName := ⟨RX5, "no", "(I)I"⟩
abbrev cX5_within : ByteArray := prog_7_method_3_code
def yX5_within : MethodName := ⟨RX5, "within", "(III)Z"⟩
abbrev cX5_isCell : ByteArray := prog_7_method_4_code
def yX5_isCell : MethodName := ⟨RX5, "isCell", "(I)Z"⟩
abbrev cX5_isOne : ByteArray := prog_7_method_5_code
def yX5_isOne : MethodName := ⟨RX5, "isOne", "(I)Z"⟩
abbrev cX5_isGroup : ByteArray := prog_7_method_6_code
def yX5_isGroup : MethodName := ⟨RX5, "isGroup", "(I)Z"⟩
abbrev cX5_areCells : ByteArray := prog_7_method_7_code
def yX5_areCells : MethodName := ⟨RX5, "areCells", "(I)Z"⟩
abbrev cX5_has : ByteArray := prog_7_method_8_code
def yX5_has : MethodName := ⟨RX5, "has", "(II)Z"⟩
abbrev cX5_isShelf : ByteArray := prog_7_method_9_code
def yX5_isShelf : MethodName := ⟨RX5, "isShelf", "(I)Z"⟩
abbrev cX5_isRow : ByteArray := prog_7_method_10_code
def yX5_isRow : MethodName := ⟨RX5, "isRow", "(I)Z"⟩
abbrev cX5_row : ByteArray := prog_7_method_11_code
def yX5_row : MethodName := ⟨RX5, "row", "(III)I"⟩
abbrev cX5_noRow : ByteArray := prog_7_method_12_code
def yX5_noRow : MethodName := ⟨RX5, "noRow", "(I)I"⟩
abbrev cX5_kept : ByteArray := prog_7_method_13_code
def yX5_kept : MethodName := ⟨RX5, "kept", "(IJ)J"⟩
abbrev cX5_set : ByteArray := prog_7_method_14_code
def yX5_set : MethodName := ⟨RX5, "set", "(IIJ)I"⟩
abbrev cX5_copy : ByteArray := prog_7_method_15_code
def yX5_copy : MethodName := ⟨RX5, "copy", "(IIIII)I"⟩
abbrev cX5_element : ByteArray := prog_7_method_16_code
def yX5_element : MethodName := ⟨RX5, "element", "(II)J"⟩
abbrev cX5_holds : ByteArray := prog_7_method_17_code
def yX5_holds : MethodName := ⟨RX5, "holds", "(I)I"⟩
abbrev cX5_show : ByteArray := prog_7_method_18_code
def yX5_show : MethodName := ⟨RX5, "show", "(II)I"⟩
abbrev cX5_isUnder : ByteArray := prog_7_method_19_code
def yX5_isUnder : MethodName := ⟨RX5, "isUnder", "(II)Z"⟩
abbrev cX5_says : ByteArray := prog_7_method_20_code
def yX5_says : MethodName := ⟨RX5, "says", "(II)I"⟩
abbrev cX5_paves : ByteArray := prog_7_method_21_code
def yX5_paves : MethodName := ⟨RX5, "paves", "(I)I"⟩
abbrev cX5_newOne : ByteArray := prog_7_method_22_code
def yX5_newOne : MethodName := ⟨RX5, "newOne", "(III)I"⟩
abbrev cX5_visitor : ByteArray := prog_7_method_23_code
def yX5_visitor : MethodName := ⟨RX5, "visitor", "(III)I"⟩
abbrev cX5_wants : ByteArray := prog_7_method_24_code
def yX5_wants : MethodName := ⟨RX5, "wants", "(II)I"⟩
abbrev cX5_mark : ByteArray := prog_7_method_25_code
def yX5_mark : MethodName := ⟨RX5, "mark", "(III)I"⟩
abbrev cX5_tell : ByteArray := prog_7_method_26_code
def yX5_tell : MethodName := ⟨RX5, "tell", "(II)I"⟩
abbrev cX5_feed : ByteArray := prog_7_method_27_code
def yX5_feed : MethodName := ⟨RX5, "feed", "(I)I"⟩
abbrev cX5_wipe : ByteArray := prog_7_method_28_code
def yX5_wipe : MethodName := ⟨RX5, "wipe", "()I"⟩
abbrev cX5_isLetter : ByteArray := prog_7_method_29_code
def yX5_isLetter : MethodName := ⟨RX5, "isLetter", "(I)Z"⟩
abbrev cX5_isDigit : ByteArray := prog_7_method_30_code
def yX5_isDigit : MethodName := ⟨RX5, "isDigit", "(I)Z"⟩
abbrev cX5_next : ByteArray := prog_7_method_31_code
def yX5_next : MethodName := ⟨RX5, "next", "()V"⟩
abbrev cX5_isWord : ByteArray := prog_7_method_32_code
def yX5_isWord : MethodName := ⟨RX5, "isWord", "(Ljava/lang/String;)Z"⟩
abbrev cX5_number : ByteArray := prog_7_method_33_code
def yX5_number : MethodName := ⟨RX5, "number", "(II)I"⟩
abbrev cX5_comesOne : ByteArray := prog_7_method_34_code
def yX5_comesOne : MethodName := ⟨RX5, "comesOne", "()Z"⟩
abbrev cX5_tellsOf : ByteArray := prog_7_method_35_code
def yX5_tellsOf : MethodName := ⟨RX5, "tellsOf", "([II)Z"⟩
abbrev cX5_statement : ByteArray := prog_7_method_36_code
def yX5_statement : MethodName := ⟨RX5, "statement", "()Z"⟩
abbrev cX5_view : ByteArray := prog_7_method_37_code
def yX5_view : MethodName := ⟨RX5, "view", "()I"⟩
abbrev cX5_visitorOf : ByteArray := prog_7_method_38_code
def yX5_visitorOf : MethodName := ⟨RX5, "visitorOf", "(II)I"⟩
abbrev cX5_seenBy : ByteArray := prog_7_method_39_code
def yX5_seenBy : MethodName := ⟨RX5, "seenBy", "(I)I"⟩
abbrev cX5_cellOf : ByteArray := prog_7_method_40_code
def yX5_cellOf : MethodName := ⟨RX5, "cellOf", "(II)I"⟩
abbrev cX5_held : ByteArray := prog_7_method_41_code
def yX5_held : MethodName := ⟨RX5, "held", "(I)I"⟩
abbrev cX5_openBy : ByteArray := prog_7_method_42_code
def yX5_openBy : MethodName := ⟨RX5, "openBy", "(IZ)I"⟩
abbrev cX5_asks : ByteArray := prog_7_method_43_code
def yX5_asks : MethodName := ⟨RX5, "asks", "(I)Z"⟩
abbrev cX5_openTo : ByteArray := prog_7_method_44_code
def yX5_openTo : MethodName := ⟨RX5, "openTo", "(II)I"⟩
abbrev cX5_shownTo : ByteArray := prog_7_method_45_code
def yX5_shownTo : MethodName := ⟨RX5, "shownTo", "(II)I"⟩
abbrev cX5_shownAlone : ByteArray := prog_7_method_46_code
def yX5_shownAlone : MethodName := ⟨RX5, "shownAlone", "(I)I"⟩
abbrev cX5_shownToAll : ByteArray := prog_7_method_47_code
def yX5_shownToAll : MethodName := ⟨RX5, "shownToAll", "(I)I"⟩
abbrev cX5_knownBy : ByteArray := prog_7_method_48_code
def yX5_knownBy : MethodName := ⟨RX5, "knownBy", "(I)I"⟩
abbrev cX5_all : ByteArray := prog_7_method_49_code
def yX5_all : MethodName := ⟨RX5, "all", "()I"⟩
abbrev cX5_newOf : ByteArray := prog_7_method_50_code
def yX5_newOf : MethodName := ⟨RX5, "newOf", "(I)I"⟩
abbrev cX5_veilBehind : ByteArray := prog_7_method_51_code
def yX5_veilBehind : MethodName := ⟨RX5, "veilBehind", "(I)I"⟩
abbrev cX5_passesDay : ByteArray := prog_7_method_52_code
def yX5_passesDay : MethodName := ⟨RX5, "passesDay", "()V"⟩
abbrev cX5_goes : ByteArray := prog_7_method_53_code
def yX5_goes : MethodName := ⟨RX5, "goes", "(I)V"⟩
abbrev cX5_open : ByteArray := prog_7_method_54_code
def yX5_open : MethodName := ⟨RX5, "open", "(II)I"⟩
abbrev cX5_shown : ByteArray := prog_7_method_55_code
def yX5_shown : MethodName := ⟨RX5, "shown", "(II)I"⟩
abbrev cX5_known : ByteArray := prog_7_method_56_code
def yX5_known : MethodName := ⟨RX5, "known", "(I)I"⟩
abbrev cX5_fresh : ByteArray := prog_7_method_57_code
def yX5_fresh : MethodName := ⟨RX5, "fresh", "(I)I"⟩
abbrev cX5_veilThen : ByteArray := prog_7_method_58_code
def yX5_veilThen : MethodName := ⟨RX5, "veilThen", "(I)I"⟩
abbrev cX5_send : ByteArray := prog_7_method_59_code
def yX5_send : MethodName := ⟨RX5, "send", "(I)I"⟩
abbrev cX5_fewest : ByteArray := prog_7_method_60_code
def yX5_fewest : MethodName := ⟨RX5, "fewest", "(I)I"⟩
abbrev cX5_orders : ByteArray := prog_7_method_61_code
def yX5_orders : MethodName := ⟨RX5, "orders", "(II)V"⟩
abbrev cX5_order : ByteArray := prog_7_method_62_code
def yX5_order : MethodName := ⟨RX5, "order", "(II)I"⟩
abbrev cX5_how : ByteArray := prog_7_method_63_code
def yX5_how : MethodName := ⟨RX5, "how", "(II)I"⟩
abbrev cX5_lifted : ByteArray := prog_7_method_64_code
def yX5_lifted : MethodName := ⟨RX5, "lifted", "(III)I"⟩
abbrev cX5_toldAt : ByteArray := prog_7_method_65_code
def yX5_toldAt : MethodName := ⟨RX5, "toldAt", "(II)J"⟩
abbrev cX5_noTold : ByteArray := prog_7_method_66_code
def yX5_noTold : MethodName := ⟨RX5, "noTold", "(II)I"⟩
abbrev cX5_noTwos : ByteArray := prog_7_method_67_code
def yX5_noTwos : MethodName := ⟨RX5, "noTwos", "(III)I"⟩
abbrev cX5_isRegistered : ByteArray := prog_7_method_68_code
def yX5_isRegistered : MethodName := ⟨RX5, "isRegistered", "(III)Z"⟩
abbrev cX5_register : ByteArray := prog_7_method_69_code
def yX5_register : MethodName := ⟨RX5, "register", "(IIII)I"⟩
abbrev cX5_isShownSo : ByteArray := prog_7_method_70_code
def yX5_isShownSo : MethodName := ⟨RX5, "isShownSo", "(III)Z"⟩
abbrev cX5_fits : ByteArray := prog_7_method_71_code
def yX5_fits : MethodName := ⟨RX5, "fits", "(IIII)I"⟩
abbrev cX5_knowAll : ByteArray := prog_7_method_72_code
def yX5_knowAll : MethodName := ⟨RX5, "knowAll", "(I)Z"⟩
abbrev cX5_together : ByteArray := prog_7_method_73_code
def yX5_together : MethodName := ⟨RX5, "together", "()I"⟩
abbrev cX5_needed : ByteArray := prog_7_method_74_code
def yX5_needed : MethodName := ⟨RX5, "needed", "()I"⟩
abbrev cX5_isLaid : ByteArray := prog_7_method_75_code
def yX5_isLaid : MethodName := ⟨RX5, "isLaid", "(IIII)Z"⟩
abbrev cX5_picture : ByteArray := prog_7_method_76_code
def yX5_picture : MethodName := ⟨RX5, "picture", "(III)I"⟩
abbrev cX5_liftFrom : ByteArray := prog_7_method_77_code
def yX5_liftFrom : MethodName := ⟨RX5, "liftFrom", "(III)I"⟩
abbrev cX5_lift : ByteArray := prog_7_method_78_code
def yX5_lift : MethodName := ⟨RX5, "lift", "(II)I"⟩
abbrev cX5_chance : ByteArray := prog_7_method_79_code
def yX5_chance : MethodName := ⟨RX5, "chance", "(II)I"⟩
abbrev cX5_mean : ByteArray := prog_7_method_80_code
def yX5_mean : MethodName := ⟨RX5, "mean", "(I)I"⟩
abbrev cX5_hidden : ByteArray := prog_7_method_81_code
def yX5_hidden : MethodName := ⟨RX5, "hidden", "()I"⟩
abbrev cX5_best : ByteArray := prog_7_method_82_code
def yX5_best : MethodName := ⟨RX5, "best", "(I)I"⟩
abbrev cX5_mate : ByteArray := prog_7_method_83_code
def yX5_mate : MethodName := ⟨RX5, "mate", "(I)I"⟩
abbrev cX5_rarest : ByteArray := prog_7_method_84_code
def yX5_rarest : MethodName := ⟨RX5, "rarest", "(I)I"⟩
abbrev cX5_both : ByteArray := prog_7_method_85_code
def yX5_both : MethodName := ⟨RX5, "both", "(II)I"⟩
abbrev cX5_visitsTill : ByteArray := prog_7_method_86_code
def yX5_visitsTill : MethodName := ⟨RX5, "visitsTill", "(II)I"⟩
abbrev cX5_who : ByteArray := prog_7_method_87_code
def yX5_who : MethodName := ⟨RX5, "who", "(I)I"⟩
abbrev cX5_company : ByteArray := prog_7_method_88_code
def yX5_company : MethodName := ⟨RX5, "company", "(I)I"⟩
abbrev cX5_spoiler : ByteArray := prog_7_method_89_code
def yX5_spoiler : MethodName := ⟨RX5, "spoiler", "(I)I"⟩
abbrev cX5_split : ByteArray := prog_7_method_90_code
def yX5_split : MethodName := ⟨RX5, "split", "(II)I"⟩
abbrev cX5_couple : ByteArray := prog_7_method_91_code
def yX5_couple : MethodName := ⟨RX5, "couple", "()I"⟩
abbrev cX5_secret : ByteArray := prog_7_method_92_code
def yX5_secret : MethodName := ⟨RX5, "secret", "(I)I"⟩
abbrev cX5_rank : ByteArray := prog_7_method_93_code
def yX5_rank : MethodName := ⟨RX5, "rank", "(I)I"⟩
abbrev cX5_blind : ByteArray := prog_7_method_94_code
def yX5_blind : MethodName := ⟨RX5, "blind", "(I)I"⟩
abbrev cX5_shyest : ByteArray := prog_7_method_95_code
def yX5_shyest : MethodName := ⟨RX5, "shyest", "(I)I"⟩
abbrev cX5_alike : ByteArray := prog_7_method_96_code
def yX5_alike : MethodName := ⟨RX5, "alike", "(II)I"⟩
abbrev cX5_ofKind : ByteArray := prog_7_method_97_code
def yX5_ofKind : MethodName := ⟨RX5, "ofKind", "(I)I"⟩
abbrev cX5_canBe : ByteArray := prog_7_method_98_code
def yX5_canBe : MethodName := ⟨RX5, "canBe", "(J)Z"⟩
abbrev cX5_wrong : ByteArray := prog_7_method_99_code
def yX5_wrong : MethodName := ⟨RX5, "wrong", "(II)I"⟩
abbrev cX5_judge : ByteArray := prog_7_method_100_code
def yX5_judge : MethodName := ⟨RX5, "judge", "(II)I"⟩
abbrev cX5_behind : ByteArray := prog_7_method_101_code
def yX5_behind : MethodName := ⟨RX5, "behind", "(III)I"⟩
abbrev cX5_visit : ByteArray := prog_7_method_102_code
def yX5_visit : MethodName := ⟨RX5, "visit", "(I)I"⟩
abbrev cX5_draw : ByteArray := prog_7_method_103_code
def yX5_draw : MethodName := ⟨RX5, "draw", "(I)I"⟩
abbrev cX5_days : ByteArray := prog_7_method_104_code
def yX5_days : MethodName := ⟨RX5, "days", "(I)I"⟩
abbrev cX5_seed : ByteArray := prog_7_method_105_code
def yX5_seed : MethodName := ⟨RX5, "seed", "(I)I"⟩
abbrev cX5_keep : ByteArray := prog_7_method_106_code
def yX5_keep : MethodName := ⟨RX5, "keep", "([I)V"⟩
abbrev cX5_again : ByteArray := prog_7_method_107_code
def yX5_again : MethodName := ⟨RX5, "again", "([I)V"⟩
abbrev cX5_image : ByteArray := prog_7_method_108_code
def yX5_image : MethodName := ⟨RX5, "image", "()I"⟩
abbrev cX5_back : ByteArray := prog_7_method_109_code
def yX5_back : MethodName := ⟨RX5, "back", "()I"⟩
abbrev cX5_status : ByteArray := prog_7_method_110_code
def yX5_status : MethodName := ⟨RX5, "status", "(I)I"⟩
def RJ6 : String := "java/lang/Integer"
def TJ6 : u_T := fun k => match k with
  | _ => ("", "", "", false)
def tyJ6 : Nat → FieldType := fun k => match k with
  | _ => .int
abbrev wsJ60 : List Cond := u_ws RJ6 TJ6 0
theorem nmJ6 : ∀ a, a < 0 → ∀ b, b < 0 → a ≠ b → (TJ6 a).2.1 ≠ (TJ6 b).2.1 := by decide +kernel
theorem tyJ6_ok : ∀ k, k < 0 → parseFieldDescriptor (TJ6 k).2.2.1 = some (tyJ6 k) := by decide +kernel
abbrev cJ6_numberOfTrailingZeros_0f7a4 : ByteArray := prog_8_method_48_code
def yJ6_numberOfTrailingZeros_0f7a4 : MethodName := ⟨RJ6, "numberOfTrailingZeros", "(I)I"⟩
abbrev cJ6_bitCount_0f7a4 : ByteArray := prog_8_method_49_code
def yJ6_bitCount_0f7a4 : MethodName := ⟨RJ6, "bitCount", "(I)I"⟩
def RJ9 : String := "java/lang/Math"
def TJ9 : u_T := fun k => match k with
  | _ => ("", "", "", false)
def tyJ9 : Nat → FieldType := fun k => match k with
  | _ => .int
abbrev wsJ90 : List Cond := u_ws RJ9 TJ9 0
theorem nmJ9 : ∀ a, a < 0 → ∀ b, b < 0 → a ≠ b → (TJ9 a).2.1 ≠ (TJ9 b).2.1 := by decide +kernel
theorem tyJ9_ok : ∀ k, k < 0 → parseFieldDescriptor (TJ9 k).2.2.1 = some (tyJ9 k) := by decide +kernel
abbrev cJ9_max_7cf53 : ByteArray := prog_9_method_65_code
def yJ9_max_7cf53 : MethodName := ⟨RJ9, "max", "(II)I"⟩
abbrev cJ9_min_7cf53 : ByteArray := prog_9_method_69_code
def yJ9_min_7cf53 : MethodName := ⟨RJ9, "min", "(II)I"⟩
def RJ0 : String := "java/lang/String"
def TJ0 : u_T := fun k => match k with
  | _ => ("", "", "", false)
def tyJ0 : Nat → FieldType := fun k => match k with
  | _ => .int
abbrev wsJ00 : List Cond := u_ws RJ0 TJ0 0
theorem nmJ0 : ∀ a, a < 0 → ∀ b, b < 0 → a ≠ b → (TJ0 a).2.1 ≠ (TJ0 b).2.1 := by decide +kernel
theorem tyJ0_ok : ∀ k, k < 0 → parseFieldDescriptor (TJ0 k).2.2.1 = some (tyJ0 k) := by decide +kernel
abbrev cJ0_length_8abf5 : ByteArray := prog_10_method_54_code
def yJ0_length_8abf5 : MethodName := ⟨RJ0, "length", "()I"⟩
abbrev cJ0_charAt_5068e : ByteArray := prog_10_method_56_code
def yJ0_charAt_5068e : MethodName := ⟨RJ0, "charAt", "(I)C"⟩
abbrev cJ0_coder_7d493 : ByteArray := prog_10_method_152_code
def yJ0_coder_7d493 : MethodName := ⟨RJ0, "coder", "()B"⟩
abbrev cJ0_isLatin1_aae02 : ByteArray := prog_10_method_154_code
def yJ0_isLatin1_aae02 : MethodName := ⟨RJ0, "isLatin1", "()Z"⟩
abbrev cJ0_checkIndex_df160 : ByteArray := prog_10_method_155_code
def yJ0_checkIndex_df160 : MethodName := ⟨RJ0, "checkIndex", "(II)V"⟩
def RJ1 : String := "java/lang/StringLatin1"
def TJ1 : u_T := fun k => match k with
  | _ => ("", "", "", false)
def tyJ1 : Nat → FieldType := fun k => match k with
  | _ => .int
abbrev wsJ10 : List Cond := u_ws RJ1 TJ1 0
theorem nmJ1 : ∀ a, a < 0 → ∀ b, b < 0 → a ≠ b → (TJ1 a).2.1 ≠ (TJ1 b).2.1 := by decide +kernel
theorem tyJ1_ok : ∀ k, k < 0 → parseFieldDescriptor (TJ1 k).2.2.1 = some (tyJ1 k) := by decide +kernel
abbrev cJ1_charAt_3b067 : ByteArray := prog_11_method_2_code
def yJ1_charAt_3b067 : MethodName := ⟨RJ1, "charAt", "([BI)C"⟩
def RJ2 : String := "java/lang/StringUTF16"
def TJ2 : u_T := fun k => match k with
  | _ => ("", "", "", false)
def tyJ2 : Nat → FieldType := fun k => match k with
  | _ => .int
abbrev wsJ20 : List Cond := u_ws RJ2 TJ2 0
theorem nmJ2 : ∀ a, a < 0 → ∀ b, b < 0 → a ≠ b → (TJ2 a).2.1 ≠ (TJ2 b).2.1 := by decide +kernel
theorem tyJ2_ok : ∀ k, k < 0 → parseFieldDescriptor (TJ2 k).2.2.1 = some (tyJ2 k) := by decide +kernel
abbrev cJ2_getChar_3b067 : ByteArray := prog_12_method_5_code
def yJ2_getChar_3b067 : MethodName := ⟨RJ2, "getChar", "([BI)C"⟩
abbrev cJ2_length_9d52b : ByteArray := prog_12_method_6_code
def yJ2_length_9d52b : MethodName := ⟨RJ2, "length", "([B)I"⟩
abbrev cJ2_charAt_3b067 : ByteArray := prog_12_method_83_code
def yJ2_charAt_3b067 : MethodName := ⟨RJ2, "charAt", "([BI)C"⟩
abbrev cJ2_checkIndex_2214a : ByteArray := prog_12_method_91_code
def yJ2_checkIndex_2214a : MethodName := ⟨RJ2, "checkIndex", "(I[B)V"⟩
def RJ10 : String := "java/lang/System"
def TJ10 : u_T := fun k => match k with
  | _ => ("", "", "", false)
def tyJ10 : Nat → FieldType := fun k => match k with
  | _ => .int
abbrev wsJ100 : List Cond := u_ws RJ10 TJ10 0
theorem nmJ10 : ∀ a, a < 0 → ∀ b, b < 0 → a ≠ b → (TJ10 a).2.1 ≠ (TJ10 b).2.1 := by decide +kernel
theorem tyJ10_ok : ∀ k, k < 0 → parseFieldDescriptor (TJ10 k).2.2.1 = some (tyJ10 k) := by decide +kernel
def RJ7 : String := "java/util/Arrays"
def TJ7 : u_T := fun k => match k with
  | _ => ("", "", "", false)
def tyJ7 : Nat → FieldType := fun k => match k with
  | _ => .int
abbrev wsJ70 : List Cond := u_ws RJ7 TJ7 0
theorem nmJ7 : ∀ a, a < 0 → ∀ b, b < 0 → a ≠ b → (TJ7 a).2.1 ≠ (TJ7 b).2.1 := by decide +kernel
theorem tyJ7_ok : ∀ k, k < 0 → parseFieldDescriptor (TJ7 k).2.2.1 = some (tyJ7 k) := by decide +kernel
abbrev cJ7_fill_d0a16 : ByteArray := prog_14_method_101_code
def yJ7_fill_d0a16 : MethodName := ⟨RJ7, "fill", "([JJ)V"⟩
abbrev cJ7_fill_53178 : ByteArray := prog_14_method_103_code
def yJ7_fill_53178 : MethodName := ⟨RJ7, "fill", "([II)V"⟩
def RJ3 : String := "jdk/internal/util/Preconditions"
def TJ3 : u_T := fun k => match k with
  | _ => ("", "", "", false)
def tyJ3 : Nat → FieldType := fun k => match k with
  | _ => .int
abbrev wsJ30 : List Cond := u_ws RJ3 TJ3 0
theorem nmJ3 : ∀ a, a < 0 → ∀ b, b < 0 → a ≠ b → (TJ3 a).2.1 ≠ (TJ3 b).2.1 := by decide +kernel
theorem tyJ3_ok : ∀ k, k < 0 → parseFieldDescriptor (TJ3 k).2.2.1 = some (tyJ3 k) := by decide +kernel
abbrev cJ3_checkIndex_8e157 : ByteArray := prog_15_method_11_code
def yJ3_checkIndex_8e157 : MethodName := ⟨RJ3, "checkIndex", "(IILjava/util/function/BiFunction;)I"⟩
def RL : String := "VeilsOfTheViewLaw"
abbrev cL_law : ByteArray := code
def yL_law : MethodName := ⟨RL, "law", "([I)Z"⟩
abbrev vwCl : List vw_C := [(RX0, TX0, 14), (RX1, TX1, 3), (RX2, TX2, 3), (RX3, TX3, 6), (RX4, TX4, 8), (RX5, TX5, 28)]
theorem inX0 : ∀ w ∈ wsX00, w ∈ lw_tbl := by decide +kernel
theorem inX1 : ∀ w ∈ wsX10, w ∈ lw_tbl := by decide +kernel
theorem inX2 : ∀ w ∈ wsX20, w ∈ lw_tbl := by decide +kernel
theorem inX3 : ∀ w ∈ wsX30, w ∈ lw_tbl := by decide +kernel
theorem inX4 : ∀ w ∈ wsX40, w ∈ lw_tbl := by decide +kernel
theorem inX5 : ∀ w ∈ wsX50, w ∈ lw_tbl := by decide +kernel
