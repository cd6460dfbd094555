-- ===== PART A: goes FIRST, ahead of the names: the tables' words, and 'selects' of the private methods out of them =====
/-- a private method of a class that the tables say can be made, by its rows of tables_1 -/
def lw_okq (q : MethodName × Nat) : Prop := (q.1.cls ≠ "java/lang/invoke/MethodHandle" ∧ q.1.cls ≠ "java/lang/invoke/VarHandle") ∧ Cond.instantiable q.1.cls q.2 ∈ tables_1 ∧ Cond.privateMethod q.1 ∈ tables_1 ∧ Cond.instanceMethod q.1 ∈ tables_1
theorem lw_p0 : lw_okq (⟨"SideBySide$Tape", "isDigitAt", "(I)Z"⟩, 2) := ⟨⟨by decide +kernel, by decide +kernel⟩, List.mem_of_getElem? (i := 23) (by decide +kernel), List.mem_of_getElem? (i := 388) (by decide +kernel), List.mem_of_getElem? (i := 389) (by decide +kernel)⟩
theorem lw_p1 : lw_okq (⟨"SideBySide$Cutter", "keepLetter", "(I)V"⟩, 4) := ⟨⟨by decide +kernel, by decide +kernel⟩, List.mem_of_getElem? (i := 64) (by decide +kernel), List.mem_of_getElem? (i := 392) (by decide +kernel), List.mem_of_getElem? (i := 393) (by decide +kernel)⟩
theorem lw_p2 : lw_okq (⟨"SideBySide$WordList", "isAt", "(I[BI)Z"⟩, 4) := ⟨⟨by decide +kernel, by decide +kernel⟩, List.mem_of_getElem? (i := 39) (by decide +kernel), List.mem_of_getElem? (i := 409) (by decide +kernel), List.mem_of_getElem? (i := 410) (by decide +kernel)⟩
theorem lw_p3 : lw_okq (⟨"SideBySide", "isBook", "(I)Z"⟩, 12) := ⟨⟨by decide +kernel, by decide +kernel⟩, List.mem_of_getElem? (i := 15) (by decide +kernel), List.mem_of_getElem? (i := 417) (by decide +kernel), List.mem_of_getElem? (i := 418) (by decide +kernel)⟩
theorem lw_p4 : lw_okq (⟨"SideBySide$Cutter", "part", "(LSideBySide$Book;I)Z"⟩, 4) := ⟨⟨by decide +kernel, by decide +kernel⟩, List.mem_of_getElem? (i := 64) (by decide +kernel), List.mem_of_getElem? (i := 430) (by decide +kernel), List.mem_of_getElem? (i := 431) (by decide +kernel)⟩
theorem lw_p5 : lw_okq (⟨"SideBySide", "isSentence", "(II)Z"⟩, 12) := ⟨⟨by decide +kernel, by decide +kernel⟩, List.mem_of_getElem? (i := 15) (by decide +kernel), List.mem_of_getElem? (i := 478) (by decide +kernel), List.mem_of_getElem? (i := 479) (by decide +kernel)⟩
theorem lw_p6 : lw_okq (⟨"SideBySide", "isWord", "(III)Z"⟩, 12) := ⟨⟨by decide +kernel, by decide +kernel⟩, List.mem_of_getElem? (i := 15) (by decide +kernel), List.mem_of_getElem? (i := 490) (by decide +kernel), List.mem_of_getElem? (i := 491) (by decide +kernel)⟩
theorem lw_p7 : lw_okq (⟨"SideBySide", "isKind", "(II)Z"⟩, 12) := ⟨⟨by decide +kernel, by decide +kernel⟩, List.mem_of_getElem? (i := 15) (by decide +kernel), List.mem_of_getElem? (i := 498) (by decide +kernel), List.mem_of_getElem? (i := 499) (by decide +kernel)⟩
theorem lw_p8 : lw_okq (⟨"SideBySide", "layAnew", "()V"⟩, 12) := ⟨⟨by decide +kernel, by decide +kernel⟩, List.mem_of_getElem? (i := 15) (by decide +kernel), List.mem_of_getElem? (i := 541) (by decide +kernel), List.mem_of_getElem? (i := 542) (by decide +kernel)⟩
theorem lw_p9 : lw_okq (⟨"SideBySide$Ways", "mayStand", "(III)Z"⟩, 17) := ⟨⟨by decide +kernel, by decide +kernel⟩, List.mem_of_getElem? (i := 187) (by decide +kernel), List.mem_of_getElem? (i := 572) (by decide +kernel), List.mem_of_getElem? (i := 573) (by decide +kernel)⟩
theorem lw_p10 : lw_okq (⟨"SideBySide$Ways", "keepsParagraphs", "(IIII)Z"⟩, 17) := ⟨⟨by decide +kernel, by decide +kernel⟩, List.mem_of_getElem? (i := 187) (by decide +kernel), List.mem_of_getElem? (i := 590) (by decide +kernel), List.mem_of_getElem? (i := 591) (by decide +kernel)⟩
theorem lw_p11 : lw_okq (⟨"SideBySide$Ways", "stretch", "(IIII)I"⟩, 17) := ⟨⟨by decide +kernel, by decide +kernel⟩, List.mem_of_getElem? (i := 187) (by decide +kernel), List.mem_of_getElem? (i := 606) (by decide +kernel), List.mem_of_getElem? (i := 607) (by decide +kernel)⟩
theorem lw_p12 : lw_okq (⟨"SideBySide$Ways", "countFriends", "(IJ)I"⟩, 17) := ⟨⟨by decide +kernel, by decide +kernel⟩, List.mem_of_getElem? (i := 187) (by decide +kernel), List.mem_of_getElem? (i := 613) (by decide +kernel), List.mem_of_getElem? (i := 614) (by decide +kernel)⟩
theorem lw_p13 : lw_okq (⟨"SideBySide$Ways", "friendsOf", "(III)I"⟩, 17) := ⟨⟨by decide +kernel, by decide +kernel⟩, List.mem_of_getElem? (i := 187) (by decide +kernel), List.mem_of_getElem? (i := 617) (by decide +kernel), List.mem_of_getElem? (i := 618) (by decide +kernel)⟩
theorem lw_p14 : lw_okq (⟨"SideBySide$Ways", "fillLeast", "([II)V"⟩, 17) := ⟨⟨by decide +kernel, by decide +kernel⟩, List.mem_of_getElem? (i := 187) (by decide +kernel), List.mem_of_getElem? (i := 626) (by decide +kernel), List.mem_of_getElem? (i := 627) (by decide +kernel)⟩
theorem lw_p15 : lw_okq (⟨"SideBySide$Ways", "sumBy", "([IIII)I"⟩, 17) := ⟨⟨by decide +kernel, by decide +kernel⟩, List.mem_of_getElem? (i := 187) (by decide +kernel), List.mem_of_getElem? (i := 630) (by decide +kernel), List.mem_of_getElem? (i := 631) (by decide +kernel)⟩
def lw_privs_1 : List (MethodName × Nat) := [(⟨"SideBySide$Tape", "isDigitAt", "(I)Z"⟩, 2), (⟨"SideBySide$Cutter", "keepLetter", "(I)V"⟩, 4), (⟨"SideBySide$WordList", "isAt", "(I[BI)Z"⟩, 4), (⟨"SideBySide", "isBook", "(I)Z"⟩, 12), (⟨"SideBySide$Cutter", "part", "(LSideBySide$Book;I)Z"⟩, 4), (⟨"SideBySide", "isSentence", "(II)Z"⟩, 12), (⟨"SideBySide", "isWord", "(III)Z"⟩, 12), (⟨"SideBySide", "isKind", "(II)Z"⟩, 12), (⟨"SideBySide", "layAnew", "()V"⟩, 12), (⟨"SideBySide$Ways", "mayStand", "(III)Z"⟩, 17), (⟨"SideBySide$Ways", "keepsParagraphs", "(IIII)Z"⟩, 17), (⟨"SideBySide$Ways", "stretch", "(IIII)I"⟩, 17), (⟨"SideBySide$Ways", "countFriends", "(IJ)I"⟩, 17), (⟨"SideBySide$Ways", "friendsOf", "(III)I"⟩, 17), (⟨"SideBySide$Ways", "fillLeast", "([II)V"⟩, 17), (⟨"SideBySide$Ways", "sumBy", "([IIII)I"⟩, 17)]
theorem lw_r1 : ∀ q ∈ lw_privs_1, lw_okq q := List.forall_mem_cons.mpr ⟨lw_p0, List.forall_mem_cons.mpr ⟨lw_p1, List.forall_mem_cons.mpr ⟨lw_p2, List.forall_mem_cons.mpr ⟨lw_p3, List.forall_mem_cons.mpr ⟨lw_p4, List.forall_mem_cons.mpr ⟨lw_p5, List.forall_mem_cons.mpr ⟨lw_p6, List.forall_mem_cons.mpr ⟨lw_p7, List.forall_mem_cons.mpr ⟨lw_p8, List.forall_mem_cons.mpr ⟨lw_p9, List.forall_mem_cons.mpr ⟨lw_p10, List.forall_mem_cons.mpr ⟨lw_p11, List.forall_mem_cons.mpr ⟨lw_p12, List.forall_mem_cons.mpr ⟨lw_p13, List.forall_mem_cons.mpr ⟨lw_p14, List.forall_mem_cons.mpr ⟨lw_p15, fun _ h => absurd h List.not_mem_nil⟩⟩⟩⟩⟩⟩⟩⟩⟩⟩⟩⟩⟩⟩⟩⟩
theorem lw_p16 : lw_okq (⟨"SideBySide$Ways", "traceBest", "()V"⟩, 17) := ⟨⟨by decide +kernel, by decide +kernel⟩, List.mem_of_getElem? (i := 187) (by decide +kernel), List.mem_of_getElem? (i := 637) (by decide +kernel), List.mem_of_getElem? (i := 638) (by decide +kernel)⟩
theorem lw_p17 : lw_okq (⟨"SideBySide$Ways", "firstBestKind", "(II)I"⟩, 17) := ⟨⟨by decide +kernel, by decide +kernel⟩, List.mem_of_getElem? (i := 187) (by decide +kernel), List.mem_of_getElem? (i := 641) (by decide +kernel), List.mem_of_getElem? (i := 642) (by decide +kernel)⟩
theorem lw_p18 : lw_okq (⟨"SideBySide", "playRound", "()V"⟩, 12) := ⟨⟨by decide +kernel, by decide +kernel⟩, List.mem_of_getElem? (i := 15) (by decide +kernel), List.mem_of_getElem? (i := 689) (by decide +kernel), List.mem_of_getElem? (i := 690) (by decide +kernel)⟩
theorem lw_p19 : lw_okq (⟨"SideBySide", "dealJoint", "(I)V"⟩, 12) := ⟨⟨by decide +kernel, by decide +kernel⟩, List.mem_of_getElem? (i := 15) (by decide +kernel), List.mem_of_getElem? (i := 700) (by decide +kernel), List.mem_of_getElem? (i := 701) (by decide +kernel)⟩
theorem lw_p20 : lw_okq (⟨"SideBySide$Shares", "dealWord", "(ILSideBySide$Book;II)V"⟩, 5) := ⟨⟨by decide +kernel, by decide +kernel⟩, List.mem_of_getElem? (i := 157) (by decide +kernel), List.mem_of_getElem? (i := 708) (by decide +kernel), List.mem_of_getElem? (i := 709) (by decide +kernel)⟩
theorem lw_p21 : lw_okq (⟨"SideBySide$Shares", "dealPart", "(IIJ)V"⟩, 5) := ⟨⟨by decide +kernel, by decide +kernel⟩, List.mem_of_getElem? (i := 157) (by decide +kernel), List.mem_of_getElem? (i := 712) (by decide +kernel), List.mem_of_getElem? (i := 713) (by decide +kernel)⟩
theorem lw_p22 : lw_okq (⟨"SideBySide$Shares", "settleKind", "(I)V"⟩, 5) := ⟨⟨by decide +kernel, by decide +kernel⟩, List.mem_of_getElem? (i := 157) (by decide +kernel), List.mem_of_getElem? (i := 722) (by decide +kernel), List.mem_of_getElem? (i := 723) (by decide +kernel)⟩
theorem lw_p23 : lw_okq (⟨"SideBySide", "breaksTerm", "(I)Z"⟩, 12) := ⟨⟨by decide +kernel, by decide +kernel⟩, List.mem_of_getElem? (i := 15) (by decide +kernel), List.mem_of_getElem? (i := 752) (by decide +kernel), List.mem_of_getElem? (i := 753) (by decide +kernel)⟩
theorem lw_p24 : lw_okq (⟨"SideBySide", "isLinkable", "(I)Z"⟩, 12) := ⟨⟨by decide +kernel, by decide +kernel⟩, List.mem_of_getElem? (i := 15) (by decide +kernel), List.mem_of_getElem? (i := 778) (by decide +kernel), List.mem_of_getElem? (i := 779) (by decide +kernel)⟩
theorem lw_p25 : lw_okq (⟨"SideBySide$Links", "leadFromLeft", "(I)I"⟩, 11) := ⟨⟨by decide +kernel, by decide +kernel⟩, List.mem_of_getElem? (i := 255) (by decide +kernel), List.mem_of_getElem? (i := 786) (by decide +kernel), List.mem_of_getElem? (i := 787) (by decide +kernel)⟩
theorem lw_p26 : lw_okq (⟨"SideBySide$Links", "leadFromRight", "(I)I"⟩, 11) := ⟨⟨by decide +kernel, by decide +kernel⟩, List.mem_of_getElem? (i := 255) (by decide +kernel), List.mem_of_getElem? (i := 794) (by decide +kernel), List.mem_of_getElem? (i := 795) (by decide +kernel)⟩
theorem lw_p27 : lw_okq (⟨"SideBySide$Links", "growBoth", "()V"⟩, 11) := ⟨⟨by decide +kernel, by decide +kernel⟩, List.mem_of_getElem? (i := 255) (by decide +kernel), List.mem_of_getElem? (i := 798) (by decide +kernel), List.mem_of_getElem? (i := 799) (by decide +kernel)⟩
theorem lw_p28 : lw_okq (⟨"SideBySide$Links", "addGrown", "(II)V"⟩, 11) := ⟨⟨by decide +kernel, by decide +kernel⟩, List.mem_of_getElem? (i := 255) (by decide +kernel), List.mem_of_getElem? (i := 806) (by decide +kernel), List.mem_of_getElem? (i := 807) (by decide +kernel)⟩
theorem lw_p29 : lw_okq (⟨"SideBySide$Links", "growOnce", "()Z"⟩, 11) := ⟨⟨by decide +kernel, by decide +kernel⟩, List.mem_of_getElem? (i := 255) (by decide +kernel), List.mem_of_getElem? (i := 810) (by decide +kernel), List.mem_of_getElem? (i := 811) (by decide +kernel)⟩
theorem lw_p30 : lw_okq (⟨"SideBySide$Links", "mayGrow", "(II)Z"⟩, 11) := ⟨⟨by decide +kernel, by decide +kernel⟩, List.mem_of_getElem? (i := 255) (by decide +kernel), List.mem_of_getElem? (i := 814) (by decide +kernel), List.mem_of_getElem? (i := 815) (by decide +kernel)⟩
theorem lw_p31 : lw_okq (⟨"SideBySide$Links", "touchesGrown", "(II)Z"⟩, 11) := ⟨⟨by decide +kernel, by decide +kernel⟩, List.mem_of_getElem? (i := 255) (by decide +kernel), List.mem_of_getElem? (i := 822) (by decide +kernel), List.mem_of_getElem? (i := 823) (by decide +kernel)⟩
def lw_privs_2 : List (MethodName × Nat) := [(⟨"SideBySide$Ways", "traceBest", "()V"⟩, 17), (⟨"SideBySide$Ways", "firstBestKind", "(II)I"⟩, 17), (⟨"SideBySide", "playRound", "()V"⟩, 12), (⟨"SideBySide", "dealJoint", "(I)V"⟩, 12), (⟨"SideBySide$Shares", "dealWord", "(ILSideBySide$Book;II)V"⟩, 5), (⟨"SideBySide$Shares", "dealPart", "(IIJ)V"⟩, 5), (⟨"SideBySide$Shares", "settleKind", "(I)V"⟩, 5), (⟨"SideBySide", "breaksTerm", "(I)Z"⟩, 12), (⟨"SideBySide", "isLinkable", "(I)Z"⟩, 12), (⟨"SideBySide$Links", "leadFromLeft", "(I)I"⟩, 11), (⟨"SideBySide$Links", "leadFromRight", "(I)I"⟩, 11), (⟨"SideBySide$Links", "growBoth", "()V"⟩, 11), (⟨"SideBySide$Links", "addGrown", "(II)V"⟩, 11), (⟨"SideBySide$Links", "growOnce", "()Z"⟩, 11), (⟨"SideBySide$Links", "mayGrow", "(II)Z"⟩, 11), (⟨"SideBySide$Links", "touchesGrown", "(II)Z"⟩, 11)]
theorem lw_r2 : ∀ q ∈ lw_privs_2, lw_okq q := List.forall_mem_cons.mpr ⟨lw_p16, List.forall_mem_cons.mpr ⟨lw_p17, List.forall_mem_cons.mpr ⟨lw_p18, List.forall_mem_cons.mpr ⟨lw_p19, List.forall_mem_cons.mpr ⟨lw_p20, List.forall_mem_cons.mpr ⟨lw_p21, List.forall_mem_cons.mpr ⟨lw_p22, List.forall_mem_cons.mpr ⟨lw_p23, List.forall_mem_cons.mpr ⟨lw_p24, List.forall_mem_cons.mpr ⟨lw_p25, List.forall_mem_cons.mpr ⟨lw_p26, List.forall_mem_cons.mpr ⟨lw_p27, List.forall_mem_cons.mpr ⟨lw_p28, List.forall_mem_cons.mpr ⟨lw_p29, List.forall_mem_cons.mpr ⟨lw_p30, List.forall_mem_cons.mpr ⟨lw_p31, fun _ h => absurd h List.not_mem_nil⟩⟩⟩⟩⟩⟩⟩⟩⟩⟩⟩⟩⟩⟩⟩⟩
theorem lw_p32 : lw_okq (⟨"SideBySide$Links", "countPartners", "(II)I"⟩, 11) := ⟨⟨by decide +kernel, by decide +kernel⟩, List.mem_of_getElem? (i := 255) (by decide +kernel), List.mem_of_getElem? (i := 841) (by decide +kernel), List.mem_of_getElem? (i := 842) (by decide +kernel)⟩
theorem lw_p33 : lw_okq (⟨"SideBySide", "isSlot", "(I)Z"⟩, 12) := ⟨⟨by decide +kernel, by decide +kernel⟩, List.mem_of_getElem? (i := 15) (by decide +kernel), List.mem_of_getElem? (i := 855) (by decide +kernel), List.mem_of_getElem? (i := 856) (by decide +kernel)⟩
theorem lw_p34 : lw_okq (⟨"SideBySide", "meet", "(I)I"⟩, 12) := ⟨⟨by decide +kernel, by decide +kernel⟩, List.mem_of_getElem? (i := 15) (by decide +kernel), List.mem_of_getElem? (i := 875) (by decide +kernel), List.mem_of_getElem? (i := 876) (by decide +kernel)⟩
theorem lw_p35 : lw_okq (⟨"SideBySide", "fine", "(I)I"⟩, 12) := ⟨⟨by decide +kernel, by decide +kernel⟩, List.mem_of_getElem? (i := 15) (by decide +kernel), List.mem_of_getElem? (i := 884) (by decide +kernel), List.mem_of_getElem? (i := 885) (by decide +kernel)⟩
theorem lw_p36 : lw_okq (⟨"SideBySide", "placeCode", "(II)I"⟩, 12) := ⟨⟨by decide +kernel, by decide +kernel⟩, List.mem_of_getElem? (i := 15) (by decide +kernel), List.mem_of_getElem? (i := 900) (by decide +kernel), List.mem_of_getElem? (i := 901) (by decide +kernel)⟩
theorem lw_p37 : lw_okq (⟨"SideBySide", "sortCode", "(II)I"⟩, 12) := ⟨⟨by decide +kernel, by decide +kernel⟩, List.mem_of_getElem? (i := 15) (by decide +kernel), List.mem_of_getElem? (i := 904) (by decide +kernel), List.mem_of_getElem? (i := 905) (by decide +kernel)⟩
theorem lw_p38 : lw_okq (⟨"SideBySideModel", "loseTies", "()V"⟩, 57) := ⟨⟨by decide +kernel, by decide +kernel⟩, List.mem_of_getElem? (i := 929) (by decide +kernel), List.mem_of_getElem? (i := 935) (by decide +kernel), List.mem_of_getElem? (i := 936) (by decide +kernel)⟩
theorem lw_p39 : lw_okq (⟨"SideBySideModel", "letterOf", "(I)I"⟩, 57) := ⟨⟨by decide +kernel, by decide +kernel⟩, List.mem_of_getElem? (i := 929) (by decide +kernel), List.mem_of_getElem? (i := 1130) (by decide +kernel), List.mem_of_getElem? (i := 1131) (by decide +kernel)⟩
theorem lw_p40 : lw_okq (⟨"SideBySideModel", "isDigit", "(I)Z"⟩, 57) := ⟨⟨by decide +kernel, by decide +kernel⟩, List.mem_of_getElem? (i := 929) (by decide +kernel), List.mem_of_getElem? (i := 1134) (by decide +kernel), List.mem_of_getElem? (i := 1135) (by decide +kernel)⟩
theorem lw_p41 : lw_okq (⟨"SideBySideModel", "cutWord", "()V"⟩, 57) := ⟨⟨by decide +kernel, by decide +kernel⟩, List.mem_of_getElem? (i := 929) (by decide +kernel), List.mem_of_getElem? (i := 1138) (by decide +kernel), List.mem_of_getElem? (i := 1139) (by decide +kernel)⟩
theorem lw_p42 : lw_okq (⟨"SideBySideModel", "isShort", "()Z"⟩, 57) := ⟨⟨by decide +kernel, by decide +kernel⟩, List.mem_of_getElem? (i := 929) (by decide +kernel), List.mem_of_getElem? (i := 1143) (by decide +kernel), List.mem_of_getElem? (i := 1144) (by decide +kernel)⟩
theorem lw_p43 : lw_okq (⟨"SideBySideModel", "cutBook", "()V"⟩, 57) := ⟨⟨by decide +kernel, by decide +kernel⟩, List.mem_of_getElem? (i := 929) (by decide +kernel), List.mem_of_getElem? (i := 1152) (by decide +kernel), List.mem_of_getElem? (i := 1153) (by decide +kernel)⟩
theorem lw_p44 : lw_okq (⟨"SideBySideModel", "addWord", "()V"⟩, 57) := ⟨⟨by decide +kernel, by decide +kernel⟩, List.mem_of_getElem? (i := 929) (by decide +kernel), List.mem_of_getElem? (i := 1156) (by decide +kernel), List.mem_of_getElem? (i := 1157) (by decide +kernel)⟩
theorem lw_p45 : lw_okq (⟨"SideBySideModel", "newKind", "()I"⟩, 57) := ⟨⟨by decide +kernel, by decide +kernel⟩, List.mem_of_getElem? (i := 929) (by decide +kernel), List.mem_of_getElem? (i := 1160) (by decide +kernel), List.mem_of_getElem? (i := 1161) (by decide +kernel)⟩
theorem lw_p46 : lw_okq (⟨"SideBySideModel", "endSentence", "()V"⟩, 57) := ⟨⟨by decide +kernel, by decide +kernel⟩, List.mem_of_getElem? (i := 929) (by decide +kernel), List.mem_of_getElem? (i := 1164) (by decide +kernel), List.mem_of_getElem? (i := 1165) (by decide +kernel)⟩
theorem lw_p47 : lw_okq (⟨"SideBySideModel", "endParagraph", "()V"⟩, 57) := ⟨⟨by decide +kernel, by decide +kernel⟩, List.mem_of_getElem? (i := 929) (by decide +kernel), List.mem_of_getElem? (i := 1168) (by decide +kernel), List.mem_of_getElem? (i := 1169) (by decide +kernel)⟩
def lw_privs_3 : List (MethodName × Nat) := [(⟨"SideBySide$Links", "countPartners", "(II)I"⟩, 11), (⟨"SideBySide", "isSlot", "(I)Z"⟩, 12), (⟨"SideBySide", "meet", "(I)I"⟩, 12), (⟨"SideBySide", "fine", "(I)I"⟩, 12), (⟨"SideBySide", "placeCode", "(II)I"⟩, 12), (⟨"SideBySide", "sortCode", "(II)I"⟩, 12), (⟨"SideBySideModel", "loseTies", "()V"⟩, 57), (⟨"SideBySideModel", "letterOf", "(I)I"⟩, 57), (⟨"SideBySideModel", "isDigit", "(I)Z"⟩, 57), (⟨"SideBySideModel", "cutWord", "()V"⟩, 57), (⟨"SideBySideModel", "isShort", "()Z"⟩, 57), (⟨"SideBySideModel", "cutBook", "()V"⟩, 57), (⟨"SideBySideModel", "addWord", "()V"⟩, 57), (⟨"SideBySideModel", "newKind", "()I"⟩, 57), (⟨"SideBySideModel", "endSentence", "()V"⟩, 57), (⟨"SideBySideModel", "endParagraph", "()V"⟩, 57)]
theorem lw_r3 : ∀ q ∈ lw_privs_3, lw_okq q := List.forall_mem_cons.mpr ⟨lw_p32, List.forall_mem_cons.mpr ⟨lw_p33, List.forall_mem_cons.mpr ⟨lw_p34, List.forall_mem_cons.mpr ⟨lw_p35, List.forall_mem_cons.mpr ⟨lw_p36, List.forall_mem_cons.mpr ⟨lw_p37, List.forall_mem_cons.mpr ⟨lw_p38, List.forall_mem_cons.mpr ⟨lw_p39, List.forall_mem_cons.mpr ⟨lw_p40, List.forall_mem_cons.mpr ⟨lw_p41, List.forall_mem_cons.mpr ⟨lw_p42, List.forall_mem_cons.mpr ⟨lw_p43, List.forall_mem_cons.mpr ⟨lw_p44, List.forall_mem_cons.mpr ⟨lw_p45, List.forall_mem_cons.mpr ⟨lw_p46, List.forall_mem_cons.mpr ⟨lw_p47, fun _ h => absurd h List.not_mem_nil⟩⟩⟩⟩⟩⟩⟩⟩⟩⟩⟩⟩⟩⟩⟩⟩
theorem lw_p48 : lw_okq (⟨"SideBySideModel", "lengthOfAll", "(I)I"⟩, 57) := ⟨⟨by decide +kernel, by decide +kernel⟩, List.mem_of_getElem? (i := 929) (by decide +kernel), List.mem_of_getElem? (i := 1179) (by decide +kernel), List.mem_of_getElem? (i := 1180) (by decide +kernel)⟩
theorem lw_p49 : lw_okq (⟨"SideBySideModel", "lengthOf", "(II)I"⟩, 57) := ⟨⟨by decide +kernel, by decide +kernel⟩, List.mem_of_getElem? (i := 929) (by decide +kernel), List.mem_of_getElem? (i := 1183) (by decide +kernel), List.mem_of_getElem? (i := 1184) (by decide +kernel)⟩
theorem lw_p50 : lw_okq (⟨"SideBySideModel", "kindOf", "(III)I"⟩, 57) := ⟨⟨by decide +kernel, by decide +kernel⟩, List.mem_of_getElem? (i := 929) (by decide +kernel), List.mem_of_getElem? (i := 1187) (by decide +kernel), List.mem_of_getElem? (i := 1188) (by decide +kernel)⟩
theorem lw_p51 : lw_okq (⟨"SideBySideModel", "isSentence", "(II)Z"⟩, 57) := ⟨⟨by decide +kernel, by decide +kernel⟩, List.mem_of_getElem? (i := 929) (by decide +kernel), List.mem_of_getElem? (i := 1195) (by decide +kernel), List.mem_of_getElem? (i := 1196) (by decide +kernel)⟩
theorem lw_p52 : lw_okq (⟨"SideBySideModel", "isWord", "(III)Z"⟩, 57) := ⟨⟨by decide +kernel, by decide +kernel⟩, List.mem_of_getElem? (i := 929) (by decide +kernel), List.mem_of_getElem? (i := 1203) (by decide +kernel), List.mem_of_getElem? (i := 1204) (by decide +kernel)⟩
theorem lw_p53 : lw_okq (⟨"SideBySideModel", "isKind", "(II)Z"⟩, 57) := ⟨⟨by decide +kernel, by decide +kernel⟩, List.mem_of_getElem? (i := 929) (by decide +kernel), List.mem_of_getElem? (i := 1211) (by decide +kernel), List.mem_of_getElem? (i := 1212) (by decide +kernel)⟩
theorem lw_p54 : lw_okq (⟨"SideBySideModel", "best", "()Z"⟩, 57) := ⟨⟨by decide +kernel, by decide +kernel⟩, List.mem_of_getElem? (i := 929) (by decide +kernel), List.mem_of_getElem? (i := 1235) (by decide +kernel), List.mem_of_getElem? (i := 1236) (by decide +kernel)⟩
theorem lw_p55 : lw_okq (⟨"SideBySideModel", "work", "()V"⟩, 57) := ⟨⟨by decide +kernel, by decide +kernel⟩, List.mem_of_getElem? (i := 929) (by decide +kernel), List.mem_of_getElem? (i := 1239) (by decide +kernel), List.mem_of_getElem? (i := 1240) (by decide +kernel)⟩
theorem lw_p56 : lw_okq (⟨"SideBySideModel", "prepare", "()V"⟩, 57) := ⟨⟨by decide +kernel, by decide +kernel⟩, List.mem_of_getElem? (i := 929) (by decide +kernel), List.mem_of_getElem? (i := 1243) (by decide +kernel), List.mem_of_getElem? (i := 1244) (by decide +kernel)⟩
theorem lw_p57 : lw_okq (⟨"SideBySideModel", "partnerOf", "(I)I"⟩, 57) := ⟨⟨by decide +kernel, by decide +kernel⟩, List.mem_of_getElem? (i := 929) (by decide +kernel), List.mem_of_getElem? (i := 1247) (by decide +kernel), List.mem_of_getElem? (i := 1248) (by decide +kernel)⟩
theorem lw_p58 : lw_okq (⟨"SideBySideModel", "may", "(III)Z"⟩, 57) := ⟨⟨by decide +kernel, by decide +kernel⟩, List.mem_of_getElem? (i := 929) (by decide +kernel), List.mem_of_getElem? (i := 1253) (by decide +kernel), List.mem_of_getElem? (i := 1254) (by decide +kernel)⟩
theorem lw_p59 : lw_okq (⟨"SideBySideModel", "isFastKept", "(III)Z"⟩, 57) := ⟨⟨by decide +kernel, by decide +kernel⟩, List.mem_of_getElem? (i := 929) (by decide +kernel), List.mem_of_getElem? (i := 1263) (by decide +kernel), List.mem_of_getElem? (i := 1264) (by decide +kernel)⟩
theorem lw_p60 : lw_okq (⟨"SideBySideModel", "isParagraphKept", "(IIII)Z"⟩, 57) := ⟨⟨by decide +kernel, by decide +kernel⟩, List.mem_of_getElem? (i := 929) (by decide +kernel), List.mem_of_getElem? (i := 1267) (by decide +kernel), List.mem_of_getElem? (i := 1268) (by decide +kernel)⟩
theorem lw_p61 : lw_okq (⟨"SideBySideModel", "upTo", "(II)I"⟩, 57) := ⟨⟨by decide +kernel, by decide +kernel⟩, List.mem_of_getElem? (i := 929) (by decide +kernel), List.mem_of_getElem? (i := 1271) (by decide +kernel), List.mem_of_getElem? (i := 1272) (by decide +kernel)⟩
theorem lw_p62 : lw_okq (⟨"SideBySideModel", "priceOf", "(III)I"⟩, 57) := ⟨⟨by decide +kernel, by decide +kernel⟩, List.mem_of_getElem? (i := 929) (by decide +kernel), List.mem_of_getElem? (i := 1275) (by decide +kernel), List.mem_of_getElem? (i := 1276) (by decide +kernel)⟩
theorem lw_p63 : lw_okq (⟨"SideBySideModel", "square", "(JJ)I"⟩, 57) := ⟨⟨by decide +kernel, by decide +kernel⟩, List.mem_of_getElem? (i := 929) (by decide +kernel), List.mem_of_getElem? (i := 1282) (by decide +kernel), List.mem_of_getElem? (i := 1283) (by decide +kernel)⟩
def lw_privs_4 : List (MethodName × Nat) := [(⟨"SideBySideModel", "lengthOfAll", "(I)I"⟩, 57), (⟨"SideBySideModel", "lengthOf", "(II)I"⟩, 57), (⟨"SideBySideModel", "kindOf", "(III)I"⟩, 57), (⟨"SideBySideModel", "isSentence", "(II)Z"⟩, 57), (⟨"SideBySideModel", "isWord", "(III)Z"⟩, 57), (⟨"SideBySideModel", "isKind", "(II)Z"⟩, 57), (⟨"SideBySideModel", "best", "()Z"⟩, 57), (⟨"SideBySideModel", "work", "()V"⟩, 57), (⟨"SideBySideModel", "prepare", "()V"⟩, 57), (⟨"SideBySideModel", "partnerOf", "(I)I"⟩, 57), (⟨"SideBySideModel", "may", "(III)Z"⟩, 57), (⟨"SideBySideModel", "isFastKept", "(III)Z"⟩, 57), (⟨"SideBySideModel", "isParagraphKept", "(IIII)Z"⟩, 57), (⟨"SideBySideModel", "upTo", "(II)I"⟩, 57), (⟨"SideBySideModel", "priceOf", "(III)I"⟩, 57), (⟨"SideBySideModel", "square", "(JJ)I"⟩, 57)]
theorem lw_r4 : ∀ q ∈ lw_privs_4, lw_okq q := List.forall_mem_cons.mpr ⟨lw_p48, List.forall_mem_cons.mpr ⟨lw_p49, List.forall_mem_cons.mpr ⟨lw_p50, List.forall_mem_cons.mpr ⟨lw_p51, List.forall_mem_cons.mpr ⟨lw_p52, List.forall_mem_cons.mpr ⟨lw_p53, List.forall_mem_cons.mpr ⟨lw_p54, List.forall_mem_cons.mpr ⟨lw_p55, List.forall_mem_cons.mpr ⟨lw_p56, List.forall_mem_cons.mpr ⟨lw_p57, List.forall_mem_cons.mpr ⟨lw_p58, List.forall_mem_cons.mpr ⟨lw_p59, List.forall_mem_cons.mpr ⟨lw_p60, List.forall_mem_cons.mpr ⟨lw_p61, List.forall_mem_cons.mpr ⟨lw_p62, List.forall_mem_cons.mpr ⟨lw_p63, fun _ h => absurd h List.not_mem_nil⟩⟩⟩⟩⟩⟩⟩⟩⟩⟩⟩⟩⟩⟩⟩⟩
theorem lw_p64 : lw_okq (⟨"SideBySideModel", "known", "(IIII)I"⟩, 57) := ⟨⟨by decide +kernel, by decide +kernel⟩, List.mem_of_getElem? (i := 929) (by decide +kernel), List.mem_of_getElem? (i := 1287) (by decide +kernel), List.mem_of_getElem? (i := 1288) (by decide +kernel)⟩
theorem lw_p65 : lw_okq (⟨"SideBySideModel", "hasWord", "(IIII)Z"⟩, 57) := ⟨⟨by decide +kernel, by decide +kernel⟩, List.mem_of_getElem? (i := 929) (by decide +kernel), List.mem_of_getElem? (i := 1291) (by decide +kernel), List.mem_of_getElem? (i := 1292) (by decide +kernel)⟩
theorem lw_p66 : lw_okq (⟨"SideBySideModel", "isJoint", "(I)Z"⟩, 57) := ⟨⟨by decide +kernel, by decide +kernel⟩, List.mem_of_getElem? (i := 929) (by decide +kernel), List.mem_of_getElem? (i := 1299) (by decide +kernel), List.mem_of_getElem? (i := 1300) (by decide +kernel)⟩
theorem lw_p67 : lw_okq (⟨"SideBySideModel", "round", "()Z"⟩, 57) := ⟨⟨by decide +kernel, by decide +kernel⟩, List.mem_of_getElem? (i := 929) (by decide +kernel), List.mem_of_getElem? (i := 1326) (by decide +kernel), List.mem_of_getElem? (i := 1327) (by decide +kernel)⟩
theorem lw_p68 : lw_okq (⟨"SideBySideModel", "deal", "(III)V"⟩, 57) := ⟨⟨by decide +kernel, by decide +kernel⟩, List.mem_of_getElem? (i := 929) (by decide +kernel), List.mem_of_getElem? (i := 1330) (by decide +kernel), List.mem_of_getElem? (i := 1331) (by decide +kernel)⟩
theorem lw_p69 : lw_okq (⟨"SideBySideModel", "tie", "(I)V"⟩, 57) := ⟨⟨by decide +kernel, by decide +kernel⟩, List.mem_of_getElem? (i := 929) (by decide +kernel), List.mem_of_getElem? (i := 1335) (by decide +kernel), List.mem_of_getElem? (i := 1336) (by decide +kernel)⟩
theorem lw_p70 : lw_okq (⟨"SideBySideModel", "gather", "(I)V"⟩, 57) := ⟨⟨by decide +kernel, by decide +kernel⟩, List.mem_of_getElem? (i := 929) (by decide +kernel), List.mem_of_getElem? (i := 1359) (by decide +kernel), List.mem_of_getElem? (i := 1360) (by decide +kernel)⟩
theorem lw_p71 : lw_okq (⟨"SideBySideModel", "isLinkable", "(I)Z"⟩, 57) := ⟨⟨by decide +kernel, by decide +kernel⟩, List.mem_of_getElem? (i := 929) (by decide +kernel), List.mem_of_getElem? (i := 1363) (by decide +kernel), List.mem_of_getElem? (i := 1364) (by decide +kernel)⟩
theorem lw_p72 : lw_okq (⟨"SideBySideModel", "linkAll", "()V"⟩, 57) := ⟨⟨by decide +kernel, by decide +kernel⟩, List.mem_of_getElem? (i := 929) (by decide +kernel), List.mem_of_getElem? (i := 1369) (by decide +kernel), List.mem_of_getElem? (i := 1370) (by decide +kernel)⟩
theorem lw_p73 : lw_okq (⟨"SideBySideModel", "grow", "()V"⟩, 57) := ⟨⟨by decide +kernel, by decide +kernel⟩, List.mem_of_getElem? (i := 929) (by decide +kernel), List.mem_of_getElem? (i := 1380) (by decide +kernel), List.mem_of_getElem? (i := 1381) (by decide +kernel)⟩
theorem lw_p74 : lw_okq (⟨"SideBySideModel", "isBoth", "(II)Z"⟩, 57) := ⟨⟨by decide +kernel, by decide +kernel⟩, List.mem_of_getElem? (i := 929) (by decide +kernel), List.mem_of_getElem? (i := 1384) (by decide +kernel), List.mem_of_getElem? (i := 1385) (by decide +kernel)⟩
theorem lw_p75 : lw_okq (⟨"SideBySideModel", "hasNear", "(II)Z"⟩, 57) := ⟨⟨by decide +kernel, by decide +kernel⟩, List.mem_of_getElem? (i := 929) (by decide +kernel), List.mem_of_getElem? (i := 1388) (by decide +kernel), List.mem_of_getElem? (i := 1389) (by decide +kernel)⟩
theorem lw_p76 : lw_okq (⟨"SideBySideModel", "isFree", "(II)Z"⟩, 57) := ⟨⟨by decide +kernel, by decide +kernel⟩, List.mem_of_getElem? (i := 929) (by decide +kernel), List.mem_of_getElem? (i := 1392) (by decide +kernel), List.mem_of_getElem? (i := 1393) (by decide +kernel)⟩
theorem lw_p77 : lw_okq (⟨"SideBySideModel", "goTogether", "(IIII)Z"⟩, 57) := ⟨⟨by decide +kernel, by decide +kernel⟩, List.mem_of_getElem? (i := 929) (by decide +kernel), List.mem_of_getElem? (i := 1400) (by decide +kernel), List.mem_of_getElem? (i := 1401) (by decide +kernel)⟩
theorem lw_p78 : lw_okq (⟨"SideBySideModel", "asks", "(II)V"⟩, 57) := ⟨⟨by decide +kernel, by decide +kernel⟩, List.mem_of_getElem? (i := 929) (by decide +kernel), List.mem_of_getElem? (i := 1432) (by decide +kernel), List.mem_of_getElem? (i := 1433) (by decide +kernel)⟩
def lw_privs_5 : List (MethodName × Nat) := [(⟨"SideBySideModel", "known", "(IIII)I"⟩, 57), (⟨"SideBySideModel", "hasWord", "(IIII)Z"⟩, 57), (⟨"SideBySideModel", "isJoint", "(I)Z"⟩, 57), (⟨"SideBySideModel", "round", "()Z"⟩, 57), (⟨"SideBySideModel", "deal", "(III)V"⟩, 57), (⟨"SideBySideModel", "tie", "(I)V"⟩, 57), (⟨"SideBySideModel", "gather", "(I)V"⟩, 57), (⟨"SideBySideModel", "isLinkable", "(I)Z"⟩, 57), (⟨"SideBySideModel", "linkAll", "()V"⟩, 57), (⟨"SideBySideModel", "grow", "()V"⟩, 57), (⟨"SideBySideModel", "isBoth", "(II)Z"⟩, 57), (⟨"SideBySideModel", "hasNear", "(II)Z"⟩, 57), (⟨"SideBySideModel", "isFree", "(II)Z"⟩, 57), (⟨"SideBySideModel", "goTogether", "(IIII)Z"⟩, 57), (⟨"SideBySideModel", "asks", "(II)V"⟩, 57)]
theorem lw_r5 : ∀ q ∈ lw_privs_5, lw_okq q := List.forall_mem_cons.mpr ⟨lw_p64, List.forall_mem_cons.mpr ⟨lw_p65, List.forall_mem_cons.mpr ⟨lw_p66, List.forall_mem_cons.mpr ⟨lw_p67, List.forall_mem_cons.mpr ⟨lw_p68, List.forall_mem_cons.mpr ⟨lw_p69, List.forall_mem_cons.mpr ⟨lw_p70, List.forall_mem_cons.mpr ⟨lw_p71, List.forall_mem_cons.mpr ⟨lw_p72, List.forall_mem_cons.mpr ⟨lw_p73, List.forall_mem_cons.mpr ⟨lw_p74, List.forall_mem_cons.mpr ⟨lw_p75, List.forall_mem_cons.mpr ⟨lw_p76, List.forall_mem_cons.mpr ⟨lw_p77, List.forall_mem_cons.mpr ⟨lw_p78, fun _ h => absurd h List.not_mem_nil⟩⟩⟩⟩⟩⟩⟩⟩⟩⟩⟩⟩⟩⟩⟩
def lw_privs : List (MethodName × Nat) := lw_privs_1 ++ (lw_privs_2 ++ (lw_privs_3 ++ (lw_privs_4 ++ (lw_privs_5))))
def lw_tbl : List Cond := k2_sels lw_privs ++ tables_1
theorem lw_privs_ok : ∀ q ∈ lw_privs, lw_okq q := by
  show ∀ q ∈ lw_privs_1 ++ (lw_privs_2 ++ (lw_privs_3 ++ (lw_privs_4 ++ (lw_privs_5)))), lw_okq q
  exact List.forall_mem_append.mpr ⟨lw_r1, List.forall_mem_append.mpr ⟨lw_r2, List.forall_mem_append.mpr ⟨lw_r3, List.forall_mem_append.mpr ⟨lw_r4, lw_r5⟩⟩⟩⟩
def RX0 : String := "SideBySide$Book"
def TX0 : u_T := fun k => match k with
  | 0 => ("SideBySide$Book", "kinds", "LSideBySide$WordList;", true)
  | 1 => ("SideBySide$Book", "words", "[[I", true)
  | 2 => ("SideBySide$Book", "wordCounts", "[I", true)
  | 3 => ("SideBySide$Book", "paragraphOf", "[I", true)
  | 4 => ("SideBySide$Book", "paragraphEnds", "[I", true)
  | 5 => ("SideBySide$Book", "sentences", "I", false)
  | 6 => ("SideBySide$Book", "paragraphs", "I", false)
  | _ => ("SideBySide$Book", "openWords", "I", false)
def tyX0 : Nat → FieldType := fun k => match k with
  | 0 => .object "SideBySide$WordList"
  | 1 => .array (.array .int)
  | 2 => .array .int
  | 3 => .array .int
  | 4 => .array .int
  | 5 => .int
  | 6 => .int
  | _ => .int
theorem nmX0 : ∀ a, a < 8 → ∀ b, b < 8 → a ≠ b → (TX0 a).2.1 ≠ (TX0 b).2.1 := by decide +kernel
theorem tyX0_ok : ∀ k, k < 8 → parseFieldDescriptor (TX0 k).2.2.1 = some (tyX0 k) := by decide +kernel
abbrev cX0_init : ByteArray := prog_2_method_1_code
def yX0_init : MethodName := ⟨RX0, "<init>", "()V"⟩
abbrev cX0_makeEmpty : ByteArray := prog_2_method_2_code
def yX0_makeEmpty : MethodName := ⟨RX0, "makeEmpty", "()V"⟩
abbrev cX0_addWord : ByteArray := prog_2_method_3_code
def yX0_addWord : MethodName := ⟨RX0, "addWord", "([BI)Z"⟩
abbrev cX0_endSentence : ByteArray := prog_2_method_4_code
def yX0_endSentence : MethodName := ⟨RX0, "endSentence", "()V"⟩
abbrev cX0_endParagraph : ByteArray := prog_2_method_5_code
def yX0_endParagraph : MethodName := ⟨RX0, "endParagraph", "()V"⟩
abbrev cX0_hasRun : ByteArray := prog_2_method_6_code
def yX0_hasRun : MethodName := ⟨RX0, "hasRun", "(II)Z"⟩
abbrev cX0_wordsOf : ByteArray := prog_2_method_7_code
def yX0_wordsOf : MethodName := ⟨RX0, "wordsOf", "(II)I"⟩
abbrev cX0_lengthOf : ByteArray := prog_2_method_8_code
def yX0_lengthOf : MethodName := ⟨RX0, "lengthOf", "(II)I"⟩
abbrev cX0_kindsIn : ByteArray := prog_2_method_9_code
def yX0_kindsIn : MethodName := ⟨RX0, "kindsIn", "(II)J"⟩
def RX1 : String := "SideBySide$Cutter"
def TX1 : u_T := fun k => match k with
  | 0 => ("SideBySide$Cutter", "tape", "LSideBySide$Tape;", true)
  | 1 => ("SideBySide$Cutter", "shortForms", "LSideBySide$WordList;", true)
  | 2 => ("SideBySide$Cutter", "letters", "[B", true)
  | _ => ("SideBySide$Cutter", "kept", "I", false)
def tyX1 : Nat → FieldType := fun k => match k with
  | 0 => .object "SideBySide$Tape"
  | 1 => .object "SideBySide$WordList"
  | 2 => .array .byte
  | _ => .int
theorem nmX1 : ∀ a, a < 4 → ∀ b, b < 4 → a ≠ b → (TX1 a).2.1 ≠ (TX1 b).2.1 := by decide +kernel
theorem tyX1_ok : ∀ k, k < 4 → parseFieldDescriptor (TX1 k).2.2.1 = some (tyX1 k) := by decide +kernel
abbrev cX1_init : ByteArray := prog_3_method_1_code
def yX1_init : MethodName := ⟨RX1, "<init>", "(LSideBySide$Tape;LSideBySide$WordList;)V"⟩
abbrev cX1_readWords : ByteArray := prog_3_method_2_code
def yX1_readWords : MethodName := ⟨RX1, "readWords", "()I"⟩
abbrev cX1_fill : ByteArray := prog_3_method_3_code
def yX1_fill : MethodName := ⟨RX1, "fill", "(LSideBySide$Book;)Z"⟩
abbrev cX1_keepLetter : ByteArray := prog_3_method_4_code
def yX1_keepLetter : MethodName := ⟨RX1, "keepLetter", "(I)V"⟩
abbrev cX1_part : ByteArray := prog_3_method_5_code
def yX1_part : MethodName := ⟨RX1, "part", "(LSideBySide$Book;I)Z"⟩
def RX2 : String := "SideBySide$Links"
def TX2 : u_T := fun k => match k with
  | 0 => ("SideBySide$Links", "books", "[LSideBySide$Book;", true)
  | 1 => ("SideBySide$Links", "ways", "LSideBySide$Ways;", true)
  | 2 => ("SideBySide$Links", "shares", "LSideBySide$Shares;", true)
  | 3 => ("SideBySide$Links", "leftKinds", "[I", true)
  | 4 => ("SideBySide$Links", "rightKinds", "[I", true)
  | 5 => ("SideBySide$Links", "leftWords", "I", false)
  | 6 => ("SideBySide$Links", "rightWords", "I", false)
  | 7 => ("SideBySide$Links", "fromLeft", "[I", true)
  | 8 => ("SideBySide$Links", "fromRight", "[I", true)
  | 9 => ("SideBySide$Links", "grownOfLeft", "[I", true)
  | _ => ("SideBySide$Links", "grownOfRight", "[I", true)
def tyX2 : Nat → FieldType := fun k => match k with
  | 0 => .array (.object "SideBySide$Book")
  | 1 => .object "SideBySide$Ways"
  | 2 => .object "SideBySide$Shares"
  | 3 => .array .int
  | 4 => .array .int
  | 5 => .int
  | 6 => .int
  | 7 => .array .int
  | 8 => .array .int
  | 9 => .array .int
  | _ => .array .int
theorem nmX2 : ∀ a, a < 11 → ∀ b, b < 11 → a ≠ b → (TX2 a).2.1 ≠ (TX2 b).2.1 := by decide +kernel
theorem tyX2_ok : ∀ k, k < 11 → parseFieldDescriptor (TX2 k).2.2.1 = some (tyX2 k) := by decide +kernel
abbrev cX2_init : ByteArray := prog_4_method_1_code
def yX2_init : MethodName := ⟨RX2, "<init>", "([LSideBySide$Book;LSideBySide$Ways;LSideBySide$Shares;)V"⟩
abbrev cX2_gather : ByteArray := prog_4_method_2_code
def yX2_gather : MethodName := ⟨RX2, "gather", "(I)V"⟩
abbrev cX2_gatherSide : ByteArray := prog_4_method_3_code
def yX2_gatherSide : MethodName := ⟨RX2, "gatherSide", "(LSideBySide$Book;II[I)I"⟩
abbrev cX2_hasLeft : ByteArray := prog_4_method_4_code
def yX2_hasLeft : MethodName := ⟨RX2, "hasLeft", "(I)Z"⟩
abbrev cX2_hasRight : ByteArray := prog_4_method_5_code
def yX2_hasRight : MethodName := ⟨RX2, "hasRight", "(I)Z"⟩
abbrev cX2_work : ByteArray := prog_4_method_6_code
def yX2_work : MethodName := ⟨RX2, "work", "()V"⟩
abbrev cX2_leadFromLeft : ByteArray := prog_4_method_7_code
def yX2_leadFromLeft : MethodName := ⟨RX2, "leadFromLeft", "(I)I"⟩
abbrev cX2_leadFromRight : ByteArray := prog_4_method_8_code
def yX2_leadFromRight : MethodName := ⟨RX2, "leadFromRight", "(I)I"⟩
abbrev cX2_isNearer : ByteArray := prog_4_method_9_code
def yX2_isNearer : MethodName := ⟨RX2, "isNearer", "(III)Z"⟩
abbrev cX2_isBoth : ByteArray := prog_4_method_10_code
def yX2_isBoth : MethodName := ⟨RX2, "isBoth", "(II)Z"⟩
abbrev cX2_isGrown : ByteArray := prog_4_method_11_code
def yX2_isGrown : MethodName := ⟨RX2, "isGrown", "(II)Z"⟩
abbrev cX2_addGrown : ByteArray := prog_4_method_12_code
def yX2_addGrown : MethodName := ⟨RX2, "addGrown", "(II)V"⟩
abbrev cX2_growBoth : ByteArray := prog_4_method_13_code
def yX2_growBoth : MethodName := ⟨RX2, "growBoth", "()V"⟩
abbrev cX2_growOnce : ByteArray := prog_4_method_14_code
def yX2_growOnce : MethodName := ⟨RX2, "growOnce", "()Z"⟩
abbrev cX2_mayGrow : ByteArray := prog_4_method_15_code
def yX2_mayGrow : MethodName := ⟨RX2, "mayGrow", "(II)Z"⟩
abbrev cX2_touchesGrown : ByteArray := prog_4_method_16_code
def yX2_touchesGrown : MethodName := ⟨RX2, "touchesGrown", "(II)Z"⟩
abbrev cX2_countRowPairs : ByteArray := prog_4_method_17_code
def yX2_countRowPairs : MethodName := ⟨RX2, "countRowPairs", "()I"⟩
abbrev cX2_countPartners : ByteArray := prog_4_method_18_code
def yX2_countPartners : MethodName := ⟨RX2, "countPartners", "(II)I"⟩
abbrev cX2_union : ByteArray := prog_4_method_19_code
def yX2_union : MethodName := ⟨RX2, "union", "([III)I"⟩
abbrev cX2_rowBits : ByteArray := prog_4_method_20_code
def yX2_rowBits : MethodName := ⟨RX2, "rowBits", "(II)I"⟩
def RX3 : String := "SideBySide$Pairs"
def TX3 : u_T := fun k => match k with
  | 0 => ("SideBySide$Pairs", "rightOf", "[I", true)
  | 1 => ("SideBySide$Pairs", "leftOf", "[I", true)
  | _ => ("SideBySide$Pairs", "size", "I", false)
def tyX3 : Nat → FieldType := fun k => match k with
  | 0 => .array .int
  | 1 => .array .int
  | _ => .int
theorem nmX3 : ∀ a, a < 3 → ∀ b, b < 3 → a ≠ b → (TX3 a).2.1 ≠ (TX3 b).2.1 := by decide +kernel
theorem tyX3_ok : ∀ k, k < 3 → parseFieldDescriptor (TX3 k).2.2.1 = some (tyX3 k) := by decide +kernel
abbrev cX3_init : ByteArray := prog_5_method_1_code
def yX3_init : MethodName := ⟨RX3, "<init>", "()V"⟩
abbrev cX3_forgetAll : ByteArray := prog_5_method_2_code
def yX3_forgetAll : MethodName := ⟨RX3, "forgetAll", "()V"⟩
abbrev cX3_mayTie : ByteArray := prog_5_method_3_code
def yX3_mayTie : MethodName := ⟨RX3, "mayTie", "(II)Z"⟩
abbrev cX3_isAcross : ByteArray := prog_5_method_4_code
def yX3_isAcross : MethodName := ⟨RX3, "isAcross", "(II)Z"⟩
abbrev cX3_tie : ByteArray := prog_5_method_5_code
def yX3_tie : MethodName := ⟨RX3, "tie", "(II)V"⟩
abbrev cX3_untie : ByteArray := prog_5_method_6_code
def yX3_untie : MethodName := ⟨RX3, "untie", "(I)Z"⟩
abbrev cX3_allow : ByteArray := prog_5_method_7_code
def yX3_allow : MethodName := ⟨RX3, "allow", "(III)Z"⟩
abbrev cX3_goTogether : ByteArray := prog_5_method_8_code
def yX3_goTogether : MethodName := ⟨RX3, "goTogether", "(III)Z"⟩
def RX4 : String := "SideBySide$Shares"
def TX4 : u_T := fun k => match k with
  | 0 => ("SideBySide$Shares", "parts", "[[I", true)
  | 1 => ("SideBySide$Shares", "dealt", "[[J", true)
  | 2 => ("SideBySide$Shares", "terms", "[I", true)
  | 3 => ("SideBySide$Shares", "leftKinds", "I", false)
  | _ => ("SideBySide$Shares", "rightKinds", "I", false)
def tyX4 : Nat → FieldType := fun k => match k with
  | 0 => .array (.array .int)
  | 1 => .array (.array .long)
  | 2 => .array .int
  | 3 => .int
  | _ => .int
theorem nmX4 : ∀ a, a < 5 → ∀ b, b < 5 → a ≠ b → (TX4 a).2.1 ≠ (TX4 b).2.1 := by decide +kernel
theorem tyX4_ok : ∀ k, k < 5 → parseFieldDescriptor (TX4 k).2.2.1 = some (tyX4 k) := by decide +kernel
abbrev cX4_init : ByteArray := prog_6_method_1_code
def yX4_init : MethodName := ⟨RX4, "<init>", "()V"⟩
abbrev cX4_spread : ByteArray := prog_6_method_2_code
def yX4_spread : MethodName := ⟨RX4, "spread", "(II)V"⟩
abbrev cX4_startDealing : ByteArray := prog_6_method_3_code
def yX4_startDealing : MethodName := ⟨RX4, "startDealing", "()V"⟩
abbrev cX4_deal : ByteArray := prog_6_method_4_code
def yX4_deal : MethodName := ⟨RX4, "deal", "(LSideBySide$Book;IILSideBySide$Book;II)V"⟩
abbrev cX4_dealWord : ByteArray := prog_6_method_5_code
def yX4_dealWord : MethodName := ⟨RX4, "dealWord", "(ILSideBySide$Book;II)V"⟩
abbrev cX4_dealPart : ByteArray := prog_6_method_6_code
def yX4_dealPart : MethodName := ⟨RX4, "dealPart", "(IIJ)V"⟩
abbrev cX4_settle : ByteArray := prog_6_method_7_code
def yX4_settle : MethodName := ⟨RX4, "settle", "()V"⟩
abbrev cX4_settleKind : ByteArray := prog_6_method_8_code
def yX4_settleKind : MethodName := ⟨RX4, "settleKind", "(I)V"⟩
abbrev cX4_obeyTerm : ByteArray := prog_6_method_9_code
def yX4_obeyTerm : MethodName := ⟨RX4, "obeyTerm", "(I)V"⟩
abbrev cX4_partnerOf : ByteArray := prog_6_method_10_code
def yX4_partnerOf : MethodName := ⟨RX4, "partnerOf", "(I)I"⟩
abbrev cX4_lossOf : ByteArray := prog_6_method_11_code
def yX4_lossOf : MethodName := ⟨RX4, "lossOf", "(I)I"⟩
def RX5 : String := "SideBySide$Slot"
def TX5 : u_T := fun k => match k with
  | 0 => ("SideBySide$Slot", "holds", "I", false)
  | 1 => ("SideBySide$Slot", "size", "I", false)
  | 2 => ("SideBySide$Slot", "cells", "[I", true)
  | 3 => ("SideBySide$Slot", "jointPrice", "I", false)
  | _ => ("SideBySide$Slot", "leftWords", "I", false)
def tyX5 : Nat → FieldType := fun k => match k with
  | 0 => .int
  | 1 => .int
  | 2 => .array .int
  | 3 => .int
  | _ => .int
theorem nmX5 : ∀ a, a < 5 → ∀ b, b < 5 → a ≠ b → (TX5 a).2.1 ≠ (TX5 b).2.1 := by decide +kernel
theorem tyX5_ok : ∀ k, k < 5 → parseFieldDescriptor (TX5 k).2.2.1 = some (tyX5 k) := by decide +kernel
abbrev cX5_init : ByteArray := prog_7_method_1_code
def yX5_init : MethodName := ⟨RX5, "<init>", "()V"⟩
abbrev cX5_holdSentence : ByteArray := prog_7_method_2_code
def yX5_holdSentence : MethodName := ⟨RX5, "holdSentence", "([II)V"⟩
abbrev cX5_holdJoint : ByteArray := prog_7_method_3_code
def yX5_holdJoint : MethodName := ⟨RX5, "holdJoint", "(II)V"⟩
abbrev cX5_holdRow : ByteArray := prog_7_method_4_code
def yX5_holdRow : MethodName := ⟨RX5, "holdRow", "(I)V"⟩
abbrev cX5_copyFrom : ByteArray := prog_7_method_5_code
def yX5_copyFrom : MethodName := ⟨RX5, "copyFrom", "(LSideBySide$Slot;I)I"⟩
def RX6 : String := "SideBySide$Tape"
def TX6 : u_T := fun k => match k with
  | 0 => ("SideBySide$Tape", "bytes", "[B", true)
  | _ => ("SideBySide$Tape", "length", "I", false)
def tyX6 : Nat → FieldType := fun k => match k with
  | 0 => .array .byte
  | _ => .int
theorem nmX6 : ∀ a, a < 2 → ∀ b, b < 2 → a ≠ b → (TX6 a).2.1 ≠ (TX6 b).2.1 := by decide +kernel
theorem tyX6_ok : ∀ k, k < 2 → parseFieldDescriptor (TX6 k).2.2.1 = some (tyX6 k) := by decide +kernel
abbrev cX6_init : ByteArray := prog_8_method_1_code
def yX6_init : MethodName := ⟨RX6, "<init>", "()V"⟩
abbrev cX6_append : ByteArray := prog_8_method_2_code
def yX6_append : MethodName := ⟨RX6, "append", "(I)V"⟩
abbrev cX6_isLetterAt : ByteArray := prog_8_method_3_code
def yX6_isLetterAt : MethodName := ⟨RX6, "isLetterAt", "(I)Z"⟩
abbrev cX6_isDigitAt : ByteArray := prog_8_method_4_code
def yX6_isDigitAt : MethodName := ⟨RX6, "isDigitAt", "(I)Z"⟩
abbrev cX6_smallAt : ByteArray := prog_8_method_5_code
def yX6_smallAt : MethodName := ⟨RX6, "smallAt", "(I)I"⟩
def RX7 : String := "SideBySide$Ways"
def TX7 : u_T := fun k => match k with
  | 0 => ("SideBySide$Ways", "books", "[LSideBySide$Book;", true)
  | 1 => ("SideBySide$Ways", "pairs", "LSideBySide$Pairs;", true)
  | 2 => ("SideBySide$Ways", "shares", "LSideBySide$Shares;", true)
  | 3 => ("SideBySide$Ways", "kept", "Z", false)
  | 4 => ("SideBySide$Ways", "leftAhead", "[I", true)
  | 5 => ("SideBySide$Ways", "rightAhead", "[I", true)
  | 6 => ("SideBySide$Ways", "partnerBits", "[J", true)
  | 7 => ("SideBySide$Ways", "rightKinds", "[J", true)
  | 8 => ("SideBySide$Ways", "costs", "[I", true)
  | 9 => ("SideBySide$Ways", "least", "[I", true)
  | 10 => ("SideBySide$Ways", "leastElse", "[I", true)
  | 11 => ("SideBySide$Ways", "found", "Z", false)
  | 12 => ("SideBySide$Ways", "joints", "I", false)
  | 13 => ("SideBySide$Ways", "kindOf", "[I", true)
  | 14 => ("SideBySide$Ways", "leftOf", "[I", true)
  | 15 => ("SideBySide$Ways", "rightOf", "[I", true)
  | _ => ("SideBySide$Ways", "priceOf", "[I", true)
def tyX7 : Nat → FieldType := fun k => match k with
  | 0 => .array (.object "SideBySide$Book")
  | 1 => .object "SideBySide$Pairs"
  | 2 => .object "SideBySide$Shares"
  | 3 => .boolean
  | 4 => .array .int
  | 5 => .array .int
  | 6 => .array .long
  | 7 => .array .long
  | 8 => .array .int
  | 9 => .array .int
  | 10 => .array .int
  | 11 => .boolean
  | 12 => .int
  | 13 => .array .int
  | 14 => .array .int
  | 15 => .array .int
  | _ => .array .int
theorem nmX7 : ∀ a, a < 17 → ∀ b, b < 17 → a ≠ b → (TX7 a).2.1 ≠ (TX7 b).2.1 := by decide +kernel
theorem tyX7_ok : ∀ k, k < 17 → parseFieldDescriptor (TX7 k).2.2.1 = some (tyX7 k) := by decide +kernel
abbrev cX7_init : ByteArray := prog_9_method_1_code
def yX7_init : MethodName := ⟨RX7, "<init>", "([LSideBySide$Book;LSideBySide$Pairs;LSideBySide$Shares;)V"⟩
abbrev cX7_measure : ByteArray := prog_9_method_2_code
def yX7_measure : MethodName := ⟨RX7, "measure", "()V"⟩
abbrev cX7_addUpLengths : ByteArray := prog_9_method_3_code
def yX7_addUpLengths : MethodName := ⟨RX7, "addUpLengths", "(LSideBySide$Book;[I)V"⟩
abbrev cX7_placeOf : ByteArray := prog_9_method_4_code
def yX7_placeOf : MethodName := ⟨RX7, "placeOf", "(II)I"⟩
abbrev cX7_costIndex : ByteArray := prog_9_method_5_code
def yX7_costIndex : MethodName := ⟨RX7, "costIndex", "(III)I"⟩
abbrev cX7_fillCosts : ByteArray := prog_9_method_6_code
def yX7_fillCosts : MethodName := ⟨RX7, "fillCosts", "()V"⟩
abbrev cX7_mayStand : ByteArray := prog_9_method_7_code
def yX7_mayStand : MethodName := ⟨RX7, "mayStand", "(III)Z"⟩
abbrev cX7_keepsParagraphs : ByteArray := prog_9_method_8_code
def yX7_keepsParagraphs : MethodName := ⟨RX7, "keepsParagraphs", "(IIII)Z"⟩
abbrev cX7_priceAt : ByteArray := prog_9_method_9_code
def yX7_priceAt : MethodName := ⟨RX7, "priceAt", "(III)I"⟩
abbrev cX7_stretch : ByteArray := prog_9_method_10_code
def yX7_stretch : MethodName := ⟨RX7, "stretch", "(IIII)I"⟩
abbrev cX7_friendsOf : ByteArray := prog_9_method_11_code
def yX7_friendsOf : MethodName := ⟨RX7, "friendsOf", "(III)I"⟩
abbrev cX7_countFriends : ByteArray := prog_9_method_12_code
def yX7_countFriends : MethodName := ⟨RX7, "countFriends", "(IJ)I"⟩
abbrev cX7_fillLeast : ByteArray := prog_9_method_13_code
def yX7_fillLeast : MethodName := ⟨RX7, "fillLeast", "([II)V"⟩
abbrev cX7_sumBy : ByteArray := prog_9_method_14_code
def yX7_sumBy : MethodName := ⟨RX7, "sumBy", "([IIII)I"⟩
abbrev cX7_choose : ByteArray := prog_9_method_15_code
def yX7_choose : MethodName := ⟨RX7, "choose", "()V"⟩
abbrev cX7_traceBest : ByteArray := prog_9_method_16_code
def yX7_traceBest : MethodName := ⟨RX7, "traceBest", "()V"⟩
abbrev cX7_firstBestKind : ByteArray := prog_9_method_17_code
def yX7_firstBestKind : MethodName := ⟨RX7, "firstBestKind", "(II)I"⟩
abbrev cX7_hasJoint : ByteArray := prog_9_method_18_code
def yX7_hasJoint : MethodName := ⟨RX7, "hasJoint", "(I)Z"⟩
abbrev cX7_leastFrom : ByteArray := prog_9_method_19_code
def yX7_leastFrom : MethodName := ⟨RX7, "leastFrom", "(II)I"⟩
abbrev cX7_leastButBest : ByteArray := prog_9_method_20_code
def yX7_leastButBest : MethodName := ⟨RX7, "leastButBest", "()I"⟩
abbrev cX7_leastWithout : ByteArray := prog_9_method_21_code
def yX7_leastWithout : MethodName := ⟨RX7, "leastWithout", "(I)I"⟩
def RX8 : String := "SideBySide$WordList"
def TX8 : u_T := fun k => match k with
  | 0 => ("SideBySide$WordList", "room", "I", true)
  | 1 => ("SideBySide$WordList", "letters", "[[B", true)
  | 2 => ("SideBySide$WordList", "lengths", "[I", true)
  | _ => ("SideBySide$WordList", "size", "I", false)
def tyX8 : Nat → FieldType := fun k => match k with
  | 0 => .int
  | 1 => .array (.array .byte)
  | 2 => .array .int
  | _ => .int
theorem nmX8 : ∀ a, a < 4 → ∀ b, b < 4 → a ≠ b → (TX8 a).2.1 ≠ (TX8 b).2.1 := by decide +kernel
theorem tyX8_ok : ∀ k, k < 4 → parseFieldDescriptor (TX8 k).2.2.1 = some (tyX8 k) := by decide +kernel
abbrev cX8_init : ByteArray := prog_10_method_1_code
def yX8_init : MethodName := ⟨RX8, "<init>", "(I)V"⟩
abbrev cX8_indexOf : ByteArray := prog_10_method_2_code
def yX8_indexOf : MethodName := ⟨RX8, "indexOf", "([BI)I"⟩
abbrev cX8_isAt : ByteArray := prog_10_method_3_code
def yX8_isAt : MethodName := ⟨RX8, "isAt", "(I[BI)Z"⟩
abbrev cX8_enter : ByteArray := prog_10_method_4_code
def yX8_enter : MethodName := ⟨RX8, "enter", "([BI)I"⟩
abbrev cX8_letterAt : ByteArray := prog_10_method_5_code
def yX8_letterAt : MethodName := ⟨RX8, "letterAt", "(II)I"⟩
abbrev cX8_lengthAt : ByteArray := prog_10_method_6_code
def yX8_lengthAt : MethodName := ⟨RX8, "lengthAt", "(I)I"⟩
def RX9 : String := "SideBySide"
def TX9 : u_T := fun k => match k with
  | 0 => ("SideBySide", "tape", "LSideBySide$Tape;", true)
  | 1 => ("SideBySide", "shortForms", "LSideBySide$WordList;", true)
  | 2 => ("SideBySide", "cutter", "LSideBySide$Cutter;", true)
  | 3 => ("SideBySide", "books", "[LSideBySide$Book;", true)
  | 4 => ("SideBySide", "spare", "LSideBySide$Book;", false)
  | 5 => ("SideBySide", "pairs", "LSideBySide$Pairs;", true)
  | 6 => ("SideBySide", "shares", "LSideBySide$Shares;", true)
  | 7 => ("SideBySide", "ways", "LSideBySide$Ways;", true)
  | 8 => ("SideBySide", "links", "LSideBySide$Links;", true)
  | 9 => ("SideBySide", "desk", "[LSideBySide$Slot;", true)
  | 10 => ("SideBySide", "latestCode", "I", false)
  | _ => ("SideBySide", "stale", "Z", false)
def tyX9 : Nat → FieldType := fun k => match k with
  | 0 => .object "SideBySide$Tape"
  | 1 => .object "SideBySide$WordList"
  | 2 => .object "SideBySide$Cutter"
  | 3 => .array (.object "SideBySide$Book")
  | 4 => .object "SideBySide$Book"
  | 5 => .object "SideBySide$Pairs"
  | 6 => .object "SideBySide$Shares"
  | 7 => .object "SideBySide$Ways"
  | 8 => .object "SideBySide$Links"
  | 9 => .array (.object "SideBySide$Slot")
  | 10 => .int
  | _ => .boolean
theorem nmX9 : ∀ a, a < 12 → ∀ b, b < 12 → a ≠ b → (TX9 a).2.1 ≠ (TX9 b).2.1 := by decide +kernel
theorem tyX9_ok : ∀ k, k < 12 → parseFieldDescriptor (TX9 k).2.2.1 = some (tyX9 k) := by decide +kernel
abbrev cX9_init : ByteArray := prog_1_method_1_code
def yX9_init : MethodName := ⟨RX9, "<init>", "()V"⟩
abbrev cX9_feed : ByteArray := prog_1_method_2_code
def yX9_feed : MethodName := ⟨RX9, "feed", "(IIIII)I"⟩
abbrev cX9_cut : ByteArray := prog_1_method_3_code
def yX9_cut : MethodName := ⟨RX9, "cut", "(I)I"⟩
abbrev cX9_abbreviate : ByteArray := prog_1_method_4_code
def yX9_abbreviate : MethodName := ⟨RX9, "abbreviate", "()I"⟩
abbrev cX9_take : ByteArray := prog_1_method_5_code
def yX9_take : MethodName := ⟨RX9, "take", "(I)I"⟩
abbrev cX9_count : ByteArray := prog_1_method_6_code
def yX9_count : MethodName := ⟨RX9, "count", "(II)I"⟩
abbrev cX9_sentence : ByteArray := prog_1_method_7_code
def yX9_sentence : MethodName := ⟨RX9, "sentence", "(III)I"⟩
abbrev cX9_word : ByteArray := prog_1_method_8_code
def yX9_word : MethodName := ⟨RX9, "word", "(III)I"⟩
abbrev cX9_letter : ByteArray := prog_1_method_9_code
def yX9_letter : MethodName := ⟨RX9, "letter", "(III)I"⟩
abbrev cX9_change : ByteArray := prog_1_method_10_code
def yX9_change : MethodName := ⟨RX9, "change", "(IIII)I"⟩
abbrev cX9_fast : ByteArray := prog_1_method_11_code
def yX9_fast : MethodName := ⟨RX9, "fast", "(II)I"⟩
abbrev cX9_loosen : ByteArray := prog_1_method_12_code
def yX9_loosen : MethodName := ⟨RX9, "loosen", "(I)I"⟩
abbrev cX9_keep : ByteArray := prog_1_method_13_code
def yX9_keep : MethodName := ⟨RX9, "keep", "(Z)I"⟩
abbrev cX9_lay : ByteArray := prog_1_method_14_code
def yX9_lay : MethodName := ⟨RX9, "lay", "()I"⟩
abbrev cX9_joint : ByteArray := prog_1_method_15_code
def yX9_joint : MethodName := ⟨RX9, "joint", "(II)I"⟩
abbrev cX9_price : ByteArray := prog_1_method_16_code
def yX9_price : MethodName := ⟨RX9, "price", "(III)I"⟩
abbrev cX9_rest : ByteArray := prog_1_method_17_code
def yX9_rest : MethodName := ⟨RX9, "rest", "(II)I"⟩
abbrev cX9_second : ByteArray := prog_1_method_18_code
def yX9_second : MethodName := ⟨RX9, "second", "()I"⟩
abbrev cX9_sure : ByteArray := prog_1_method_19_code
def yX9_sure : MethodName := ⟨RX9, "sure", "(II)I"⟩
abbrev cX9_rounds : ByteArray := prog_1_method_20_code
def yX9_rounds : MethodName := ⟨RX9, "rounds", "(I)I"⟩
abbrev cX9_share : ByteArray := prog_1_method_21_code
def yX9_share : MethodName := ⟨RX9, "share", "(II)I"⟩
abbrev cX9_partner : ByteArray := prog_1_method_22_code
def yX9_partner : MethodName := ⟨RX9, "partner", "(II)I"⟩
abbrev cX9_term : ByteArray := prog_1_method_23_code
def yX9_term : MethodName := ⟨RX9, "term", "(II)I"⟩
abbrev cX9_broken : ByteArray := prog_1_method_24_code
def yX9_broken : MethodName := ⟨RX9, "broken", "()I"⟩
abbrev cX9_link : ByteArray := prog_1_method_25_code
def yX9_link : MethodName := ⟨RX9, "link", "(III)I"⟩
abbrev cX9_linked : ByteArray := prog_1_method_26_code
def yX9_linked : MethodName := ⟨RX9, "linked", "(IIII)I"⟩
abbrev cX9_phrases : ByteArray := prog_1_method_27_code
def yX9_phrases : MethodName := ⟨RX9, "phrases", "(I)I"⟩
abbrev cX9_putSentence : ByteArray := prog_1_method_28_code
def yX9_putSentence : MethodName := ⟨RX9, "putSentence", "(III)I"⟩
abbrev cX9_putJoint : ByteArray := prog_1_method_29_code
def yX9_putJoint : MethodName := ⟨RX9, "putJoint", "(II)I"⟩
abbrev cX9_putRow : ByteArray := prog_1_method_30_code
def yX9_putRow : MethodName := ⟨RX9, "putRow", "(II)I"⟩
abbrev cX9_clear : ByteArray := prog_1_method_31_code
def yX9_clear : MethodName := ⟨RX9, "clear", "(I)I"⟩
abbrev cX9_sort : ByteArray := prog_1_method_32_code
def yX9_sort : MethodName := ⟨RX9, "sort", "(I)I"⟩
abbrev cX9_write : ByteArray := prog_1_method_33_code
def yX9_write : MethodName := ⟨RX9, "write", "(III)I"⟩
abbrev cX9_read : ByteArray := prog_1_method_34_code
def yX9_read : MethodName := ⟨RX9, "read", "(II)I"⟩
abbrev cX9_spell : ByteArray := prog_1_method_35_code
def yX9_spell : MethodName := ⟨RX9, "spell", "(III)I"⟩
abbrev cX9_rate : ByteArray := prog_1_method_36_code
def yX9_rate : MethodName := ⟨RX9, "rate", "(I)I"⟩
abbrev cX9_code : ByteArray := prog_1_method_37_code
def yX9_code : MethodName := ⟨RX9, "code", "()I"⟩
abbrev cX9_isBook : ByteArray := prog_1_method_38_code
def yX9_isBook : MethodName := ⟨RX9, "isBook", "(I)Z"⟩
abbrev cX9_isSentence : ByteArray := prog_1_method_39_code
def yX9_isSentence : MethodName := ⟨RX9, "isSentence", "(II)Z"⟩
abbrev cX9_isWord : ByteArray := prog_1_method_40_code
def yX9_isWord : MethodName := ⟨RX9, "isWord", "(III)Z"⟩
abbrev cX9_isKind : ByteArray := prog_1_method_41_code
def yX9_isKind : MethodName := ⟨RX9, "isKind", "(II)Z"⟩
abbrev cX9_isSlot : ByteArray := prog_1_method_42_code
def yX9_isSlot : MethodName := ⟨RX9, "isSlot", "(I)Z"⟩
abbrev cX9_layAnew : ByteArray := prog_1_method_43_code
def yX9_layAnew : MethodName := ⟨RX9, "layAnew", "()V"⟩
abbrev cX9_playRound : ByteArray := prog_1_method_44_code
def yX9_playRound : MethodName := ⟨RX9, "playRound", "()V"⟩
abbrev cX9_dealJoint : ByteArray := prog_1_method_45_code
def yX9_dealJoint : MethodName := ⟨RX9, "dealJoint", "(I)V"⟩
abbrev cX9_breaksTerm : ByteArray := prog_1_method_46_code
def yX9_breaksTerm : MethodName := ⟨RX9, "breaksTerm", "(I)Z"⟩
abbrev cX9_isLinkable : ByteArray := prog_1_method_47_code
def yX9_isLinkable : MethodName := ⟨RX9, "isLinkable", "(I)Z"⟩
abbrev cX9_hasBothSides : ByteArray := prog_1_method_48_code
def yX9_hasBothSides : MethodName := ⟨RX9, "hasBothSides", "(I)Z"⟩
abbrev cX9_meet : ByteArray := prog_1_method_49_code
def yX9_meet : MethodName := ⟨RX9, "meet", "(I)I"⟩
abbrev cX9_fine : ByteArray := prog_1_method_50_code
def yX9_fine : MethodName := ⟨RX9, "fine", "(I)I"⟩
abbrev cX9_sortCode : ByteArray := prog_1_method_51_code
def yX9_sortCode : MethodName := ⟨RX9, "sortCode", "(II)I"⟩
abbrev cX9_placeCode : ByteArray := prog_1_method_52_code
def yX9_placeCode : MethodName := ⟨RX9, "placeCode", "(II)I"⟩
def RX10 : String := "SideBySideModel"
def TX10 : u_T := fun k => match k with
  | 0 => ("SideBySideModel", "tape", "[I", true)
  | 1 => ("SideBySideModel", "taped", "I", false)
  | 2 => ("SideBySideModel", "shorts", "[I", true)
  | 3 => ("SideBySideModel", "shortSize", "[I", true)
  | 4 => ("SideBySideModel", "shortMany", "I", false)
  | 5 => ("SideBySideModel", "sentences", "[I", true)
  | 6 => ("SideBySideModel", "wordMany", "[I", true)
  | 7 => ("SideBySideModel", "words", "[I", true)
  | 8 => ("SideBySideModel", "paragraph", "[I", true)
  | 9 => ("SideBySideModel", "paragraphs", "[I", true)
  | 10 => ("SideBySideModel", "kinds", "[I", true)
  | 11 => ("SideBySideModel", "kindSize", "[I", true)
  | 12 => ("SideBySideModel", "kindLetters", "[I", true)
  | 13 => ("SideBySideModel", "fastRight", "[I", true)
  | 14 => ("SideBySideModel", "fastLeft", "[I", true)
  | 15 => ("SideBySideModel", "fasts", "I", false)
  | 16 => ("SideBySideModel", "isKept", "Z", false)
  | 17 => ("SideBySideModel", "terms", "[I", true)
  | 18 => ("SideBySideModel", "shares", "[I", true)
  | 19 => ("SideBySideModel", "code", "I", false)
  | 20 => ("SideBySideModel", "word", "[I", true)
  | 21 => ("SideBySideModel", "wordSize", "I", false)
  | 22 => ("SideBySideModel", "at", "I", false)
  | 23 => ("SideBySideModel", "newMany", "[I", true)
  | 24 => ("SideBySideModel", "newWords", "[I", true)
  | 25 => ("SideBySideModel", "newParagraph", "[I", true)
  | 26 => ("SideBySideModel", "newSize", "[I", true)
  | 27 => ("SideBySideModel", "newLetters", "[I", true)
  | 28 => ("SideBySideModel", "newSentences", "I", false)
  | 29 => ("SideBySideModel", "newKinds", "I", false)
  | 30 => ("SideBySideModel", "newParagraphs", "I", false)
  | 31 => ("SideBySideModel", "hasSome", "Z", false)
  | 32 => ("SideBySideModel", "isFull", "Z", false)
  | 33 => ("SideBySideModel", "partners", "[I", true)
  | 34 => ("SideBySideModel", "lengths", "[I", true)
  | 35 => ("SideBySideModel", "leftLength", "J", false)
  | 36 => ("SideBySideModel", "rightLength", "J", false)
  | 37 => ("SideBySideModel", "least", "[I", true)
  | 38 => ("SideBySideModel", "next", "[I", true)
  | 39 => ("SideBySideModel", "outKind", "I", false)
  | 40 => ("SideBySideModel", "outI", "I", false)
  | 41 => ("SideBySideModel", "outJ", "I", false)
  | 42 => ("SideBySideModel", "wayKind", "[I", true)
  | 43 => ("SideBySideModel", "wayI", "[I", true)
  | 44 => ("SideBySideModel", "wayJ", "[I", true)
  | 45 => ("SideBySideModel", "joints", "I", false)
  | 46 => ("SideBySideModel", "dealt", "[J", true)
  | 47 => ("SideBySideModel", "lefts", "[I", true)
  | 48 => ("SideBySideModel", "leftMany", "I", false)
  | 49 => ("SideBySideModel", "rights", "[I", true)
  | 50 => ("SideBySideModel", "rightMany", "I", false)
  | 51 => ("SideBySideModel", "toRight", "[I", true)
  | 52 => ("SideBySideModel", "toLeft", "[I", true)
  | 53 => ("SideBySideModel", "grown", "[Z", true)
  | 54 => ("SideBySideModel", "sorts", "[I", true)
  | 55 => ("SideBySideModel", "sizes", "[I", true)
  | _ => ("SideBySideModel", "rows", "[I", true)
def tyX10 : Nat → FieldType := fun k => match k with
  | 0 => .array .int
  | 1 => .int
  | 2 => .array .int
  | 3 => .array .int
  | 4 => .int
  | 5 => .array .int
  | 6 => .array .int
  | 7 => .array .int
  | 8 => .array .int
  | 9 => .array .int
  | 10 => .array .int
  | 11 => .array .int
  | 12 => .array .int
  | 13 => .array .int
  | 14 => .array .int
  | 15 => .int
  | 16 => .boolean
  | 17 => .array .int
  | 18 => .array .int
  | 19 => .int
  | 20 => .array .int
  | 21 => .int
  | 22 => .int
  | 23 => .array .int
  | 24 => .array .int
  | 25 => .array .int
  | 26 => .array .int
  | 27 => .array .int
  | 28 => .int
  | 29 => .int
  | 30 => .int
  | 31 => .boolean
  | 32 => .boolean
  | 33 => .array .int
  | 34 => .array .int
  | 35 => .long
  | 36 => .long
  | 37 => .array .int
  | 38 => .array .int
  | 39 => .int
  | 40 => .int
  | 41 => .int
  | 42 => .array .int
  | 43 => .array .int
  | 44 => .array .int
  | 45 => .int
  | 46 => .array .long
  | 47 => .array .int
  | 48 => .int
  | 49 => .array .int
  | 50 => .int
  | 51 => .array .int
  | 52 => .array .int
  | 53 => .array .boolean
  | 54 => .array .int
  | 55 => .array .int
  | _ => .array .int
theorem nmX10 : ∀ a, a < 57 → ∀ b, b < 57 → a ≠ b → (TX10 a).2.1 ≠ (TX10 b).2.1 := by decide +kernel
theorem tyX10_ok : ∀ k, k < 57 → parseFieldDescriptor (TX10 k).2.2.1 = some (tyX10 k) := by decide +kernel
abbrev cX10_init : ByteArray := prog_12_method_1_code
def yX10_init : MethodName := ⟨RX10, "<init>", "()V"⟩
abbrev cX10_in : ByteArray := prog_12_method_3_code
def yX10_in : MethodName := ⟨RX10, "in", "(JJJ)Z"⟩
abbrev cX10_feed : ByteArray := prog_12_method_4_code
def yX10_feed : MethodName := ⟨RX10, "feed", "(IIIII)I"⟩
abbrev cX10_cut : ByteArray := prog_12_method_5_code
def yX10_cut : MethodName := ⟨RX10, "cut", "(I)I"⟩
abbrev cX10_isDigit : ByteArray := prog_12_method_6_code
def yX10_isDigit : MethodName := ⟨RX10, "isDigit", "(I)Z"⟩
abbrev cX10_letterOf : ByteArray := prog_12_method_7_code
def yX10_letterOf : MethodName := ⟨RX10, "letterOf", "(I)I"⟩
abbrev cX10_cutWord : ByteArray := prog_12_method_8_code
def yX10_cutWord : MethodName := ⟨RX10, "cutWord", "()V"⟩
abbrev cX10_isShort : ByteArray := prog_12_method_9_code
def yX10_isShort : MethodName := ⟨RX10, "isShort", "()Z"⟩
abbrev cX10_abbreviate : ByteArray := prog_12_method_10_code
def yX10_abbreviate : MethodName := ⟨RX10, "abbreviate", "()I"⟩
abbrev cX10_newKind : ByteArray := prog_12_method_11_code
def yX10_newKind : MethodName := ⟨RX10, "newKind", "()I"⟩
abbrev cX10_addWord : ByteArray := prog_12_method_12_code
def yX10_addWord : MethodName := ⟨RX10, "addWord", "()V"⟩
abbrev cX10_endSentence : ByteArray := prog_12_method_13_code
def yX10_endSentence : MethodName := ⟨RX10, "endSentence", "()V"⟩
abbrev cX10_endParagraph : ByteArray := prog_12_method_14_code
def yX10_endParagraph : MethodName := ⟨RX10, "endParagraph", "()V"⟩
abbrev cX10_cutBook : ByteArray := prog_12_method_15_code
def yX10_cutBook : MethodName := ⟨RX10, "cutBook", "()V"⟩
abbrev cX10_loseTies : ByteArray := prog_12_method_16_code
def yX10_loseTies : MethodName := ⟨RX10, "loseTies", "()V"⟩
abbrev cX10_take : ByteArray := prog_12_method_17_code
def yX10_take : MethodName := ⟨RX10, "take", "(I)I"⟩
abbrev cX10_isBook : ByteArray := prog_12_method_18_code
def yX10_isBook : MethodName := ⟨RX10, "isBook", "(I)Z"⟩
abbrev cX10_isSentence : ByteArray := prog_12_method_19_code
def yX10_isSentence : MethodName := ⟨RX10, "isSentence", "(II)Z"⟩
abbrev cX10_kindOf : ByteArray := prog_12_method_20_code
def yX10_kindOf : MethodName := ⟨RX10, "kindOf", "(III)I"⟩
abbrev cX10_lengthOf : ByteArray := prog_12_method_21_code
def yX10_lengthOf : MethodName := ⟨RX10, "lengthOf", "(II)I"⟩
abbrev cX10_lengthOfAll : ByteArray := prog_12_method_22_code
def yX10_lengthOfAll : MethodName := ⟨RX10, "lengthOfAll", "(I)I"⟩
abbrev cX10_count : ByteArray := prog_12_method_23_code
def yX10_count : MethodName := ⟨RX10, "count", "(II)I"⟩
abbrev cX10_sentence : ByteArray := prog_12_method_24_code
def yX10_sentence : MethodName := ⟨RX10, "sentence", "(III)I"⟩
abbrev cX10_isWord : ByteArray := prog_12_method_25_code
def yX10_isWord : MethodName := ⟨RX10, "isWord", "(III)Z"⟩
abbrev cX10_word : ByteArray := prog_12_method_26_code
def yX10_word : MethodName := ⟨RX10, "word", "(III)I"⟩
abbrev cX10_isKind : ByteArray := prog_12_method_27_code
def yX10_isKind : MethodName := ⟨RX10, "isKind", "(II)Z"⟩
abbrev cX10_letter : ByteArray := prog_12_method_28_code
def yX10_letter : MethodName := ⟨RX10, "letter", "(III)I"⟩
abbrev cX10_change : ByteArray := prog_12_method_29_code
def yX10_change : MethodName := ⟨RX10, "change", "(IIII)I"⟩
abbrev cX10_fast : ByteArray := prog_12_method_30_code
def yX10_fast : MethodName := ⟨RX10, "fast", "(II)I"⟩
abbrev cX10_loosen : ByteArray := prog_12_method_31_code
def yX10_loosen : MethodName := ⟨RX10, "loosen", "(I)I"⟩
abbrev cX10_keep : ByteArray := prog_12_method_32_code
def yX10_keep : MethodName := ⟨RX10, "keep", "(Z)I"⟩
abbrev cX10_leftOf : ByteArray := prog_12_method_33_code
def yX10_leftOf : MethodName := ⟨RX10, "leftOf", "(I)I"⟩
abbrev cX10_rightOf : ByteArray := prog_12_method_34_code
def yX10_rightOf : MethodName := ⟨RX10, "rightOf", "(I)I"⟩
abbrev cX10_partnerOf : ByteArray := prog_12_method_35_code
def yX10_partnerOf : MethodName := ⟨RX10, "partnerOf", "(I)I"⟩
abbrev cX10_prepare : ByteArray := prog_12_method_36_code
def yX10_prepare : MethodName := ⟨RX10, "prepare", "()V"⟩
abbrev cX10_square : ByteArray := prog_12_method_37_code
def yX10_square : MethodName := ⟨RX10, "square", "(JJ)I"⟩
abbrev cX10_hasWord : ByteArray := prog_12_method_38_code
def yX10_hasWord : MethodName := ⟨RX10, "hasWord", "(IIII)Z"⟩
abbrev cX10_known : ByteArray := prog_12_method_39_code
def yX10_known : MethodName := ⟨RX10, "known", "(IIII)I"⟩
abbrev cX10_price0 : ByteArray := prog_12_method_40_code
def yX10_price0 : MethodName := ⟨RX10, "price0", "(I)I"⟩
abbrev cX10_priceOf : ByteArray := prog_12_method_41_code
def yX10_priceOf : MethodName := ⟨RX10, "priceOf", "(III)I"⟩
abbrev cX10_isFastKept : ByteArray := prog_12_method_42_code
def yX10_isFastKept : MethodName := ⟨RX10, "isFastKept", "(III)Z"⟩
abbrev cX10_isParagraphKept : ByteArray := prog_12_method_43_code
def yX10_isParagraphKept : MethodName := ⟨RX10, "isParagraphKept", "(IIII)Z"⟩
abbrev cX10_upTo : ByteArray := prog_12_method_44_code
def yX10_upTo : MethodName := ⟨RX10, "upTo", "(II)I"⟩
abbrev cX10_may : ByteArray := prog_12_method_45_code
def yX10_may : MethodName := ⟨RX10, "may", "(III)Z"⟩
abbrev cX10_work : ByteArray := prog_12_method_46_code
def yX10_work : MethodName := ⟨RX10, "work", "()V"⟩
abbrev cX10_best : ByteArray := prog_12_method_47_code
def yX10_best : MethodName := ⟨RX10, "best", "()Z"⟩
abbrev cX10_lay : ByteArray := prog_12_method_48_code
def yX10_lay : MethodName := ⟨RX10, "lay", "()I"⟩
abbrev cX10_isJoint : ByteArray := prog_12_method_49_code
def yX10_isJoint : MethodName := ⟨RX10, "isJoint", "(I)Z"⟩
abbrev cX10_joint : ByteArray := prog_12_method_50_code
def yX10_joint : MethodName := ⟨RX10, "joint", "(II)I"⟩
abbrev cX10_price : ByteArray := prog_12_method_51_code
def yX10_price : MethodName := ⟨RX10, "price", "(III)I"⟩
abbrev cX10_rest : ByteArray := prog_12_method_52_code
def yX10_rest : MethodName := ⟨RX10, "rest", "(II)I"⟩
abbrev cX10_second : ByteArray := prog_12_method_53_code
def yX10_second : MethodName := ⟨RX10, "second", "()I"⟩
abbrev cX10_sure : ByteArray := prog_12_method_54_code
def yX10_sure : MethodName := ⟨RX10, "sure", "(II)I"⟩
abbrev cX10_deal : ByteArray := prog_12_method_55_code
def yX10_deal : MethodName := ⟨RX10, "deal", "(III)V"⟩
abbrev cX10_round : ByteArray := prog_12_method_56_code
def yX10_round : MethodName := ⟨RX10, "round", "()Z"⟩
abbrev cX10_tie : ByteArray := prog_12_method_57_code
def yX10_tie : MethodName := ⟨RX10, "tie", "(I)V"⟩
abbrev cX10_rounds : ByteArray := prog_12_method_58_code
def yX10_rounds : MethodName := ⟨RX10, "rounds", "(I)I"⟩
abbrev cX10_share : ByteArray := prog_12_method_59_code
def yX10_share : MethodName := ⟨RX10, "share", "(II)I"⟩
abbrev cX10_partner : ByteArray := prog_12_method_60_code
def yX10_partner : MethodName := ⟨RX10, "partner", "(II)I"⟩
abbrev cX10_term : ByteArray := prog_12_method_61_code
def yX10_term : MethodName := ⟨RX10, "term", "(II)I"⟩
abbrev cX10_broken : ByteArray := prog_12_method_62_code
def yX10_broken : MethodName := ⟨RX10, "broken", "()I"⟩
abbrev cX10_gather : ByteArray := prog_12_method_63_code
def yX10_gather : MethodName := ⟨RX10, "gather", "(I)V"⟩
abbrev cX10_size : ByteArray := prog_12_method_64_code
def yX10_size : MethodName := ⟨RX10, "size", "(I)I"⟩
abbrev cX10_linkAll : ByteArray := prog_12_method_65_code
def yX10_linkAll : MethodName := ⟨RX10, "linkAll", "()V"⟩
abbrev cX10_isBoth : ByteArray := prog_12_method_66_code
def yX10_isBoth : MethodName := ⟨RX10, "isBoth", "(II)Z"⟩
abbrev cX10_hasNear : ByteArray := prog_12_method_67_code
def yX10_hasNear : MethodName := ⟨RX10, "hasNear", "(II)Z"⟩
abbrev cX10_isFree : ByteArray := prog_12_method_68_code
def yX10_isFree : MethodName := ⟨RX10, "isFree", "(II)Z"⟩
abbrev cX10_grow : ByteArray := prog_12_method_69_code
def yX10_grow : MethodName := ⟨RX10, "grow", "()V"⟩
abbrev cX10_isLinkable : ByteArray := prog_12_method_70_code
def yX10_isLinkable : MethodName := ⟨RX10, "isLinkable", "(I)Z"⟩
abbrev cX10_link : ByteArray := prog_12_method_71_code
def yX10_link : MethodName := ⟨RX10, "link", "(III)I"⟩
abbrev cX10_linked : ByteArray := prog_12_method_72_code
def yX10_linked : MethodName := ⟨RX10, "linked", "(IIII)I"⟩
abbrev cX10_goTogether : ByteArray := prog_12_method_73_code
def yX10_goTogether : MethodName := ⟨RX10, "goTogether", "(IIII)Z"⟩
abbrev cX10_phrases : ByteArray := prog_12_method_74_code
def yX10_phrases : MethodName := ⟨RX10, "phrases", "(I)I"⟩
abbrev cX10_isSlot : ByteArray := prog_12_method_75_code
def yX10_isSlot : MethodName := ⟨RX10, "isSlot", "(I)Z"⟩
abbrev cX10_putSentence : ByteArray := prog_12_method_76_code
def yX10_putSentence : MethodName := ⟨RX10, "putSentence", "(III)I"⟩
abbrev cX10_putJoint : ByteArray := prog_12_method_77_code
def yX10_putJoint : MethodName := ⟨RX10, "putJoint", "(II)I"⟩
abbrev cX10_putRow : ByteArray := prog_12_method_78_code
def yX10_putRow : MethodName := ⟨RX10, "putRow", "(II)I"⟩
abbrev cX10_clear : ByteArray := prog_12_method_79_code
def yX10_clear : MethodName := ⟨RX10, "clear", "(I)I"⟩
abbrev cX10_sort : ByteArray := prog_12_method_80_code
def yX10_sort : MethodName := ⟨RX10, "sort", "(I)I"⟩
abbrev cX10_asks : ByteArray := prog_12_method_81_code
def yX10_asks : MethodName := ⟨RX10, "asks", "(II)V"⟩
abbrev cX10_write : ByteArray := prog_12_method_82_code
def yX10_write : MethodName := ⟨RX10, "write", "(III)I"⟩
abbrev cX10_read : ByteArray := prog_12_method_83_code
def yX10_read : MethodName := ⟨RX10, "read", "(II)I"⟩
abbrev cX10_spell : ByteArray := prog_12_method_84_code
def yX10_spell : MethodName := ⟨RX10, "spell", "(III)I"⟩
abbrev cX10_rate : ByteArray := prog_12_method_85_code
def yX10_rate : MethodName := ⟨RX10, "rate", "(I)I"⟩
abbrev cX10_code : ByteArray := prog_12_method_86_code
def yX10_code : MethodName := ⟨RX10, "code", "()I"⟩
def RJ9 : String := "java/lang/Math"
abbrev cJ9_abs_0f7a4 : ByteArray := prog_13_method_59_code
def yJ9_abs_0f7a4 : MethodName := ⟨RJ9, "abs", "(I)I"⟩
abbrev cJ9_max_7cf53 : ByteArray := prog_13_method_65_code
def yJ9_max_7cf53 : MethodName := ⟨RJ9, "max", "(II)I"⟩
abbrev cJ9_min_7cf53 : ByteArray := prog_13_method_69_code
def yJ9_min_7cf53 : MethodName := ⟨RJ9, "min", "(II)I"⟩
def RJ7 : String := "java/util/Arrays"
abbrev cJ7_fill_d0a16 : ByteArray := prog_14_method_101_code
def yJ7_fill_d0a16 : MethodName := ⟨RJ7, "fill", "([JJ)V"⟩
abbrev cJ7_fill_53178 : ByteArray := prog_14_method_103_code
def yJ7_fill_53178 : MethodName := ⟨RJ7, "fill", "([II)V"⟩
def RL : String := "SideBySideLaw"
abbrev cL_law : ByteArray := code
def yL_law : MethodName := ⟨RL, "law", "([I)Z"⟩
abbrev vwCl : List vw_C := [(RX0, TX0, 8), (RX1, TX1, 4), (RX2, TX2, 11), (RX3, TX3, 3), (RX4, TX4, 5), (RX5, TX5, 5), (RX6, TX6, 2), (RX7, TX7, 17), (RX8, TX8, 4), (RX9, TX9, 12), (RX10, TX10, 57)]
