-- ===== PART A: goes FIRST, ahead of the names: the tables' words, and 'selects' of the private methods out of them =====
/-- a private method of a class that the tables say can be made, by its rows of tables_1 -/
def lw_okq (q : MethodName × Nat) : Prop := (q.1.cls ≠ "java/lang/invoke/MethodHandle" ∧ q.1.cls ≠ "java/lang/invoke/VarHandle") ∧ Cond.instantiable q.1.cls q.2 ∈ tables_1 ∧ Cond.privateMethod q.1 ∈ tables_1 ∧ Cond.instanceMethod q.1 ∈ tables_1
theorem lw_p0 : lw_okq (⟨"TinNation", "tapeNumber", "(I)V"⟩, 13) := ⟨⟨by decide +kernel, by decide +kernel⟩, List.mem_of_getElem? (i := 26) (by decide +kernel), List.mem_of_getElem? (i := 458) (by decide +kernel), List.mem_of_getElem? (i := 459) (by decide +kernel)⟩
theorem lw_p1 : lw_okq (⟨"TinNation$Scanner", "takeWord", "()V"⟩, 7) := ⟨⟨by decide +kernel, by decide +kernel⟩, List.mem_of_getElem? (i := 160) (by decide +kernel), List.mem_of_getElem? (i := 487) (by decide +kernel), List.mem_of_getElem? (i := 488) (by decide +kernel)⟩
theorem lw_p2 : lw_okq (⟨"TinNation$Scanner", "takeNumber", "()V"⟩, 7) := ⟨⟨by decide +kernel, by decide +kernel⟩, List.mem_of_getElem? (i := 160) (by decide +kernel), List.mem_of_getElem? (i := 491) (by decide +kernel), List.mem_of_getElem? (i := 492) (by decide +kernel)⟩
theorem lw_p3 : lw_okq (⟨"TinNation$Scanner", "takeSign", "()V"⟩, 7) := ⟨⟨by decide +kernel, by decide +kernel⟩, List.mem_of_getElem? (i := 160) (by decide +kernel), List.mem_of_getElem? (i := 496) (by decide +kernel), List.mem_of_getElem? (i := 497) (by decide +kernel)⟩
theorem lw_p4 : lw_okq (⟨"TinNation$Parser", "line", "()V"⟩, 6) := ⟨⟨by decide +kernel, by decide +kernel⟩, List.mem_of_getElem? (i := 34) (by decide +kernel), List.mem_of_getElem? (i := 565) (by decide +kernel), List.mem_of_getElem? (i := 566) (by decide +kernel)⟩
theorem lw_p5 : lw_okq (⟨"TinNation$Parser", "kindLine", "()V"⟩, 6) := ⟨⟨by decide +kernel, by decide +kernel⟩, List.mem_of_getElem? (i := 34) (by decide +kernel), List.mem_of_getElem? (i := 569) (by decide +kernel), List.mem_of_getElem? (i := 570) (by decide +kernel)⟩
theorem lw_p6 : lw_okq (⟨"TinNation$Parser", "room", "(LTinNation$Rows;)V"⟩, 6) := ⟨⟨by decide +kernel, by decide +kernel⟩, List.mem_of_getElem? (i := 34) (by decide +kernel), List.mem_of_getElem? (i := 573) (by decide +kernel), List.mem_of_getElem? (i := 574) (by decide +kernel)⟩
theorem lw_p7 : lw_okq (⟨"TinNation$Parser", "fail", "(I)V"⟩, 6) := ⟨⟨by decide +kernel, by decide +kernel⟩, List.mem_of_getElem? (i := 34) (by decide +kernel), List.mem_of_getElem? (i := 581) (by decide +kernel), List.mem_of_getElem? (i := 582) (by decide +kernel)⟩
theorem lw_p8 : lw_okq (⟨"TinNation$Parser", "newName", "(LTinNation$Rows;)I"⟩, 6) := ⟨⟨by decide +kernel, by decide +kernel⟩, List.mem_of_getElem? (i := 34) (by decide +kernel), List.mem_of_getElem? (i := 585) (by decide +kernel), List.mem_of_getElem? (i := 586) (by decide +kernel)⟩
theorem lw_p9 : lw_okq (⟨"TinNation$Parser", "number", "(II)I"⟩, 6) := ⟨⟨by decide +kernel, by decide +kernel⟩, List.mem_of_getElem? (i := 34) (by decide +kernel), List.mem_of_getElem? (i := 593) (by decide +kernel), List.mem_of_getElem? (i := 594) (by decide +kernel)⟩
theorem lw_p10 : lw_okq (⟨"TinNation$Parser", "tinLine", "()V"⟩, 6) := ⟨⟨by decide +kernel, by decide +kernel⟩, List.mem_of_getElem? (i := 34) (by decide +kernel), List.mem_of_getElem? (i := 606) (by decide +kernel), List.mem_of_getElem? (i := 607) (by decide +kernel)⟩
theorem lw_p11 : lw_okq (⟨"TinNation$Parser", "toldName", "(LTinNation$Rows;)I"⟩, 6) := ⟨⟨by decide +kernel, by decide +kernel⟩, List.mem_of_getElem? (i := 34) (by decide +kernel), List.mem_of_getElem? (i := 610) (by decide +kernel), List.mem_of_getElem? (i := 611) (by decide +kernel)⟩
theorem lw_p12 : lw_okq (⟨"TinNation$Parser", "openLine", "()V"⟩, 6) := ⟨⟨by decide +kernel, by decide +kernel⟩, List.mem_of_getElem? (i := 34) (by decide +kernel), List.mem_of_getElem? (i := 615) (by decide +kernel), List.mem_of_getElem? (i := 616) (by decide +kernel)⟩
theorem lw_p13 : lw_okq (⟨"TinNation$Parser", "wantLine", "()V"⟩, 6) := ⟨⟨by decide +kernel, by decide +kernel⟩, List.mem_of_getElem? (i := 34) (by decide +kernel), List.mem_of_getElem? (i := 619) (by decide +kernel), List.mem_of_getElem? (i := 620) (by decide +kernel)⟩
theorem lw_p14 : lw_okq (⟨"TinNation$Parser", "onceLine", "(I)I"⟩, 6) := ⟨⟨by decide +kernel, by decide +kernel⟩, List.mem_of_getElem? (i := 34) (by decide +kernel), List.mem_of_getElem? (i := 623) (by decide +kernel), List.mem_of_getElem? (i := 624) (by decide +kernel)⟩
theorem lw_p15 : lw_okq (⟨"TinNation$Parser", "lawLine", "()V"⟩, 6) := ⟨⟨by decide +kernel, by decide +kernel⟩, List.mem_of_getElem? (i := 34) (by decide +kernel), List.mem_of_getElem? (i := 628) (by decide +kernel), List.mem_of_getElem? (i := 629) (by decide +kernel)⟩
def lw_privs_1 : List (MethodName × Nat) := [(⟨"TinNation", "tapeNumber", "(I)V"⟩, 13), (⟨"TinNation$Scanner", "takeWord", "()V"⟩, 7), (⟨"TinNation$Scanner", "takeNumber", "()V"⟩, 7), (⟨"TinNation$Scanner", "takeSign", "()V"⟩, 7), (⟨"TinNation$Parser", "line", "()V"⟩, 6), (⟨"TinNation$Parser", "kindLine", "()V"⟩, 6), (⟨"TinNation$Parser", "room", "(LTinNation$Rows;)V"⟩, 6), (⟨"TinNation$Parser", "fail", "(I)V"⟩, 6), (⟨"TinNation$Parser", "newName", "(LTinNation$Rows;)I"⟩, 6), (⟨"TinNation$Parser", "number", "(II)I"⟩, 6), (⟨"TinNation$Parser", "tinLine", "()V"⟩, 6), (⟨"TinNation$Parser", "toldName", "(LTinNation$Rows;)I"⟩, 6), (⟨"TinNation$Parser", "openLine", "()V"⟩, 6), (⟨"TinNation$Parser", "wantLine", "()V"⟩, 6), (⟨"TinNation$Parser", "onceLine", "(I)I"⟩, 6), (⟨"TinNation$Parser", "lawLine", "()V"⟩, 6)]
theorem lw_r1 : ∀ q ∈ lw_privs_1, lw_okq q := List.forall_mem_cons.mpr ⟨lw_p0, List.forall_mem_cons.mpr ⟨lw_p1, List.forall_mem_cons.mpr ⟨lw_p2, List.forall_mem_cons.mpr ⟨lw_p3, List.forall_mem_cons.mpr ⟨lw_p4, List.forall_mem_cons.mpr ⟨lw_p5, List.forall_mem_cons.mpr ⟨lw_p6, List.forall_mem_cons.mpr ⟨lw_p7, List.forall_mem_cons.mpr ⟨lw_p8, List.forall_mem_cons.mpr ⟨lw_p9, List.forall_mem_cons.mpr ⟨lw_p10, List.forall_mem_cons.mpr ⟨lw_p11, List.forall_mem_cons.mpr ⟨lw_p12, List.forall_mem_cons.mpr ⟨lw_p13, List.forall_mem_cons.mpr ⟨lw_p14, List.forall_mem_cons.mpr ⟨lw_p15, fun _ h => absurd h List.not_mem_nil⟩⟩⟩⟩⟩⟩⟩⟩⟩⟩⟩⟩⟩⟩⟩⟩
theorem lw_p16 : lw_okq (⟨"TinNation$Parser", "either", "(I)V"⟩, 6) := ⟨⟨by decide +kernel, by decide +kernel⟩, List.mem_of_getElem? (i := 34) (by decide +kernel), List.mem_of_getElem? (i := 643) (by decide +kernel), List.mem_of_getElem? (i := 644) (by decide +kernel)⟩
theorem lw_p17 : lw_okq (⟨"TinNation$Parser", "both", "(I)V"⟩, 6) := ⟨⟨by decide +kernel, by decide +kernel⟩, List.mem_of_getElem? (i := 34) (by decide +kernel), List.mem_of_getElem? (i := 647) (by decide +kernel), List.mem_of_getElem? (i := 648) (by decide +kernel)⟩
theorem lw_p18 : lw_okq (⟨"TinNation$Parser", "denied", "(I)V"⟩, 6) := ⟨⟨by decide +kernel, by decide +kernel⟩, List.mem_of_getElem? (i := 34) (by decide +kernel), List.mem_of_getElem? (i := 651) (by decide +kernel), List.mem_of_getElem? (i := 652) (by decide +kernel)⟩
theorem lw_p19 : lw_okq (⟨"TinNation$Parser", "knot", "()V"⟩, 6) := ⟨⟨by decide +kernel, by decide +kernel⟩, List.mem_of_getElem? (i := 34) (by decide +kernel), List.mem_of_getElem? (i := 655) (by decide +kernel), List.mem_of_getElem? (i := 656) (by decide +kernel)⟩
theorem lw_p20 : lw_okq (⟨"TinNation$Parser", "compared", "(I)V"⟩, 6) := ⟨⟨by decide +kernel, by decide +kernel⟩, List.mem_of_getElem? (i := 34) (by decide +kernel), List.mem_of_getElem? (i := 659) (by decide +kernel), List.mem_of_getElem? (i := 660) (by decide +kernel)⟩
theorem lw_p21 : lw_okq (⟨"TinNation$Parser", "sum", "(I)V"⟩, 6) := ⟨⟨by decide +kernel, by decide +kernel⟩, List.mem_of_getElem? (i := 34) (by decide +kernel), List.mem_of_getElem? (i := 663) (by decide +kernel), List.mem_of_getElem? (i := 664) (by decide +kernel)⟩
theorem lw_p22 : lw_okq (⟨"TinNation$Parser", "product", "(I)V"⟩, 6) := ⟨⟨by decide +kernel, by decide +kernel⟩, List.mem_of_getElem? (i := 34) (by decide +kernel), List.mem_of_getElem? (i := 667) (by decide +kernel), List.mem_of_getElem? (i := 668) (by decide +kernel)⟩
theorem lw_p23 : lw_okq (⟨"TinNation$Parser", "part", "(I)V"⟩, 6) := ⟨⟨by decide +kernel, by decide +kernel⟩, List.mem_of_getElem? (i := 34) (by decide +kernel), List.mem_of_getElem? (i := 671) (by decide +kernel), List.mem_of_getElem? (i := 672) (by decide +kernel)⟩
theorem lw_p24 : lw_okq (⟨"TinNation$Parser", "emit", "(I)V"⟩, 6) := ⟨⟨by decide +kernel, by decide +kernel⟩, List.mem_of_getElem? (i := 34) (by decide +kernel), List.mem_of_getElem? (i := 675) (by decide +kernel), List.mem_of_getElem? (i := 676) (by decide +kernel)⟩
theorem lw_p25 : lw_okq (⟨"TinNation$Parser", "bracket", "(I)V"⟩, 6) := ⟨⟨by decide +kernel, by decide +kernel⟩, List.mem_of_getElem? (i := 34) (by decide +kernel), List.mem_of_getElem? (i := 683) (by decide +kernel), List.mem_of_getElem? (i := 684) (by decide +kernel)⟩
theorem lw_p26 : lw_okq (⟨"TinNation$Parser", "expect", "(I)V"⟩, 6) := ⟨⟨by decide +kernel, by decide +kernel⟩, List.mem_of_getElem? (i := 34) (by decide +kernel), List.mem_of_getElem? (i := 687) (by decide +kernel), List.mem_of_getElem? (i := 688) (by decide +kernel)⟩
theorem lw_p27 : lw_okq (⟨"TinNation", "tinsOf", "(II)I"⟩, 13) := ⟨⟨by decide +kernel, by decide +kernel⟩, List.mem_of_getElem? (i := 26) (by decide +kernel), List.mem_of_getElem? (i := 738) (by decide +kernel), List.mem_of_getElem? (i := 739) (by decide +kernel)⟩
theorem lw_p28 : lw_okq (⟨"TinNation$Days", "openTold", "(LTinNation$State;)V"⟩, 5) := ⟨⟨by decide +kernel, by decide +kernel⟩, List.mem_of_getElem? (i := 257) (by decide +kernel), List.mem_of_getElem? (i := 850) (by decide +kernel), List.mem_of_getElem? (i := 851) (by decide +kernel)⟩
theorem lw_p29 : lw_okq (⟨"TinNation$Days", "serve", "(LTinNation$State;)V"⟩, 5) := ⟨⟨by decide +kernel, by decide +kernel⟩, List.mem_of_getElem? (i := 257) (by decide +kernel), List.mem_of_getElem? (i := 858) (by decide +kernel), List.mem_of_getElem? (i := 859) (by decide +kernel)⟩
theorem lw_p30 : lw_okq (⟨"TinNation$Days", "server", "(LTinNation$State;II)I"⟩, 5) := ⟨⟨by decide +kernel, by decide +kernel⟩, List.mem_of_getElem? (i := 257) (by decide +kernel), List.mem_of_getElem? (i := 862) (by decide +kernel), List.mem_of_getElem? (i := 863) (by decide +kernel)⟩
theorem lw_p31 : lw_okq (⟨"TinNation$Days", "goOff", "(LTinNation$State;)V"⟩, 5) := ⟨⟨by decide +kernel, by decide +kernel⟩, List.mem_of_getElem? (i := 257) (by decide +kernel), List.mem_of_getElem? (i := 867) (by decide +kernel), List.mem_of_getElem? (i := 868) (by decide +kernel)⟩
def lw_privs_2 : List (MethodName × Nat) := [(⟨"TinNation$Parser", "either", "(I)V"⟩, 6), (⟨"TinNation$Parser", "both", "(I)V"⟩, 6), (⟨"TinNation$Parser", "denied", "(I)V"⟩, 6), (⟨"TinNation$Parser", "knot", "()V"⟩, 6), (⟨"TinNation$Parser", "compared", "(I)V"⟩, 6), (⟨"TinNation$Parser", "sum", "(I)V"⟩, 6), (⟨"TinNation$Parser", "product", "(I)V"⟩, 6), (⟨"TinNation$Parser", "part", "(I)V"⟩, 6), (⟨"TinNation$Parser", "emit", "(I)V"⟩, 6), (⟨"TinNation$Parser", "bracket", "(I)V"⟩, 6), (⟨"TinNation$Parser", "expect", "(I)V"⟩, 6), (⟨"TinNation", "tinsOf", "(II)I"⟩, 13), (⟨"TinNation$Days", "openTold", "(LTinNation$State;)V"⟩, 5), (⟨"TinNation$Days", "serve", "(LTinNation$State;)V"⟩, 5), (⟨"TinNation$Days", "server", "(LTinNation$State;II)I"⟩, 5), (⟨"TinNation$Days", "goOff", "(LTinNation$State;)V"⟩, 5)]
theorem lw_r2 : ∀ q ∈ lw_privs_2, lw_okq q := List.forall_mem_cons.mpr ⟨lw_p16, List.forall_mem_cons.mpr ⟨lw_p17, List.forall_mem_cons.mpr ⟨lw_p18, List.forall_mem_cons.mpr ⟨lw_p19, List.forall_mem_cons.mpr ⟨lw_p20, List.forall_mem_cons.mpr ⟨lw_p21, List.forall_mem_cons.mpr ⟨lw_p22, List.forall_mem_cons.mpr ⟨lw_p23, List.forall_mem_cons.mpr ⟨lw_p24, List.forall_mem_cons.mpr ⟨lw_p25, List.forall_mem_cons.mpr ⟨lw_p26, List.forall_mem_cons.mpr ⟨lw_p27, List.forall_mem_cons.mpr ⟨lw_p28, List.forall_mem_cons.mpr ⟨lw_p29, List.forall_mem_cons.mpr ⟨lw_p30, List.forall_mem_cons.mpr ⟨lw_p31, fun _ h => absurd h List.not_mem_nil⟩⟩⟩⟩⟩⟩⟩⟩⟩⟩⟩⟩⟩⟩⟩⟩
theorem lw_p32 : lw_okq (⟨"TinNation$Days", "rust", "(LTinNation$State;)V"⟩, 5) := ⟨⟨by decide +kernel, by decide +kernel⟩, List.mem_of_getElem? (i := 257) (by decide +kernel), List.mem_of_getElem? (i := 871) (by decide +kernel), List.mem_of_getElem? (i := 872) (by decide +kernel)⟩
theorem lw_p33 : lw_okq (⟨"TinNation$Days", "rusts", "(LTinNation$State;I)Z"⟩, 5) := ⟨⟨by decide +kernel, by decide +kernel⟩, List.mem_of_getElem? (i := 257) (by decide +kernel), List.mem_of_getElem? (i := 876) (by decide +kernel), List.mem_of_getElem? (i := 877) (by decide +kernel)⟩
theorem lw_p34 : lw_okq (⟨"TinNation$Days", "blow", "(LTinNation$State;)V"⟩, 5) := ⟨⟨by decide +kernel, by decide +kernel⟩, List.mem_of_getElem? (i := 257) (by decide +kernel), List.mem_of_getElem? (i := 889) (by decide +kernel), List.mem_of_getElem? (i := 890) (by decide +kernel)⟩
theorem lw_p35 : lw_okq (⟨"TinNation", "firstClosed", "()I"⟩, 13) := ⟨⟨by decide +kernel, by decide +kernel⟩, List.mem_of_getElem? (i := 26) (by decide +kernel), List.mem_of_getElem? (i := 919) (by decide +kernel), List.mem_of_getElem? (i := 920) (by decide +kernel)⟩
theorem lw_p36 : lw_okq (⟨"TinNation", "gainedInRow", "(I)I"⟩, 13) := ⟨⟨by decide +kernel, by decide +kernel⟩, List.mem_of_getElem? (i := 26) (by decide +kernel), List.mem_of_getElem? (i := 923) (by decide +kernel), List.mem_of_getElem? (i := 924) (by decide +kernel)⟩
theorem lw_p37 : lw_okq (⟨"TinNation", "nextRow", "(I)Z"⟩, 13) := ⟨⟨by decide +kernel, by decide +kernel⟩, List.mem_of_getElem? (i := 26) (by decide +kernel), List.mem_of_getElem? (i := 936) (by decide +kernel), List.mem_of_getElem? (i := 937) (by decide +kernel)⟩
theorem lw_p38 : lw_okq (⟨"TinNation", "swapInRow", "(II)V"⟩, 13) := ⟨⟨by decide +kernel, by decide +kernel⟩, List.mem_of_getElem? (i := 26) (by decide +kernel), List.mem_of_getElem? (i := 941) (by decide +kernel), List.mem_of_getElem? (i := 942) (by decide +kernel)⟩
theorem lw_p39 : lw_okq (⟨"TinNation", "gainedByOpening", "(II)I"⟩, 13) := ⟨⟨by decide +kernel, by decide +kernel⟩, List.mem_of_getElem? (i := 26) (by decide +kernel), List.mem_of_getElem? (i := 949) (by decide +kernel), List.mem_of_getElem? (i := 950) (by decide +kernel)⟩
theorem lw_p40 : lw_okq (⟨"TinNation", "takenOut", "(II)I"⟩, 13) := ⟨⟨by decide +kernel, by decide +kernel⟩, List.mem_of_getElem? (i := 26) (by decide +kernel), List.mem_of_getElem? (i := 957) (by decide +kernel), List.mem_of_getElem? (i := 958) (by decide +kernel)⟩
theorem lw_p41 : lw_okq (⟨"TinNation", "isBelowLonger", "(I)Z"⟩, 13) := ⟨⟨by decide +kernel, by decide +kernel⟩, List.mem_of_getElem? (i := 26) (by decide +kernel), List.mem_of_getElem? (i := 961) (by decide +kernel), List.mem_of_getElem? (i := 962) (by decide +kernel)⟩
theorem lw_p42 : lw_okq (⟨"TinNation", "isSeenSo", "(I)Z"⟩, 13) := ⟨⟨by decide +kernel, by decide +kernel⟩, List.mem_of_getElem? (i := 26) (by decide +kernel), List.mem_of_getElem? (i := 1057) (by decide +kernel), List.mem_of_getElem? (i := 1058) (by decide +kernel)⟩
theorem lw_p43 : lw_okq (⟨"TinNation$Steps", "takeBackOfTin", "(LTinNation$State;II)V"⟩, 1) := ⟨⟨by decide +kernel, by decide +kernel⟩, List.mem_of_getElem? (i := 382) (by decide +kernel), List.mem_of_getElem? (i := 1093) (by decide +kernel), List.mem_of_getElem? (i := 1094) (by decide +kernel)⟩
theorem lw_p44 : lw_okq (⟨"java/lang/Throwable", "fillInStackTrace", "(I)Ljava/lang/Throwable;"⟩, 6) := ⟨⟨by decide +kernel, by decide +kernel⟩, List.mem_of_getElem? (i := 1157) (by decide +kernel), List.mem_of_getElem? (i := 1155) (by decide +kernel), List.mem_of_getElem? (i := 1156) (by decide +kernel)⟩
theorem lw_p45 : lw_okq (⟨"TinNationModel", "begins", "()V"⟩, 66) := ⟨⟨by decide +kernel, by decide +kernel⟩, List.mem_of_getElem? (i := 1202) (by decide +kernel), List.mem_of_getElem? (i := 1208) (by decide +kernel), List.mem_of_getElem? (i := 1209) (by decide +kernel)⟩
theorem lw_p46 : lw_okq (⟨"TinNationModel", "starts", "(I)V"⟩, 66) := ⟨⟨by decide +kernel, by decide +kernel⟩, List.mem_of_getElem? (i := 1202) (by decide +kernel), List.mem_of_getElem? (i := 1212) (by decide +kernel), List.mem_of_getElem? (i := 1213) (by decide +kernel)⟩
theorem lw_p47 : lw_okq (⟨"TinNationModel", "reads", "(II)V"⟩, 66) := ⟨⟨by decide +kernel, by decide +kernel⟩, List.mem_of_getElem? (i := 1202) (by decide +kernel), List.mem_of_getElem? (i := 1428) (by decide +kernel), List.mem_of_getElem? (i := 1429) (by decide +kernel)⟩
def lw_privs_3 : List (MethodName × Nat) := [(⟨"TinNation$Days", "rust", "(LTinNation$State;)V"⟩, 5), (⟨"TinNation$Days", "rusts", "(LTinNation$State;I)Z"⟩, 5), (⟨"TinNation$Days", "blow", "(LTinNation$State;)V"⟩, 5), (⟨"TinNation", "firstClosed", "()I"⟩, 13), (⟨"TinNation", "gainedInRow", "(I)I"⟩, 13), (⟨"TinNation", "nextRow", "(I)Z"⟩, 13), (⟨"TinNation", "swapInRow", "(II)V"⟩, 13), (⟨"TinNation", "gainedByOpening", "(II)I"⟩, 13), (⟨"TinNation", "takenOut", "(II)I"⟩, 13), (⟨"TinNation", "isBelowLonger", "(I)Z"⟩, 13), (⟨"TinNation", "isSeenSo", "(I)Z"⟩, 13), (⟨"TinNation$Steps", "takeBackOfTin", "(LTinNation$State;II)V"⟩, 1), (⟨"java/lang/Throwable", "fillInStackTrace", "(I)Ljava/lang/Throwable;"⟩, 6), (⟨"TinNationModel", "begins", "()V"⟩, 66), (⟨"TinNationModel", "starts", "(I)V"⟩, 66), (⟨"TinNationModel", "reads", "(II)V"⟩, 66)]
theorem lw_r3 : ∀ q ∈ lw_privs_3, lw_okq q := List.forall_mem_cons.mpr ⟨lw_p32, List.forall_mem_cons.mpr ⟨lw_p33, List.forall_mem_cons.mpr ⟨lw_p34, List.forall_mem_cons.mpr ⟨lw_p35, List.forall_mem_cons.mpr ⟨lw_p36, List.forall_mem_cons.mpr ⟨lw_p37, List.forall_mem_cons.mpr ⟨lw_p38, List.forall_mem_cons.mpr ⟨lw_p39, List.forall_mem_cons.mpr ⟨lw_p40, List.forall_mem_cons.mpr ⟨lw_p41, List.forall_mem_cons.mpr ⟨lw_p42, List.forall_mem_cons.mpr ⟨lw_p43, List.forall_mem_cons.mpr ⟨lw_p44, List.forall_mem_cons.mpr ⟨lw_p45, List.forall_mem_cons.mpr ⟨lw_p46, List.forall_mem_cons.mpr ⟨lw_p47, fun _ h => absurd h List.not_mem_nil⟩⟩⟩⟩⟩⟩⟩⟩⟩⟩⟩⟩⟩⟩⟩⟩
theorem lw_p48 : lw_okq (⟨"TinNationModel", "token", "()V"⟩, 66) := ⟨⟨by decide +kernel, by decide +kernel⟩, List.mem_of_getElem? (i := 1202) (by decide +kernel), List.mem_of_getElem? (i := 1432) (by decide +kernel), List.mem_of_getElem? (i := 1433) (by decide +kernel)⟩
theorem lw_p49 : lw_okq (⟨"TinNationModel", "here", "()I"⟩, 66) := ⟨⟨by decide +kernel, by decide +kernel⟩, List.mem_of_getElem? (i := 1202) (by decide +kernel), List.mem_of_getElem? (i := 1436) (by decide +kernel), List.mem_of_getElem? (i := 1437) (by decide +kernel)⟩
theorem lw_p50 : lw_okq (⟨"TinNationModel", "word", "()I"⟩, 66) := ⟨⟨by decide +kernel, by decide +kernel⟩, List.mem_of_getElem? (i := 1202) (by decide +kernel), List.mem_of_getElem? (i := 1443) (by decide +kernel), List.mem_of_getElem? (i := 1444) (by decide +kernel)⟩
theorem lw_p51 : lw_okq (⟨"TinNationModel", "name", "()V"⟩, 66) := ⟨⟨by decide +kernel, by decide +kernel⟩, List.mem_of_getElem? (i := 1202) (by decide +kernel), List.mem_of_getElem? (i := 1450) (by decide +kernel), List.mem_of_getElem? (i := 1451) (by decide +kernel)⟩
theorem lw_p52 : lw_okq (⟨"TinNationModel", "sign", "(I)V"⟩, 66) := ⟨⟨by decide +kernel, by decide +kernel⟩, List.mem_of_getElem? (i := 1202) (by decide +kernel), List.mem_of_getElem? (i := 1458) (by decide +kernel), List.mem_of_getElem? (i := 1459) (by decide +kernel)⟩
theorem lw_p53 : lw_okq (⟨"TinNationModel", "line", "()V"⟩, 66) := ⟨⟨by decide +kernel, by decide +kernel⟩, List.mem_of_getElem? (i := 1202) (by decide +kernel), List.mem_of_getElem? (i := 1462) (by decide +kernel), List.mem_of_getElem? (i := 1463) (by decide +kernel)⟩
theorem lw_p54 : lw_okq (⟨"TinNationModel", "wrong", "(I)V"⟩, 66) := ⟨⟨by decide +kernel, by decide +kernel⟩, List.mem_of_getElem? (i := 1202) (by decide +kernel), List.mem_of_getElem? (i := 1466) (by decide +kernel), List.mem_of_getElem? (i := 1467) (by decide +kernel)⟩
theorem lw_p55 : lw_okq (⟨"TinNationModel", "isFull", "(I)Z"⟩, 66) := ⟨⟨by decide +kernel, by decide +kernel⟩, List.mem_of_getElem? (i := 1202) (by decide +kernel), List.mem_of_getElem? (i := 1470) (by decide +kernel), List.mem_of_getElem? (i := 1471) (by decide +kernel)⟩
theorem lw_p56 : lw_okq (⟨"TinNationModel", "fresher", "(I)I"⟩, 66) := ⟨⟨by decide +kernel, by decide +kernel⟩, List.mem_of_getElem? (i := 1202) (by decide +kernel), List.mem_of_getElem? (i := 1474) (by decide +kernel), List.mem_of_getElem? (i := 1475) (by decide +kernel)⟩
theorem lw_p57 : lw_okq (⟨"TinNationModel", "fresh", "([III)I"⟩, 66) := ⟨⟨by decide +kernel, by decide +kernel⟩, List.mem_of_getElem? (i := 1202) (by decide +kernel), List.mem_of_getElem? (i := 1478) (by decide +kernel), List.mem_of_getElem? (i := 1479) (by decide +kernel)⟩
theorem lw_p58 : lw_okq (⟨"TinNationModel", "numeral", "(II)I"⟩, 66) := ⟨⟨by decide +kernel, by decide +kernel⟩, List.mem_of_getElem? (i := 1202) (by decide +kernel), List.mem_of_getElem? (i := 1485) (by decide +kernel), List.mem_of_getElem? (i := 1486) (by decide +kernel)⟩
theorem lw_p59 : lw_okq (⟨"TinNationModel", "toldAhead", "([III)I"⟩, 66) := ⟨⟨by decide +kernel, by decide +kernel⟩, List.mem_of_getElem? (i := 1202) (by decide +kernel), List.mem_of_getElem? (i := 1489) (by decide +kernel), List.mem_of_getElem? (i := 1490) (by decide +kernel)⟩
theorem lw_p60 : lw_okq (⟨"TinNationModel", "goOn", "()V"⟩, 66) := ⟨⟨by decide +kernel, by decide +kernel⟩, List.mem_of_getElem? (i := 1202) (by decide +kernel), List.mem_of_getElem? (i := 1493) (by decide +kernel), List.mem_of_getElem? (i := 1494) (by decide +kernel)⟩
theorem lw_p61 : lw_okq (⟨"TinNationModel", "lawLine", "()V"⟩, 66) := ⟨⟨by decide +kernel, by decide +kernel⟩, List.mem_of_getElem? (i := 1202) (by decide +kernel), List.mem_of_getElem? (i := 1497) (by decide +kernel), List.mem_of_getElem? (i := 1498) (by decide +kernel)⟩
theorem lw_p62 : lw_okq (⟨"TinNationModel", "expression", "()V"⟩, 66) := ⟨⟨by decide +kernel, by decide +kernel⟩, List.mem_of_getElem? (i := 1202) (by decide +kernel), List.mem_of_getElem? (i := 1501) (by decide +kernel), List.mem_of_getElem? (i := 1502) (by decide +kernel)⟩
theorem lw_p63 : lw_okq (⟨"TinNationModel", "conjunction", "()V"⟩, 66) := ⟨⟨by decide +kernel, by decide +kernel⟩, List.mem_of_getElem? (i := 1202) (by decide +kernel), List.mem_of_getElem? (i := 1505) (by decide +kernel), List.mem_of_getElem? (i := 1506) (by decide +kernel)⟩
def lw_privs_4 : List (MethodName × Nat) := [(⟨"TinNationModel", "token", "()V"⟩, 66), (⟨"TinNationModel", "here", "()I"⟩, 66), (⟨"TinNationModel", "word", "()I"⟩, 66), (⟨"TinNationModel", "name", "()V"⟩, 66), (⟨"TinNationModel", "sign", "(I)V"⟩, 66), (⟨"TinNationModel", "line", "()V"⟩, 66), (⟨"TinNationModel", "wrong", "(I)V"⟩, 66), (⟨"TinNationModel", "isFull", "(I)Z"⟩, 66), (⟨"TinNationModel", "fresher", "(I)I"⟩, 66), (⟨"TinNationModel", "fresh", "([III)I"⟩, 66), (⟨"TinNationModel", "numeral", "(II)I"⟩, 66), (⟨"TinNationModel", "toldAhead", "([III)I"⟩, 66), (⟨"TinNationModel", "goOn", "()V"⟩, 66), (⟨"TinNationModel", "lawLine", "()V"⟩, 66), (⟨"TinNationModel", "expression", "()V"⟩, 66), (⟨"TinNationModel", "conjunction", "()V"⟩, 66)]
theorem lw_r4 : ∀ q ∈ lw_privs_4, lw_okq q := List.forall_mem_cons.mpr ⟨lw_p48, List.forall_mem_cons.mpr ⟨lw_p49, List.forall_mem_cons.mpr ⟨lw_p50, List.forall_mem_cons.mpr ⟨lw_p51, List.forall_mem_cons.mpr ⟨lw_p52, List.forall_mem_cons.mpr ⟨lw_p53, List.forall_mem_cons.mpr ⟨lw_p54, List.forall_mem_cons.mpr ⟨lw_p55, List.forall_mem_cons.mpr ⟨lw_p56, List.forall_mem_cons.mpr ⟨lw_p57, List.forall_mem_cons.mpr ⟨lw_p58, List.forall_mem_cons.mpr ⟨lw_p59, List.forall_mem_cons.mpr ⟨lw_p60, List.forall_mem_cons.mpr ⟨lw_p61, List.forall_mem_cons.mpr ⟨lw_p62, List.forall_mem_cons.mpr ⟨lw_p63, fun _ h => absurd h List.not_mem_nil⟩⟩⟩⟩⟩⟩⟩⟩⟩⟩⟩⟩⟩⟩⟩⟩
theorem lw_p64 : lw_okq (⟨"TinNationModel", "negation", "()V"⟩, 66) := ⟨⟨by decide +kernel, by decide +kernel⟩, List.mem_of_getElem? (i := 1202) (by decide +kernel), List.mem_of_getElem? (i := 1509) (by decide +kernel), List.mem_of_getElem? (i := 1510) (by decide +kernel)⟩
theorem lw_p65 : lw_okq (⟨"TinNationModel", "isWord", "(I)Z"⟩, 66) := ⟨⟨by decide +kernel, by decide +kernel⟩, List.mem_of_getElem? (i := 1202) (by decide +kernel), List.mem_of_getElem? (i := 1513) (by decide +kernel), List.mem_of_getElem? (i := 1514) (by decide +kernel)⟩
theorem lw_p66 : lw_okq (⟨"TinNationModel", "knot", "()V"⟩, 66) := ⟨⟨by decide +kernel, by decide +kernel⟩, List.mem_of_getElem? (i := 1202) (by decide +kernel), List.mem_of_getElem? (i := 1517) (by decide +kernel), List.mem_of_getElem? (i := 1518) (by decide +kernel)⟩
theorem lw_p67 : lw_okq (⟨"TinNationModel", "puts", "(II)V"⟩, 66) := ⟨⟨by decide +kernel, by decide +kernel⟩, List.mem_of_getElem? (i := 1202) (by decide +kernel), List.mem_of_getElem? (i := 1521) (by decide +kernel), List.mem_of_getElem? (i := 1522) (by decide +kernel)⟩
theorem lw_p68 : lw_okq (⟨"TinNationModel", "sum", "()V"⟩, 66) := ⟨⟨by decide +kernel, by decide +kernel⟩, List.mem_of_getElem? (i := 1202) (by decide +kernel), List.mem_of_getElem? (i := 1525) (by decide +kernel), List.mem_of_getElem? (i := 1526) (by decide +kernel)⟩
theorem lw_p69 : lw_okq (⟨"TinNationModel", "product", "()V"⟩, 66) := ⟨⟨by decide +kernel, by decide +kernel⟩, List.mem_of_getElem? (i := 1202) (by decide +kernel), List.mem_of_getElem? (i := 1529) (by decide +kernel), List.mem_of_getElem? (i := 1530) (by decide +kernel)⟩
theorem lw_p70 : lw_okq (⟨"TinNationModel", "primary", "()V"⟩, 66) := ⟨⟨by decide +kernel, by decide +kernel⟩, List.mem_of_getElem? (i := 1202) (by decide +kernel), List.mem_of_getElem? (i := 1533) (by decide +kernel), List.mem_of_getElem? (i := 1534) (by decide +kernel)⟩
theorem lw_p71 : lw_okq (⟨"TinNationModel", "isSign", "(I)Z"⟩, 66) := ⟨⟨by decide +kernel, by decide +kernel⟩, List.mem_of_getElem? (i := 1202) (by decide +kernel), List.mem_of_getElem? (i := 1537) (by decide +kernel), List.mem_of_getElem? (i := 1538) (by decide +kernel)⟩
theorem lw_p72 : lw_okq (⟨"TinNationModel", "isTin", "(I)Z"⟩, 66) := ⟨⟨by decide +kernel, by decide +kernel⟩, List.mem_of_getElem? (i := 1202) (by decide +kernel), List.mem_of_getElem? (i := 1556) (by decide +kernel), List.mem_of_getElem? (i := 1557) (by decide +kernel)⟩
theorem lw_p73 : lw_okq (⟨"TinNationModel", "isKind", "(I)Z"⟩, 66) := ⟨⟨by decide +kernel, by decide +kernel⟩, List.mem_of_getElem? (i := 1202) (by decide +kernel), List.mem_of_getElem? (i := 1564) (by decide +kernel), List.mem_of_getElem? (i := 1565) (by decide +kernel)⟩
theorem lw_p74 : lw_okq (⟨"TinNationModel", "setOf", "(II)I"⟩, 66) := ⟨⟨by decide +kernel, by decide +kernel⟩, List.mem_of_getElem? (i := 1202) (by decide +kernel), List.mem_of_getElem? (i := 1568) (by decide +kernel), List.mem_of_getElem? (i := 1569) (by decide +kernel)⟩
theorem lw_p75 : lw_okq (⟨"TinNationModel", "isOnTop", "(II)Z"⟩, 66) := ⟨⟨by decide +kernel, by decide +kernel⟩, List.mem_of_getElem? (i := 1202) (by decide +kernel), List.mem_of_getElem? (i := 1583) (by decide +kernel), List.mem_of_getElem? (i := 1584) (by decide +kernel)⟩
theorem lw_p76 : lw_okq (⟨"TinNationModel", "isClosed", "(II)Z"⟩, 66) := ⟨⟨by decide +kernel, by decide +kernel⟩, List.mem_of_getElem? (i := 1202) (by decide +kernel), List.mem_of_getElem? (i := 1587) (by decide +kernel), List.mem_of_getElem? (i := 1588) (by decide +kernel)⟩
theorem lw_p77 : lw_okq (⟨"TinNationModel", "aboveOf", "(II)I"⟩, 66) := ⟨⟨by decide +kernel, by decide +kernel⟩, List.mem_of_getElem? (i := 1202) (by decide +kernel), List.mem_of_getElem? (i := 1591) (by decide +kernel), List.mem_of_getElem? (i := 1592) (by decide +kernel)⟩
theorem lw_p78 : lw_okq (⟨"TinNationModel", "hasLaw", "(I)Z"⟩, 66) := ⟨⟨by decide +kernel, by decide +kernel⟩, List.mem_of_getElem? (i := 1202) (by decide +kernel), List.mem_of_getElem? (i := 1599) (by decide +kernel), List.mem_of_getElem? (i := 1600) (by decide +kernel)⟩
theorem lw_p79 : lw_okq (⟨"TinNationModel", "calls", "(III)V"⟩, 66) := ⟨⟨by decide +kernel, by decide +kernel⟩, List.mem_of_getElem? (i := 1202) (by decide +kernel), List.mem_of_getElem? (i := 1604) (by decide +kernel), List.mem_of_getElem? (i := 1605) (by decide +kernel)⟩
def lw_privs_5 : List (MethodName × Nat) := [(⟨"TinNationModel", "negation", "()V"⟩, 66), (⟨"TinNationModel", "isWord", "(I)Z"⟩, 66), (⟨"TinNationModel", "knot", "()V"⟩, 66), (⟨"TinNationModel", "puts", "(II)V"⟩, 66), (⟨"TinNationModel", "sum", "()V"⟩, 66), (⟨"TinNationModel", "product", "()V"⟩, 66), (⟨"TinNationModel", "primary", "()V"⟩, 66), (⟨"TinNationModel", "isSign", "(I)Z"⟩, 66), (⟨"TinNationModel", "isTin", "(I)Z"⟩, 66), (⟨"TinNationModel", "isKind", "(I)Z"⟩, 66), (⟨"TinNationModel", "setOf", "(II)I"⟩, 66), (⟨"TinNationModel", "isOnTop", "(II)Z"⟩, 66), (⟨"TinNationModel", "isClosed", "(II)Z"⟩, 66), (⟨"TinNationModel", "aboveOf", "(II)I"⟩, 66), (⟨"TinNationModel", "hasLaw", "(I)Z"⟩, 66), (⟨"TinNationModel", "calls", "(III)V"⟩, 66)]
theorem lw_r5 : ∀ q ∈ lw_privs_5, lw_okq q := List.forall_mem_cons.mpr ⟨lw_p64, List.forall_mem_cons.mpr ⟨lw_p65, List.forall_mem_cons.mpr ⟨lw_p66, List.forall_mem_cons.mpr ⟨lw_p67, List.forall_mem_cons.mpr ⟨lw_p68, List.forall_mem_cons.mpr ⟨lw_p69, List.forall_mem_cons.mpr ⟨lw_p70, List.forall_mem_cons.mpr ⟨lw_p71, List.forall_mem_cons.mpr ⟨lw_p72, List.forall_mem_cons.mpr ⟨lw_p73, List.forall_mem_cons.mpr ⟨lw_p74, List.forall_mem_cons.mpr ⟨lw_p75, List.forall_mem_cons.mpr ⟨lw_p76, List.forall_mem_cons.mpr ⟨lw_p77, List.forall_mem_cons.mpr ⟨lw_p78, List.forall_mem_cons.mpr ⟨lw_p79, fun _ h => absurd h List.not_mem_nil⟩⟩⟩⟩⟩⟩⟩⟩⟩⟩⟩⟩⟩⟩⟩⟩
theorem lw_p80 : lw_okq (⟨"TinNationModel", "goes", "(I)Z"⟩, 66) := ⟨⟨by decide +kernel, by decide +kernel⟩, List.mem_of_getElem? (i := 1202) (by decide +kernel), List.mem_of_getElem? (i := 1608) (by decide +kernel), List.mem_of_getElem? (i := 1609) (by decide +kernel)⟩
theorem lw_p81 : lw_okq (⟨"TinNationModel", "works", "(I)Z"⟩, 66) := ⟨⟨by decide +kernel, by decide +kernel⟩, List.mem_of_getElem? (i := 1202) (by decide +kernel), List.mem_of_getElem? (i := 1612) (by decide +kernel), List.mem_of_getElem? (i := 1613) (by decide +kernel)⟩
theorem lw_p82 : lw_okq (⟨"TinNationModel", "keepNow", "()V"⟩, 66) := ⟨⟨by decide +kernel, by decide +kernel⟩, List.mem_of_getElem? (i := 1202) (by decide +kernel), List.mem_of_getElem? (i := 1628) (by decide +kernel), List.mem_of_getElem? (i := 1629) (by decide +kernel)⟩
theorem lw_p83 : lw_okq (⟨"TinNationModel", "copies", "(II)V"⟩, 66) := ⟨⟨by decide +kernel, by decide +kernel⟩, List.mem_of_getElem? (i := 1202) (by decide +kernel), List.mem_of_getElem? (i := 1632) (by decide +kernel), List.mem_of_getElem? (i := 1633) (by decide +kernel)⟩
theorem lw_p84 : lw_okq (⟨"TinNationModel", "opens", "(II)V"⟩, 66) := ⟨⟨by decide +kernel, by decide +kernel⟩, List.mem_of_getElem? (i := 1202) (by decide +kernel), List.mem_of_getElem? (i := 1636) (by decide +kernel), List.mem_of_getElem? (i := 1637) (by decide +kernel)⟩
theorem lw_p85 : lw_okq (⟨"TinNationModel", "within", "(IIII)I"⟩, 66) := ⟨⟨by decide +kernel, by decide +kernel⟩, List.mem_of_getElem? (i := 1202) (by decide +kernel), List.mem_of_getElem? (i := 1640) (by decide +kernel), List.mem_of_getElem? (i := 1641) (by decide +kernel)⟩
theorem lw_p86 : lw_okq (⟨"TinNationModel", "passes", "(IZ)V"⟩, 66) := ⟨⟨by decide +kernel, by decide +kernel⟩, List.mem_of_getElem? (i := 1202) (by decide +kernel), List.mem_of_getElem? (i := 1662) (by decide +kernel), List.mem_of_getElem? (i := 1663) (by decide +kernel)⟩
theorem lw_p87 : lw_okq (⟨"TinNationModel", "opensTold", "(II)V"⟩, 66) := ⟨⟨by decide +kernel, by decide +kernel⟩, List.mem_of_getElem? (i := 1202) (by decide +kernel), List.mem_of_getElem? (i := 1666) (by decide +kernel), List.mem_of_getElem? (i := 1667) (by decide +kernel)⟩
theorem lw_p88 : lw_okq (⟨"TinNationModel", "serves", "(III)I"⟩, 66) := ⟨⟨by decide +kernel, by decide +kernel⟩, List.mem_of_getElem? (i := 1202) (by decide +kernel), List.mem_of_getElem? (i := 1670) (by decide +kernel), List.mem_of_getElem? (i := 1671) (by decide +kernel)⟩
theorem lw_p89 : lw_okq (⟨"TinNationModel", "doesRust", "(IIZ)Z"⟩, 66) := ⟨⟨by decide +kernel, by decide +kernel⟩, List.mem_of_getElem? (i := 1202) (by decide +kernel), List.mem_of_getElem? (i := 1674) (by decide +kernel), List.mem_of_getElem? (i := 1675) (by decide +kernel)⟩
theorem lw_p90 : lw_okq (⟨"TinNationModel", "runs", "(I)V"⟩, 66) := ⟨⟨by decide +kernel, by decide +kernel⟩, List.mem_of_getElem? (i := 1202) (by decide +kernel), List.mem_of_getElem? (i := 1685) (by decide +kernel), List.mem_of_getElem? (i := 1686) (by decide +kernel)⟩
theorem lw_p91 : lw_okq (⟨"TinNationModel", "goesOn", "(I)V"⟩, 66) := ⟨⟨by decide +kernel, by decide +kernel⟩, List.mem_of_getElem? (i := 1202) (by decide +kernel), List.mem_of_getElem? (i := 1689) (by decide +kernel), List.mem_of_getElem? (i := 1690) (by decide +kernel)⟩
theorem lw_p92 : lw_okq (⟨"TinNationModel", "wantsOf", "(II)I"⟩, 66) := ⟨⟨by decide +kernel, by decide +kernel⟩, List.mem_of_getElem? (i := 1202) (by decide +kernel), List.mem_of_getElem? (i := 1693) (by decide +kernel), List.mem_of_getElem? (i := 1694) (by decide +kernel)⟩
theorem lw_p93 : lw_okq (⟨"TinNationModel", "tinsOf", "(II)I"⟩, 66) := ⟨⟨by decide +kernel, by decide +kernel⟩, List.mem_of_getElem? (i := 1202) (by decide +kernel), List.mem_of_getElem? (i := 1697) (by decide +kernel), List.mem_of_getElem? (i := 1698) (by decide +kernel)⟩
theorem lw_p94 : lw_okq (⟨"TinNationModel", "rows", "(II)V"⟩, 66) := ⟨⟨by decide +kernel, by decide +kernel⟩, List.mem_of_getElem? (i := 1202) (by decide +kernel), List.mem_of_getElem? (i := 1713) (by decide +kernel), List.mem_of_getElem? (i := 1714) (by decide +kernel)⟩
theorem lw_p95 : lw_okq (⟨"TinNationModel", "isTidy", "(II)Z"⟩, 66) := ⟨⟨by decide +kernel, by decide +kernel⟩, List.mem_of_getElem? (i := 1202) (by decide +kernel), List.mem_of_getElem? (i := 1728) (by decide +kernel), List.mem_of_getElem? (i := 1729) (by decide +kernel)⟩
def lw_privs_6 : List (MethodName × Nat) := [(⟨"TinNationModel", "goes", "(I)Z"⟩, 66), (⟨"TinNationModel", "works", "(I)Z"⟩, 66), (⟨"TinNationModel", "keepNow", "()V"⟩, 66), (⟨"TinNationModel", "copies", "(II)V"⟩, 66), (⟨"TinNationModel", "opens", "(II)V"⟩, 66), (⟨"TinNationModel", "within", "(IIII)I"⟩, 66), (⟨"TinNationModel", "passes", "(IZ)V"⟩, 66), (⟨"TinNationModel", "opensTold", "(II)V"⟩, 66), (⟨"TinNationModel", "serves", "(III)I"⟩, 66), (⟨"TinNationModel", "doesRust", "(IIZ)Z"⟩, 66), (⟨"TinNationModel", "runs", "(I)V"⟩, 66), (⟨"TinNationModel", "goesOn", "(I)V"⟩, 66), (⟨"TinNationModel", "wantsOf", "(II)I"⟩, 66), (⟨"TinNationModel", "tinsOf", "(II)I"⟩, 66), (⟨"TinNationModel", "rows", "(II)V"⟩, 66), (⟨"TinNationModel", "isTidy", "(II)Z"⟩, 66)]
theorem lw_r6 : ∀ q ∈ lw_privs_6, lw_okq q := List.forall_mem_cons.mpr ⟨lw_p80, List.forall_mem_cons.mpr ⟨lw_p81, List.forall_mem_cons.mpr ⟨lw_p82, List.forall_mem_cons.mpr ⟨lw_p83, List.forall_mem_cons.mpr ⟨lw_p84, List.forall_mem_cons.mpr ⟨lw_p85, List.forall_mem_cons.mpr ⟨lw_p86, List.forall_mem_cons.mpr ⟨lw_p87, List.forall_mem_cons.mpr ⟨lw_p88, List.forall_mem_cons.mpr ⟨lw_p89, List.forall_mem_cons.mpr ⟨lw_p90, List.forall_mem_cons.mpr ⟨lw_p91, List.forall_mem_cons.mpr ⟨lw_p92, List.forall_mem_cons.mpr ⟨lw_p93, List.forall_mem_cons.mpr ⟨lw_p94, List.forall_mem_cons.mpr ⟨lw_p95, fun _ h => absurd h List.not_mem_nil⟩⟩⟩⟩⟩⟩⟩⟩⟩⟩⟩⟩⟩⟩⟩⟩
theorem lw_p96 : lw_okq (⟨"TinNationModel", "isOpen", "(I)Z"⟩, 66) := ⟨⟨by decide +kernel, by decide +kernel⟩, List.mem_of_getElem? (i := 1202) (by decide +kernel), List.mem_of_getElem? (i := 1736) (by decide +kernel), List.mem_of_getElem? (i := 1737) (by decide +kernel)⟩
theorem lw_p97 : lw_okq (⟨"TinNationModel", "noted", "(IIIZ)I"⟩, 66) := ⟨⟨by decide +kernel, by decide +kernel⟩, List.mem_of_getElem? (i := 1202) (by decide +kernel), List.mem_of_getElem? (i := 1770) (by decide +kernel), List.mem_of_getElem? (i := 1771) (by decide +kernel)⟩
theorem lw_p98 : lw_okq (⟨"TinNationModel", "whichOnes", "()I"⟩, 66) := ⟨⟨by decide +kernel, by decide +kernel⟩, List.mem_of_getElem? (i := 1202) (by decide +kernel), List.mem_of_getElem? (i := 1790) (by decide +kernel), List.mem_of_getElem? (i := 1791) (by decide +kernel)⟩
theorem lw_p99 : lw_okq (⟨"TinNationModel", "strikes", "()V"⟩, 66) := ⟨⟨by decide +kernel, by decide +kernel⟩, List.mem_of_getElem? (i := 1202) (by decide +kernel), List.mem_of_getElem? (i := 1794) (by decide +kernel), List.mem_of_getElem? (i := 1795) (by decide +kernel)⟩
theorem lw_p100 : lw_okq (⟨"TinNationModel", "knownMany", "()I"⟩, 66) := ⟨⟨by decide +kernel, by decide +kernel⟩, List.mem_of_getElem? (i := 1202) (by decide +kernel), List.mem_of_getElem? (i := 1798) (by decide +kernel), List.mem_of_getElem? (i := 1799) (by decide +kernel)⟩
theorem lw_p101 : lw_okq (⟨"TinNationModel", "isNoted", "(I)Z"⟩, 66) := ⟨⟨by decide +kernel, by decide +kernel⟩, List.mem_of_getElem? (i := 1202) (by decide +kernel), List.mem_of_getElem? (i := 1802) (by decide +kernel), List.mem_of_getElem? (i := 1803) (by decide +kernel)⟩
theorem lw_p102 : lw_okq (⟨"TinNationModel", "fitsDents", "(III)Z"⟩, 66) := ⟨⟨by decide +kernel, by decide +kernel⟩, List.mem_of_getElem? (i := 1202) (by decide +kernel), List.mem_of_getElem? (i := 1815) (by decide +kernel), List.mem_of_getElem? (i := 1816) (by decide +kernel)⟩
theorem lw_p103 : lw_okq (⟨"TinNationModel", "isSo", "(I)Z"⟩, 66) := ⟨⟨by decide +kernel, by decide +kernel⟩, List.mem_of_getElem? (i := 1202) (by decide +kernel), List.mem_of_getElem? (i := 1819) (by decide +kernel), List.mem_of_getElem? (i := 1820) (by decide +kernel)⟩
def lw_privs_7 : List (MethodName × Nat) := [(⟨"TinNationModel", "isOpen", "(I)Z"⟩, 66), (⟨"TinNationModel", "noted", "(IIIZ)I"⟩, 66), (⟨"TinNationModel", "whichOnes", "()I"⟩, 66), (⟨"TinNationModel", "strikes", "()V"⟩, 66), (⟨"TinNationModel", "knownMany", "()I"⟩, 66), (⟨"TinNationModel", "isNoted", "(I)Z"⟩, 66), (⟨"TinNationModel", "fitsDents", "(III)Z"⟩, 66), (⟨"TinNationModel", "isSo", "(I)Z"⟩, 66)]
theorem lw_r7 : ∀ q ∈ lw_privs_7, lw_okq q := List.forall_mem_cons.mpr ⟨lw_p96, List.forall_mem_cons.mpr ⟨lw_p97, List.forall_mem_cons.mpr ⟨lw_p98, List.forall_mem_cons.mpr ⟨lw_p99, List.forall_mem_cons.mpr ⟨lw_p100, List.forall_mem_cons.mpr ⟨lw_p101, List.forall_mem_cons.mpr ⟨lw_p102, List.forall_mem_cons.mpr ⟨lw_p103, fun _ h => absurd h List.not_mem_nil⟩⟩⟩⟩⟩⟩⟩⟩
def lw_privs : List (MethodName × Nat) := lw_privs_1 ++ (lw_privs_2 ++ (lw_privs_3 ++ (lw_privs_4 ++ (lw_privs_5 ++ (lw_privs_6 ++ (lw_privs_7))))))
def lw_tbl : List Cond := k2_sels lw_privs ++ tables_1
theorem lw_privs_ok : ∀ q ∈ lw_privs, lw_okq q := by
  show ∀ q ∈ lw_privs_1 ++ (lw_privs_2 ++ (lw_privs_3 ++ (lw_privs_4 ++ (lw_privs_5 ++ (lw_privs_6 ++ (lw_privs_7)))))), lw_okq q
  exact List.forall_mem_append.mpr ⟨lw_r1, List.forall_mem_append.mpr ⟨lw_r2, List.forall_mem_append.mpr ⟨lw_r3, List.forall_mem_append.mpr ⟨lw_r4, List.forall_mem_append.mpr ⟨lw_r5, List.forall_mem_append.mpr ⟨lw_r6, lw_r7⟩⟩⟩⟩⟩⟩
-- ===== end of PART A; then your names; then what follows =====
def RX0 : String := "TinNation$Days"
def TX0 : u_T := fun k => match k with
  | 0 => ("TinNation$Days", "plan", "LTinNation$Plan;", true)
  | 1 => ("TinNation$Days", "names", "[I", true)
  | 2 => ("TinNation$Days", "isDrawn", "Z", false)
  | 3 => ("TinNation$Days", "way", "I", false)
  | _ => ("TinNation$Days", "spared", "I", false)
def tyX0 : Nat → FieldType := fun k => match k with
  | 0 => .object "TinNation$Plan"
  | 1 => .array .int
  | 2 => .boolean
  | 3 => .int
  | _ => .int
abbrev wsX00 : List Cond := u_ws RX0 TX0 5
theorem nmX0 : ∀ a, a < 5 → ∀ b, b < 5 → a ≠ b → (TX0 a).2.1 ≠ (TX0 b).2.1 := by decide +kernel
theorem tyX0_ok : ∀ k, k < 5 → parseFieldDescriptor (TX0 k).2.2.1 = some (tyX0 k) := by decide +kernel
abbrev cX0_init : ByteArray := prog_2_method_1_code
def yX0_init : MethodName := ⟨RX0, "<init>", "(LTinNation$Plan;)V"⟩
abbrev cX0_byNumbers : ByteArray := prog_2_method_2_code
def yX0_byNumbers : MethodName := ⟨RX0, "byNumbers", "()V"⟩
abbrev cX0_asItGoes : ByteArray := prog_2_method_3_code
def yX0_asItGoes : MethodName := ⟨RX0, "asItGoes", "()V"⟩
abbrev cX0_otherwise : ByteArray := prog_2_method_4_code
def yX0_otherwise : MethodName := ⟨RX0, "otherwise", "(II)V"⟩
abbrev cX0_mayBringGlory : ByteArray := prog_2_method_5_code
def yX0_mayBringGlory : MethodName := ⟨RX0, "mayBringGlory", "(LTinNation$State;)Z"⟩
abbrev cX0_pass : ByteArray := prog_2_method_6_code
def yX0_pass : MethodName := ⟨RX0, "pass", "(LTinNation$State;)V"⟩
abbrev cX0_openTold : ByteArray := prog_2_method_7_code
def yX0_openTold : MethodName := ⟨RX0, "openTold", "(LTinNation$State;)V"⟩
abbrev cX0_unseal : ByteArray := prog_2_method_8_code
def yX0_unseal : MethodName := ⟨RX0, "unseal", "(LTinNation$State;I)V"⟩
abbrev cX0_unsealAnyway : ByteArray := prog_2_method_9_code
def yX0_unsealAnyway : MethodName := ⟨RX0, "unsealAnyway", "(LTinNation$State;I)V"⟩
abbrev cX0_serve : ByteArray := prog_2_method_10_code
def yX0_serve : MethodName := ⟨RX0, "serve", "(LTinNation$State;)V"⟩
abbrev cX0_server : ByteArray := prog_2_method_11_code
def yX0_server : MethodName := ⟨RX0, "server", "(LTinNation$State;II)I"⟩
abbrev cX0_goOff : ByteArray := prog_2_method_12_code
def yX0_goOff : MethodName := ⟨RX0, "goOff", "(LTinNation$State;)V"⟩
abbrev cX0_rust : ByteArray := prog_2_method_13_code
def yX0_rust : MethodName := ⟨RX0, "rust", "(LTinNation$State;)V"⟩
abbrev cX0_rusts : ByteArray := prog_2_method_14_code
def yX0_rusts : MethodName := ⟨RX0, "rusts", "(LTinNation$State;I)Z"⟩
abbrev cX0_blow : ByteArray := prog_2_method_15_code
def yX0_blow : MethodName := ⟨RX0, "blow", "(LTinNation$State;)V"⟩
abbrev cX0_namesOf : ByteArray := prog_2_method_16_code
def yX0_namesOf : MethodName := ⟨RX0, "namesOf", "(LTinNation$State;II)[I"⟩
abbrev cX0_within : ByteArray := prog_2_method_17_code
def yX0_within : MethodName := ⟨RX0, "within", "(JIII)I"⟩
def RX1 : String := "TinNation$Laws"
def TX1 : u_T := fun k => match k with
  | 0 => ("TinNation$Laws", "code", "[I", true)
  | 1 => ("TinNation$Laws", "from", "[I", true)
  | 2 => ("TinNation$Laws", "upTo", "[I", true)
  | 3 => ("TinNation$Laws", "pile", "[J", true)
  | 4 => ("TinNation$Laws", "size", "I", false)
  | 5 => ("TinNation$Laws", "told", "I", false)
  | _ => ("TinNation$Laws", "knots", "I", false)
def tyX1 : Nat → FieldType := fun k => match k with
  | 0 => .array .int
  | 1 => .array .int
  | 2 => .array .int
  | 3 => .array .long
  | 4 => .int
  | 5 => .int
  | _ => .int
abbrev wsX10 : List Cond := u_ws RX1 TX1 7
theorem nmX1 : ∀ a, a < 7 → ∀ b, b < 7 → a ≠ b → (TX1 a).2.1 ≠ (TX1 b).2.1 := by decide +kernel
theorem tyX1_ok : ∀ k, k < 7 → parseFieldDescriptor (TX1 k).2.2.1 = some (tyX1 k) := by decide +kernel
abbrev cX1_init : ByteArray := prog_3_method_1_code
def yX1_init : MethodName := ⟨RX1, "<init>", "()V"⟩
abbrev cX1_clear : ByteArray := prog_3_method_2_code
def yX1_clear : MethodName := ⟨RX1, "clear", "()V"⟩
abbrev cX1_take : ByteArray := prog_3_method_3_code
def yX1_take : MethodName := ⟨RX1, "take", "(LTinNation$Laws;)V"⟩
abbrev cX1_has : ByteArray := prog_3_method_4_code
def yX1_has : MethodName := ⟨RX1, "has", "(I)Z"⟩
abbrev cX1_begin : ByteArray := prog_3_method_5_code
def yX1_begin : MethodName := ⟨RX1, "begin", "(I)V"⟩
abbrev cX1_end : ByteArray := prog_3_method_6_code
def yX1_end : MethodName := ⟨RX1, "end", "(I)V"⟩
abbrev cX1_emit : ByteArray := prog_3_method_7_code
def yX1_emit : MethodName := ⟨RX1, "emit", "(I)V"⟩
abbrev cX1_work : ByteArray := prog_3_method_8_code
def yX1_work : MethodName := ⟨RX1, "work", "(I[I)J"⟩
abbrev cX1_joined : ByteArray := prog_3_method_9_code
def yX1_joined : MethodName := ⟨RX1, "joined", "(IJJ)J"⟩
def RX2 : String := "TinNation$Parser"
def TX2 : u_T := fun k => match k with
  | 0 => ("TinNation$Parser", "plan", "LTinNation$Plan;", true)
  | 1 => ("TinNation$Parser", "scanner", "LTinNation$Scanner;", true)
  | 2 => ("TinNation$Parser", "toldOnce", "I", false)
  | 3 => ("TinNation$Parser", "fault", "I", false)
  | 4 => ("TinNation$Parser", "place", "I", false)
  | _ => ("TinNation$Parser", "lines", "I", false)
def tyX2 : Nat → FieldType := fun k => match k with
  | 0 => .object "TinNation$Plan"
  | 1 => .object "TinNation$Scanner"
  | 2 => .int
  | 3 => .int
  | 4 => .int
  | _ => .int
abbrev wsX20 : List Cond := u_ws RX2 TX2 6
theorem nmX2 : ∀ a, a < 6 → ∀ b, b < 6 → a ≠ b → (TX2 a).2.1 ≠ (TX2 b).2.1 := by decide +kernel
theorem tyX2_ok : ∀ k, k < 6 → parseFieldDescriptor (TX2 k).2.2.1 = some (tyX2 k) := by decide +kernel
abbrev cX2_init : ByteArray := prog_4_method_1_code
def yX2_init : MethodName := ⟨RX2, "<init>", "()V"⟩
abbrev cX2_read : ByteArray := prog_4_method_2_code
def yX2_read : MethodName := ⟨RX2, "read", "([BI)V"⟩
abbrev cX2_fail : ByteArray := prog_4_method_3_code
def yX2_fail : MethodName := ⟨RX2, "fail", "(I)V"⟩
abbrev cX2_expect : ByteArray := prog_4_method_4_code
def yX2_expect : MethodName := ⟨RX2, "expect", "(I)V"⟩
abbrev cX2_line : ByteArray := prog_4_method_5_code
def yX2_line : MethodName := ⟨RX2, "line", "()V"⟩
abbrev cX2_kindLine : ByteArray := prog_4_method_6_code
def yX2_kindLine : MethodName := ⟨RX2, "kindLine", "()V"⟩
abbrev cX2_tinLine : ByteArray := prog_4_method_7_code
def yX2_tinLine : MethodName := ⟨RX2, "tinLine", "()V"⟩
abbrev cX2_openLine : ByteArray := prog_4_method_8_code
def yX2_openLine : MethodName := ⟨RX2, "openLine", "()V"⟩
abbrev cX2_wantLine : ByteArray := prog_4_method_9_code
def yX2_wantLine : MethodName := ⟨RX2, "wantLine", "()V"⟩
abbrev cX2_room : ByteArray := prog_4_method_10_code
def yX2_room : MethodName := ⟨RX2, "room", "(LTinNation$Rows;)V"⟩
abbrev cX2_onceLine : ByteArray := prog_4_method_11_code
def yX2_onceLine : MethodName := ⟨RX2, "onceLine", "(I)I"⟩
abbrev cX2_newName : ByteArray := prog_4_method_12_code
def yX2_newName : MethodName := ⟨RX2, "newName", "(LTinNation$Rows;)I"⟩
abbrev cX2_toldName : ByteArray := prog_4_method_13_code
def yX2_toldName : MethodName := ⟨RX2, "toldName", "(LTinNation$Rows;)I"⟩
abbrev cX2_number : ByteArray := prog_4_method_14_code
def yX2_number : MethodName := ⟨RX2, "number", "(II)I"⟩
abbrev cX2_lawLine : ByteArray := prog_4_method_15_code
def yX2_lawLine : MethodName := ⟨RX2, "lawLine", "()V"⟩
abbrev cX2_knot : ByteArray := prog_4_method_16_code
def yX2_knot : MethodName := ⟨RX2, "knot", "()V"⟩
abbrev cX2_emit : ByteArray := prog_4_method_17_code
def yX2_emit : MethodName := ⟨RX2, "emit", "(I)V"⟩
abbrev cX2_either : ByteArray := prog_4_method_18_code
def yX2_either : MethodName := ⟨RX2, "either", "(I)V"⟩
abbrev cX2_both : ByteArray := prog_4_method_19_code
def yX2_both : MethodName := ⟨RX2, "both", "(I)V"⟩
abbrev cX2_denied : ByteArray := prog_4_method_20_code
def yX2_denied : MethodName := ⟨RX2, "denied", "(I)V"⟩
abbrev cX2_compared : ByteArray := prog_4_method_21_code
def yX2_compared : MethodName := ⟨RX2, "compared", "(I)V"⟩
abbrev cX2_isComparison : ByteArray := prog_4_method_22_code
def yX2_isComparison : MethodName := ⟨RX2, "isComparison", "(I)Z"⟩
abbrev cX2_sum : ByteArray := prog_4_method_23_code
def yX2_sum : MethodName := ⟨RX2, "sum", "(I)V"⟩
abbrev cX2_product : ByteArray := prog_4_method_24_code
def yX2_product : MethodName := ⟨RX2, "product", "(I)V"⟩
abbrev cX2_part : ByteArray := prog_4_method_25_code
def yX2_part : MethodName := ⟨RX2, "part", "(I)V"⟩
abbrev cX2_bracket : ByteArray := prog_4_method_26_code
def yX2_bracket : MethodName := ⟨RX2, "bracket", "(I)V"⟩
def RX3 : String := "TinNation$Plan"
def TX3 : u_T := fun k => match k with
  | 0 => ("TinNation$Plan", "kinds", "LTinNation$Rows;", true)
  | 1 => ("TinNation$Plan", "tins", "LTinNation$Rows;", true)
  | 2 => ("TinNation$Plan", "opens", "LTinNation$Rows;", true)
  | 3 => ("TinNation$Plan", "wants", "LTinNation$Rows;", true)
  | 4 => ("TinNation$Plan", "laws", "LTinNation$Laws;", true)
  | 5 => ("TinNation$Plan", "keys", "I", false)
  | 6 => ("TinNation$Plan", "rust", "I", false)
  | 7 => ("TinNation$Plan", "seed", "I", false)
  | 8 => ("TinNation$Plan", "lastOpenDay", "I", false)
  | _ => ("TinNation$Plan", "lastWantDay", "I", false)
def tyX3 : Nat → FieldType := fun k => match k with
  | 0 => .object "TinNation$Rows"
  | 1 => .object "TinNation$Rows"
  | 2 => .object "TinNation$Rows"
  | 3 => .object "TinNation$Rows"
  | 4 => .object "TinNation$Laws"
  | 5 => .int
  | 6 => .int
  | 7 => .int
  | 8 => .int
  | _ => .int
abbrev wsX30 : List Cond := u_ws RX3 TX3 10
theorem nmX3 : ∀ a, a < 10 → ∀ b, b < 10 → a ≠ b → (TX3 a).2.1 ≠ (TX3 b).2.1 := by decide +kernel
theorem tyX3_ok : ∀ k, k < 10 → parseFieldDescriptor (TX3 k).2.2.1 = some (tyX3 k) := by decide +kernel
abbrev cX3_init : ByteArray := prog_5_method_1_code
def yX3_init : MethodName := ⟨RX3, "<init>", "()V"⟩
abbrev cX3_clear : ByteArray := prog_5_method_2_code
def yX3_clear : MethodName := ⟨RX3, "clear", "()V"⟩
abbrev cX3_take : ByteArray := prog_5_method_3_code
def yX3_take : MethodName := ⟨RX3, "take", "(LTinNation$Plan;)V"⟩
def RX4 : String := "TinNation$Rows"
def TX4 : u_T := fun k => match k with
  | 0 => ("TinNation$Rows", "most", "I", true)
  | 1 => ("TinNation$Rows", "columns", "[[I", true)
  | _ => ("TinNation$Rows", "size", "I", false)
def tyX4 : Nat → FieldType := fun k => match k with
  | 0 => .int
  | 1 => .array (.array .int)
  | _ => .int
abbrev wsX40 : List Cond := u_ws RX4 TX4 3
theorem nmX4 : ∀ a, a < 3 → ∀ b, b < 3 → a ≠ b → (TX4 a).2.1 ≠ (TX4 b).2.1 := by decide +kernel
theorem tyX4_ok : ∀ k, k < 3 → parseFieldDescriptor (TX4 k).2.2.1 = some (tyX4 k) := by decide +kernel
abbrev cX4_init : ByteArray := prog_6_method_1_code
def yX4_init : MethodName := ⟨RX4, "<init>", "(II)V"⟩
abbrev cX4_isFull : ByteArray := prog_6_method_2_code
def yX4_isFull : MethodName := ⟨RX4, "isFull", "()Z"⟩
abbrev cX4_has : ByteArray := prog_6_method_3_code
def yX4_has : MethodName := ⟨RX4, "has", "(I)Z"⟩
abbrev cX4_column : ByteArray := prog_6_method_4_code
def yX4_column : MethodName := ⟨RX4, "column", "(I)[I"⟩
abbrev cX4_at : ByteArray := prog_6_method_5_code
def yX4_at : MethodName := ⟨RX4, "at", "(II)I"⟩
abbrev cX4_add : ByteArray := prog_6_method_6_code
def yX4_add : MethodName := ⟨RX4, "add", "()V"⟩
abbrev cX4_set : ByteArray := prog_6_method_7_code
def yX4_set : MethodName := ⟨RX4, "set", "(II)V"⟩
abbrev cX4_rowOf : ByteArray := prog_6_method_8_code
def yX4_rowOf : MethodName := ⟨RX4, "rowOf", "(I)I"⟩
abbrev cX4_dropFirst : ByteArray := prog_6_method_9_code
def yX4_dropFirst : MethodName := ⟨RX4, "dropFirst", "()V"⟩
abbrev cX4_take : ByteArray := prog_6_method_10_code
def yX4_take : MethodName := ⟨RX4, "take", "(LTinNation$Rows;)V"⟩
def RX5 : String := "TinNation$Scanner"
def TX5 : u_T := fun k => match k with
  | 0 => ("TinNation$Scanner", "words", "[I", true)
  | 1 => ("TinNation$Scanner", "tape", "[B", false)
  | 2 => ("TinNation$Scanner", "length", "I", false)
  | 3 => ("TinNation$Scanner", "at", "I", false)
  | 4 => ("TinNation$Scanner", "token", "I", false)
  | 5 => ("TinNation$Scanner", "place", "I", false)
  | _ => ("TinNation$Scanner", "value", "I", false)
def tyX5 : Nat → FieldType := fun k => match k with
  | 0 => .array .int
  | 1 => .array .byte
  | 2 => .int
  | 3 => .int
  | 4 => .int
  | 5 => .int
  | _ => .int
abbrev wsX50 : List Cond := u_ws RX5 TX5 7
theorem nmX5 : ∀ a, a < 7 → ∀ b, b < 7 → a ≠ b → (TX5 a).2.1 ≠ (TX5 b).2.1 := by decide +kernel
theorem tyX5_ok : ∀ k, k < 7 → parseFieldDescriptor (TX5 k).2.2.1 = some (tyX5 k) := by decide +kernel
abbrev cX5_init : ByteArray := prog_7_method_1_code
def yX5_init : MethodName := ⟨RX5, "<init>", "()V"⟩
abbrev cX5_start : ByteArray := prog_7_method_2_code
def yX5_start : MethodName := ⟨RX5, "start", "([BI)V"⟩
abbrev cX5_advance : ByteArray := prog_7_method_3_code
def yX5_advance : MethodName := ⟨RX5, "advance", "()V"⟩
abbrev cX5_takeWord : ByteArray := prog_7_method_4_code
def yX5_takeWord : MethodName := ⟨RX5, "takeWord", "()V"⟩
abbrev cX5_takeNumber : ByteArray := prog_7_method_5_code
def yX5_takeNumber : MethodName := ⟨RX5, "takeNumber", "()V"⟩
abbrev cX5_takeSign : ByteArray := prog_7_method_6_code
def yX5_takeSign : MethodName := ⟨RX5, "takeSign", "()V"⟩
def RX6 : String := "TinNation$State"
def TX6 : u_T := fun k => match k with
  | 0 => ("TinNation$State", "status", "[I", true)
  | 1 => ("TinNation$State", "dents", "[I", true)
  | 2 => ("TinNation$State", "stack", "[I", true)
  | 3 => ("TinNation$State", "height", "[I", true)
  | 4 => ("TinNation$State", "fresh", "[I", true)
  | 5 => ("TinNation$State", "served", "[I", true)
  | 6 => ("TinNation$State", "wants", "[I", true)
  | 7 => ("TinNation$State", "tins", "I", false)
  | 8 => ("TinNation$State", "day", "I", false)
  | 9 => ("TinNation$State", "keys", "I", false)
  | 10 => ("TinNation$State", "glory", "I", false)
  | 11 => ("TinNation$State", "met", "I", false)
  | 12 => ("TinNation$State", "missed", "I", false)
  | 13 => ("TinNation$State", "refused", "I", false)
  | _ => ("TinNation$State", "number", "J", false)
def tyX6 : Nat → FieldType := fun k => match k with
  | 0 => .array .int
  | 1 => .array .int
  | 2 => .array .int
  | 3 => .array .int
  | 4 => .array .int
  | 5 => .array .int
  | 6 => .array .int
  | 7 => .int
  | 8 => .int
  | 9 => .int
  | 10 => .int
  | 11 => .int
  | 12 => .int
  | 13 => .int
  | _ => .long
abbrev wsX60 : List Cond := u_ws RX6 TX6 15
theorem nmX6 : ∀ a, a < 15 → ∀ b, b < 15 → a ≠ b → (TX6 a).2.1 ≠ (TX6 b).2.1 := by decide +kernel
theorem tyX6_ok : ∀ k, k < 15 → parseFieldDescriptor (TX6 k).2.2.1 = some (tyX6 k) := by decide +kernel
abbrev cX6_init : ByteArray := prog_8_method_1_code
def yX6_init : MethodName := ⟨RX6, "<init>", "()V"⟩
abbrev cX6_begin : ByteArray := prog_8_method_2_code
def yX6_begin : MethodName := ⟨RX6, "begin", "(LTinNation$Plan;)V"⟩
abbrev cX6_take : ByteArray := prog_8_method_3_code
def yX6_take : MethodName := ⟨RX6, "take", "(LTinNation$State;)V"⟩
abbrev cX6_has : ByteArray := prog_8_method_4_code
def yX6_has : MethodName := ⟨RX6, "has", "(I)Z"⟩
abbrev cX6_isClosed : ByteArray := prog_8_method_5_code
def yX6_isClosed : MethodName := ⟨RX6, "isClosed", "(I)Z"⟩
abbrev cX6_isOnTop : ByteArray := prog_8_method_6_code
def yX6_isOnTop : MethodName := ⟨RX6, "isOnTop", "(I)Z"⟩
abbrev cX6_closedAbove : ByteArray := prog_8_method_7_code
def yX6_closedAbove : MethodName := ⟨RX6, "closedAbove", "(I)I"⟩
abbrev cX6_heightOver : ByteArray := prog_8_method_8_code
def yX6_heightOver : MethodName := ⟨RX6, "heightOver", "(I)I"⟩
abbrev cX6_howMany : ByteArray := prog_8_method_9_code
def yX6_howMany : MethodName := ⟨RX6, "howMany", "(I)I"⟩
abbrev cX6_drawn : ByteArray := prog_8_method_10_code
def yX6_drawn : MethodName := ⟨RX6, "drawn", "()I"⟩
def RX7 : String := "TinNation$Steps"
def TX7 : u_T := fun k => match k with
  | _ => ("TinNation$Steps", "rows", "LTinNation$Rows;", true)
def tyX7 : Nat → FieldType := fun k => match k with
  | _ => .object "TinNation$Rows"
abbrev wsX70 : List Cond := u_ws RX7 TX7 1
theorem nmX7 : ∀ a, a < 1 → ∀ b, b < 1 → a ≠ b → (TX7 a).2.1 ≠ (TX7 b).2.1 := by decide +kernel
theorem tyX7_ok : ∀ k, k < 1 → parseFieldDescriptor (TX7 k).2.2.1 = some (tyX7 k) := by decide +kernel
abbrev cX7_init : ByteArray := prog_9_method_1_code
def yX7_init : MethodName := ⟨RX7, "<init>", "()V"⟩
abbrev cX7_clear : ByteArray := prog_9_method_2_code
def yX7_clear : MethodName := ⟨RX7, "clear", "()V"⟩
abbrev cX7_add : ByteArray := prog_9_method_3_code
def yX7_add : MethodName := ⟨RX7, "add", "(IIII)V"⟩
abbrev cX7_takeBack : ByteArray := prog_9_method_4_code
def yX7_takeBack : MethodName := ⟨RX7, "takeBack", "(LTinNation$State;)V"⟩
abbrev cX7_takeBackOfTin : ByteArray := prog_9_method_5_code
def yX7_takeBackOfTin : MethodName := ⟨RX7, "takeBackOfTin", "(LTinNation$State;II)V"⟩
def RX8 : String := "TinNation$Told"
def TX8 : u_T := fun k => match k with
  | 0 => ("TinNation$Told", "rows", "LTinNation$Rows;", true)
  | _ => ("TinNation$Told", "knownBy", "I", false)
def tyX8 : Nat → FieldType := fun k => match k with
  | 0 => .object "TinNation$Rows"
  | _ => .int
abbrev wsX80 : List Cond := u_ws RX8 TX8 2
theorem nmX8 : ∀ a, a < 2 → ∀ b, b < 2 → a ≠ b → (TX8 a).2.1 ≠ (TX8 b).2.1 := by decide +kernel
theorem tyX8_ok : ∀ k, k < 2 → parseFieldDescriptor (TX8 k).2.2.1 = some (tyX8 k) := by decide +kernel
abbrev cX8_init : ByteArray := prog_10_method_1_code
def yX8_init : MethodName := ⟨RX8, "<init>", "()V"⟩
abbrev cX8_clear : ByteArray := prog_10_method_2_code
def yX8_clear : MethodName := ⟨RX8, "clear", "()V"⟩
abbrev cX8_add : ByteArray := prog_10_method_3_code
def yX8_add : MethodName := ⟨RX8, "add", "(IIIZ)I"⟩
abbrev cX8_howManyKnown : ByteArray := prog_10_method_4_code
def yX8_howManyKnown : MethodName := ⟨RX8, "howManyKnown", "()I"⟩
abbrev cX8_counted : ByteArray := prog_10_method_5_code
def yX8_counted : MethodName := ⟨RX8, "counted", "()I"⟩
abbrev cX8_mayBe : ByteArray := prog_10_method_6_code
def yX8_mayBe : MethodName := ⟨RX8, "mayBe", "(III)Z"⟩
abbrev cX8_lastSeen : ByteArray := prog_10_method_7_code
def yX8_lastSeen : MethodName := ⟨RX8, "lastSeen", "(I)I"⟩
abbrev cX8_isSeenSo : ByteArray := prog_10_method_8_code
def yX8_isSeenSo : MethodName := ⟨RX8, "isSeenSo", "(IILTinNation$State;)Z"⟩
def RX9 : String := "TinNation"
def TX9 : u_T := fun k => match k with
  | 0 => ("TinNation", "tape", "[B", true)
  | 1 => ("TinNation", "taped", "I", false)
  | 2 => ("TinNation", "parser", "LTinNation$Parser;", true)
  | 3 => ("TinNation", "plan", "LTinNation$Plan;", true)
  | 4 => ("TinNation", "days", "LTinNation$Days;", true)
  | 5 => ("TinNation", "now", "LTinNation$State;", true)
  | 6 => ("TinNation", "trial", "LTinNation$State;", true)
  | 7 => ("TinNation", "image", "LTinNation$State;", true)
  | 8 => ("TinNation", "isKept", "Z", false)
  | 9 => ("TinNation", "told", "LTinNation$Told;", true)
  | 10 => ("TinNation", "steps", "LTinNation$Steps;", true)
  | 11 => ("TinNation", "row", "[I", true)
  | _ => ("TinNation", "bestRow", "[I", true)
def tyX9 : Nat → FieldType := fun k => match k with
  | 0 => .array .byte
  | 1 => .int
  | 2 => .object "TinNation$Parser"
  | 3 => .object "TinNation$Plan"
  | 4 => .object "TinNation$Days"
  | 5 => .object "TinNation$State"
  | 6 => .object "TinNation$State"
  | 7 => .object "TinNation$State"
  | 8 => .boolean
  | 9 => .object "TinNation$Told"
  | 10 => .object "TinNation$Steps"
  | 11 => .array .int
  | _ => .array .int
abbrev wsX90 : List Cond := u_ws RX9 TX9 13
theorem nmX9 : ∀ a, a < 13 → ∀ b, b < 13 → a ≠ b → (TX9 a).2.1 ≠ (TX9 b).2.1 := by decide +kernel
theorem tyX9_ok : ∀ k, k < 13 → parseFieldDescriptor (TX9 k).2.2.1 = some (tyX9 k) := by decide +kernel
abbrev cX9_init : ByteArray := prog_1_method_1_code
def yX9_init : MethodName := ⟨RX9, "<init>", "()V"⟩
abbrev cX9_feed : ByteArray := prog_1_method_2_code
def yX9_feed : MethodName := ⟨RX9, "feed", "(IIIII)I"⟩
abbrev cX9_tapeNumber : ByteArray := prog_1_method_3_code
def yX9_tapeNumber : MethodName := ⟨RX9, "tapeNumber", "(I)V"⟩
abbrev cX9_text : ByteArray := prog_1_method_4_code
def yX9_text : MethodName := ⟨RX9, "text", "(I)I"⟩
abbrev cX9_fault : ByteArray := prog_1_method_5_code
def yX9_fault : MethodName := ⟨RX9, "fault", "(I)I"⟩
abbrev cX9_named : ByteArray := prog_1_method_6_code
def yX9_named : MethodName := ⟨RX9, "named", "(II)I"⟩
abbrev cX9_tin : ByteArray := prog_1_method_7_code
def yX9_tin : MethodName := ⟨RX9, "tin", "(II)I"⟩
abbrev cX9_kind : ByteArray := prog_1_method_8_code
def yX9_kind : MethodName := ⟨RX9, "kind", "(II)I"⟩
abbrev cX9_tinsOf : ByteArray := prog_1_method_9_code
def yX9_tinsOf : MethodName := ⟨RX9, "tinsOf", "(II)I"⟩
abbrev cX9_want : ByteArray := prog_1_method_10_code
def yX9_want : MethodName := ⟨RX9, "want", "(II)I"⟩
abbrev cX9_top : ByteArray := prog_1_method_11_code
def yX9_top : MethodName := ⟨RX9, "top", "(I)I"⟩
abbrev cX9_law : ByteArray := prog_1_method_12_code
def yX9_law : MethodName := ⟨RX9, "law", "(III)J"⟩
abbrev cX9_open : ByteArray := prog_1_method_13_code
def yX9_open : MethodName := ⟨RX9, "open", "(I)I"⟩
abbrev cX9_put : ByteArray := prog_1_method_14_code
def yX9_put : MethodName := ⟨RX9, "put", "(II)Z"⟩
abbrev cX9_dent : ByteArray := prog_1_method_15_code
def yX9_dent : MethodName := ⟨RX9, "dent", "(I)I"⟩
abbrev cX9_find : ByteArray := prog_1_method_16_code
def yX9_find : MethodName := ⟨RX9, "find", "(I)I"⟩
abbrev cX9_go : ByteArray := prog_1_method_17_code
def yX9_go : MethodName := ⟨RX9, "go", "(I)I"⟩
abbrev cX9_ahead : ByteArray := prog_1_method_18_code
def yX9_ahead : MethodName := ⟨RX9, "ahead", "(II)I"⟩
abbrev cX9_above : ByteArray := prog_1_method_19_code
def yX9_above : MethodName := ⟨RX9, "above", "(I)I"⟩
abbrev cX9_order : ByteArray := prog_1_method_20_code
def yX9_order : MethodName := ⟨RX9, "order", "(I)I"⟩
abbrev cX9_firstClosed : ByteArray := prog_1_method_21_code
def yX9_firstClosed : MethodName := ⟨RX9, "firstClosed", "()I"⟩
abbrev cX9_gainedInRow : ByteArray := prog_1_method_22_code
def yX9_gainedInRow : MethodName := ⟨RX9, "gainedInRow", "(I)I"⟩
abbrev cX9_nextRow : ByteArray := prog_1_method_23_code
def yX9_nextRow : MethodName := ⟨RX9, "nextRow", "(I)Z"⟩
abbrev cX9_swapInRow : ByteArray := prog_1_method_24_code
def yX9_swapInRow : MethodName := ⟨RX9, "swapInRow", "(II)V"⟩
abbrev cX9_best : ByteArray := prog_1_method_25_code
def yX9_best : MethodName := ⟨RX9, "best", "(II)I"⟩
abbrev cX9_gainedByOpening : ByteArray := prog_1_method_26_code
def yX9_gainedByOpening : MethodName := ⟨RX9, "gainedByOpening", "(II)I"⟩
abbrev cX9_tidy : ByteArray := prog_1_method_27_code
def yX9_tidy : MethodName := ⟨RX9, "tidy", "(I)I"⟩
abbrev cX9_takenOut : ByteArray := prog_1_method_28_code
def yX9_takenOut : MethodName := ⟨RX9, "takenOut", "(II)I"⟩
abbrev cX9_isBelowLonger : ByteArray := prog_1_method_29_code
def yX9_isBelowLonger : MethodName := ⟨RX9, "isBelowLonger", "(I)Z"⟩
abbrev cX9_isBit : ByteArray := prog_1_method_30_code
def yX9_isBit : MethodName := ⟨RX9, "isBit", "(II)Z"⟩
abbrev cX9_rests : ByteArray := prog_1_method_31_code
def yX9_rests : MethodName := ⟨RX9, "rests", "(I)I"⟩
abbrev cX9_rest : ByteArray := prog_1_method_32_code
def yX9_rest : MethodName := ⟨RX9, "rest", "(II)I"⟩
abbrev cX9_isRest : ByteArray := prog_1_method_33_code
def yX9_isRest : MethodName := ⟨RX9, "isRest", "(III)Z"⟩
abbrev cX9_hasOfShare : ByteArray := prog_1_method_34_code
def yX9_hasOfShare : MethodName := ⟨RX9, "hasOfShare", "(III)I"⟩
abbrev cX9_whole : ByteArray := prog_1_method_35_code
def yX9_whole : MethodName := ⟨RX9, "whole", "(II)J"⟩
abbrev cX9_commonDivisor : ByteArray := prog_1_method_36_code
def yX9_commonDivisor : MethodName := ⟨RX9, "commonDivisor", "(JJ)J"⟩
abbrev cX9_unmet : ByteArray := prog_1_method_37_code
def yX9_unmet : MethodName := ⟨RX9, "unmet", "()I"⟩
abbrev cX9_blows : ByteArray := prog_1_method_38_code
def yX9_blows : MethodName := ⟨RX9, "blows", "(I)I"⟩
abbrev cX9_note : ByteArray := prog_1_method_39_code
def yX9_note : MethodName := ⟨RX9, "note", "(IIZ)I"⟩
abbrev cX9_see : ByteArray := prog_1_method_40_code
def yX9_see : MethodName := ⟨RX9, "see", "(IIZ)I"⟩
abbrev cX9_strike : ByteArray := prog_1_method_41_code
def yX9_strike : MethodName := ⟨RX9, "strike", "(I)I"⟩
abbrev cX9_known : ByteArray := prog_1_method_42_code
def yX9_known : MethodName := ⟨RX9, "known", "(I)Z"⟩
abbrev cX9_which : ByteArray := prog_1_method_43_code
def yX9_which : MethodName := ⟨RX9, "which", "()I"⟩
abbrev cX9_ask : ByteArray := prog_1_method_44_code
def yX9_ask : MethodName := ⟨RX9, "ask", "(I)I"⟩
abbrev cX9_dented : ByteArray := prog_1_method_45_code
def yX9_dented : MethodName := ⟨RX9, "dented", "(I)I"⟩
abbrev cX9_isSeenSo : ByteArray := prog_1_method_46_code
def yX9_isSeenSo : MethodName := ⟨RX9, "isSeenSo", "(I)Z"⟩
abbrev cX9_chance : ByteArray := prog_1_method_47_code
def yX9_chance : MethodName := ⟨RX9, "chance", "(III)I"⟩
abbrev cX9_tried : ByteArray := prog_1_method_48_code
def yX9_tried : MethodName := ⟨RX9, "tried", "(III)I"⟩
abbrev cX9_undo : ByteArray := prog_1_method_49_code
def yX9_undo : MethodName := ⟨RX9, "undo", "()I"⟩
abbrev cX9_keep : ByteArray := prog_1_method_50_code
def yX9_keep : MethodName := ⟨RX9, "keep", "()I"⟩
abbrev cX9_back : ByteArray := prog_1_method_51_code
def yX9_back : MethodName := ⟨RX9, "back", "()I"⟩
abbrev cX9_count : ByteArray := prog_1_method_52_code
def yX9_count : MethodName := ⟨RX9, "count", "(I)I"⟩
def RX10 : String := "TinNationModel"
def TX10 : u_T := fun k => match k with
  | 0 => ("TinNationModel", "thrown", "I", false)
  | 1 => ("TinNationModel", "tape", "[I", true)
  | 2 => ("TinNationModel", "taped", "I", false)
  | 3 => ("TinNationModel", "number", "[I", true)
  | 4 => ("TinNationModel", "kindName", "[I", true)
  | 5 => ("TinNationModel", "weightOf", "[I", true)
  | 6 => ("TinNationModel", "soundOf", "[I", true)
  | 7 => ("TinNationModel", "tinName", "[I", true)
  | 8 => ("TinNationModel", "kindOf", "[I", true)
  | 9 => ("TinNationModel", "dentsAs", "[I", true)
  | 10 => ("TinNationModel", "keepsOf", "[I", true)
  | 11 => ("TinNationModel", "stackAs", "[I", true)
  | 12 => ("TinNationModel", "openTin", "[I", true)
  | 13 => ("TinNationModel", "openDay", "[I", true)
  | 14 => ("TinNationModel", "wantKind", "[I", true)
  | 15 => ("TinNationModel", "wantDay", "[I", true)
  | 16 => ("TinNationModel", "wantWorth", "[I", true)
  | 17 => ("TinNationModel", "sumFrom", "[I", true)
  | 18 => ("TinNationModel", "sumTo", "[I", true)
  | 19 => ("TinNationModel", "knotSort", "[I", true)
  | 20 => ("TinNationModel", "knotValue", "[I", true)
  | 21 => ("TinNationModel", "told", "I", false)
  | 22 => ("TinNationModel", "lines", "I", false)
  | 23 => ("TinNationModel", "size", "I", false)
  | 24 => ("TinNationModel", "at", "I", false)
  | 25 => ("TinNationModel", "place", "I", false)
  | 26 => ("TinNationModel", "sort", "I", false)
  | 27 => ("TinNationModel", "value", "I", false)
  | 28 => ("TinNationModel", "fault", "I", false)
  | 29 => ("TinNationModel", "faultPlace", "I", false)
  | 30 => ("TinNationModel", "lastFault", "I", false)
  | 31 => ("TinNationModel", "lastPlace", "I", false)
  | 32 => ("TinNationModel", "open", "I", false)
  | 33 => ("TinNationModel", "counted", "I", false)
  | 34 => ("TinNationModel", "names", "[J", true)
  | 35 => ("TinNationModel", "worked", "[J", true)
  | 36 => ("TinNationModel", "workedMany", "I", false)
  | 37 => ("TinNationModel", "day", "[I", true)
  | 38 => ("TinNationModel", "drawn", "[I", true)
  | 39 => ("TinNationModel", "keysOf", "[I", true)
  | 40 => ("TinNationModel", "gloryOf", "[I", true)
  | 41 => ("TinNationModel", "refused", "[I", true)
  | 42 => ("TinNationModel", "puts", "[I", true)
  | 43 => ("TinNationModel", "highOf", "[I", true)
  | 44 => ("TinNationModel", "stackOf", "[I", true)
  | 45 => ("TinNationModel", "dentsOf", "[I", true)
  | 46 => ("TinNationModel", "howOf", "[I", true)
  | 47 => ("TinNationModel", "leftOf", "[I", true)
  | 48 => ("TinNationModel", "servedOf", "[I", true)
  | 49 => ("TinNationModel", "outcome", "[I", true)
  | 50 => ("TinNationModel", "hasImage", "Z", false)
  | 51 => ("TinNationModel", "undoMany", "I", false)
  | 52 => ("TinNationModel", "tryWhat", "I", false)
  | 53 => ("TinNationModel", "tryTin", "I", false)
  | 54 => ("TinNationModel", "four", "[I", true)
  | 55 => ("TinNationModel", "rowNow", "[I", true)
  | 56 => ("TinNationModel", "rowBest", "[I", true)
  | 57 => ("TinNationModel", "fourMany", "I", false)
  | 58 => ("TinNationModel", "rowMost", "I", false)
  | 59 => ("TinNationModel", "notes", "I", false)
  | 60 => ("TinNationModel", "knownBy", "I", false)
  | 61 => ("TinNationModel", "noteSort", "[I", true)
  | 62 => ("TinNationModel", "noteMuch", "[I", true)
  | 63 => ("TinNationModel", "noteTin", "[I", true)
  | 64 => ("TinNationModel", "noteIs", "[Z", true)
  | _ => ("TinNationModel", "isOut", "[Z", true)
def tyX10 : Nat → FieldType := fun k => match k with
  | 0 => .int
  | 1 => .array .int
  | 2 => .int
  | 3 => .array .int
  | 4 => .array .int
  | 5 => .array .int
  | 6 => .array .int
  | 7 => .array .int
  | 8 => .array .int
  | 9 => .array .int
  | 10 => .array .int
  | 11 => .array .int
  | 12 => .array .int
  | 13 => .array .int
  | 14 => .array .int
  | 15 => .array .int
  | 16 => .array .int
  | 17 => .array .int
  | 18 => .array .int
  | 19 => .array .int
  | 20 => .array .int
  | 21 => .int
  | 22 => .int
  | 23 => .int
  | 24 => .int
  | 25 => .int
  | 26 => .int
  | 27 => .int
  | 28 => .int
  | 29 => .int
  | 30 => .int
  | 31 => .int
  | 32 => .int
  | 33 => .int
  | 34 => .array .long
  | 35 => .array .long
  | 36 => .int
  | 37 => .array .int
  | 38 => .array .int
  | 39 => .array .int
  | 40 => .array .int
  | 41 => .array .int
  | 42 => .array .int
  | 43 => .array .int
  | 44 => .array .int
  | 45 => .array .int
  | 46 => .array .int
  | 47 => .array .int
  | 48 => .array .int
  | 49 => .array .int
  | 50 => .boolean
  | 51 => .int
  | 52 => .int
  | 53 => .int
  | 54 => .array .int
  | 55 => .array .int
  | 56 => .array .int
  | 57 => .int
  | 58 => .int
  | 59 => .int
  | 60 => .int
  | 61 => .array .int
  | 62 => .array .int
  | 63 => .array .int
  | 64 => .array .boolean
  | _ => .array .boolean
abbrev wsX100 : List Cond := u_ws RX10 TX10 66
theorem nmX10 : ∀ a, a < 66 → ∀ b, b < 66 → a ≠ b → (TX10 a).2.1 ≠ (TX10 b).2.1 := by decide +kernel
theorem tyX10_ok : ∀ k, k < 66 → parseFieldDescriptor (TX10 k).2.2.1 = some (tyX10 k) := by decide +kernel
abbrev cX10_init : ByteArray := prog_12_method_1_code
def yX10_init : MethodName := ⟨RX10, "<init>", "()V"⟩
abbrev cX10_thrown : ByteArray := prog_12_method_2_code
def yX10_thrown : MethodName := ⟨RX10, "thrown", "()I"⟩
abbrev cX10_feed : ByteArray := prog_12_method_3_code
def yX10_feed : MethodName := ⟨RX10, "feed", "(IIIII)I"⟩
abbrev cX10_here : ByteArray := prog_12_method_4_code
def yX10_here : MethodName := ⟨RX10, "here", "()I"⟩
abbrev cX10_isSmall : ByteArray := prog_12_method_5_code
def yX10_isSmall : MethodName := ⟨RX10, "isSmall", "(I)Z"⟩
abbrev cX10_isDigit : ByteArray := prog_12_method_6_code
def yX10_isDigit : MethodName := ⟨RX10, "isDigit", "(I)Z"⟩
abbrev cX10_token : ByteArray := prog_12_method_7_code
def yX10_token : MethodName := ⟨RX10, "token", "()V"⟩
abbrev cX10_sign : ByteArray := prog_12_method_8_code
def yX10_sign : MethodName := ⟨RX10, "sign", "(I)V"⟩
abbrev cX10_word : ByteArray := prog_12_method_9_code
def yX10_word : MethodName := ⟨RX10, "word", "()I"⟩
abbrev cX10_name : ByteArray := prog_12_method_10_code
def yX10_name : MethodName := ⟨RX10, "name", "()V"⟩
abbrev cX10_wrong : ByteArray := prog_12_method_11_code
def yX10_wrong : MethodName := ⟨RX10, "wrong", "(I)V"⟩
abbrev cX10_isWord : ByteArray := prog_12_method_12_code
def yX10_isWord : MethodName := ⟨RX10, "isWord", "(I)Z"⟩
abbrev cX10_isSign : ByteArray := prog_12_method_13_code
def yX10_isSign : MethodName := ⟨RX10, "isSign", "(I)Z"⟩
abbrev cX10_goOn : ByteArray := prog_12_method_14_code
def yX10_goOn : MethodName := ⟨RX10, "goOn", "()V"⟩
abbrev cX10_numeral : ByteArray := prog_12_method_15_code
def yX10_numeral : MethodName := ⟨RX10, "numeral", "(II)I"⟩
abbrev cX10_found : ByteArray := prog_12_method_16_code
def yX10_found : MethodName := ⟨RX10, "found", "([IIII)I"⟩
abbrev cX10_fresh : ByteArray := prog_12_method_17_code
def yX10_fresh : MethodName := ⟨RX10, "fresh", "([III)I"⟩
abbrev cX10_fresher : ByteArray := prog_12_method_18_code
def yX10_fresher : MethodName := ⟨RX10, "fresher", "(I)I"⟩
abbrev cX10_reads : ByteArray := prog_12_method_19_code
def yX10_reads : MethodName := ⟨RX10, "reads", "(II)V"⟩
abbrev cX10_toldAhead : ByteArray := prog_12_method_20_code
def yX10_toldAhead : MethodName := ⟨RX10, "toldAhead", "([III)I"⟩
abbrev cX10_isFull : ByteArray := prog_12_method_21_code
def yX10_isFull : MethodName := ⟨RX10, "isFull", "(I)Z"⟩
abbrev cX10_line : ByteArray := prog_12_method_22_code
def yX10_line : MethodName := ⟨RX10, "line", "()V"⟩
abbrev cX10_lawLine : ByteArray := prog_12_method_23_code
def yX10_lawLine : MethodName := ⟨RX10, "lawLine", "()V"⟩
abbrev cX10_puts : ByteArray := prog_12_method_24_code
def yX10_puts : MethodName := ⟨RX10, "puts", "(II)V"⟩
abbrev cX10_knot : ByteArray := prog_12_method_25_code
def yX10_knot : MethodName := ⟨RX10, "knot", "()V"⟩
abbrev cX10_expression : ByteArray := prog_12_method_26_code
def yX10_expression : MethodName := ⟨RX10, "expression", "()V"⟩
abbrev cX10_conjunction : ByteArray := prog_12_method_27_code
def yX10_conjunction : MethodName := ⟨RX10, "conjunction", "()V"⟩
abbrev cX10_negation : ByteArray := prog_12_method_28_code
def yX10_negation : MethodName := ⟨RX10, "negation", "()V"⟩
abbrev cX10_sum : ByteArray := prog_12_method_29_code
def yX10_sum : MethodName := ⟨RX10, "sum", "()V"⟩
abbrev cX10_product : ByteArray := prog_12_method_30_code
def yX10_product : MethodName := ⟨RX10, "product", "()V"⟩
abbrev cX10_primary : ByteArray := prog_12_method_31_code
def yX10_primary : MethodName := ⟨RX10, "primary", "()V"⟩
abbrev cX10_half : ByteArray := prog_12_method_32_code
def yX10_half : MethodName := ⟨RX10, "half", "([I)V"⟩
abbrev cX10_text : ByteArray := prog_12_method_33_code
def yX10_text : MethodName := ⟨RX10, "text", "(I)I"⟩
abbrev cX10_fault : ByteArray := prog_12_method_34_code
def yX10_fault : MethodName := ⟨RX10, "fault", "(I)I"⟩
abbrev cX10_named : ByteArray := prog_12_method_35_code
def yX10_named : MethodName := ⟨RX10, "named", "(II)I"⟩
abbrev cX10_is : ByteArray := prog_12_method_36_code
def yX10_is : MethodName := ⟨RX10, "is", "(Z)J"⟩
abbrev cX10_works : ByteArray := prog_12_method_37_code
def yX10_works : MethodName := ⟨RX10, "works", "(I)Z"⟩
abbrev cX10_goes : ByteArray := prog_12_method_38_code
def yX10_goes : MethodName := ⟨RX10, "goes", "(I)Z"⟩
abbrev cX10_hasLaw : ByteArray := prog_12_method_39_code
def yX10_hasLaw : MethodName := ⟨RX10, "hasLaw", "(I)Z"⟩
abbrev cX10_starts : ByteArray := prog_12_method_40_code
def yX10_starts : MethodName := ⟨RX10, "starts", "(I)V"⟩
abbrev cX10_begins : ByteArray := prog_12_method_41_code
def yX10_begins : MethodName := ⟨RX10, "begins", "()V"⟩
abbrev cX10_copies : ByteArray := prog_12_method_42_code
def yX10_copies : MethodName := ⟨RX10, "copies", "(II)V"⟩
abbrev cX10_isTin : ByteArray := prog_12_method_43_code
def yX10_isTin : MethodName := ⟨RX10, "isTin", "(I)Z"⟩
abbrev cX10_isKind : ByteArray := prog_12_method_44_code
def yX10_isKind : MethodName := ⟨RX10, "isKind", "(I)Z"⟩
abbrev cX10_isStack : ByteArray := prog_12_method_45_code
def yX10_isStack : MethodName := ⟨RX10, "isStack", "(I)Z"⟩
abbrev cX10_isClosed : ByteArray := prog_12_method_46_code
def yX10_isClosed : MethodName := ⟨RX10, "isClosed", "(II)Z"⟩
abbrev cX10_aboveOf : ByteArray := prog_12_method_47_code
def yX10_aboveOf : MethodName := ⟨RX10, "aboveOf", "(II)I"⟩
abbrev cX10_isOnTop : ByteArray := prog_12_method_48_code
def yX10_isOnTop : MethodName := ⟨RX10, "isOnTop", "(II)Z"⟩
abbrev cX10_calls : ByteArray := prog_12_method_49_code
def yX10_calls : MethodName := ⟨RX10, "calls", "(III)V"⟩
abbrev cX10_within : ByteArray := prog_12_method_50_code
def yX10_within : MethodName := ⟨RX10, "within", "(IIII)I"⟩
abbrev cX10_opens : ByteArray := prog_12_method_51_code
def yX10_opens : MethodName := ⟨RX10, "opens", "(II)V"⟩
abbrev cX10_opensTold : ByteArray := prog_12_method_52_code
def yX10_opensTold : MethodName := ⟨RX10, "opensTold", "(II)V"⟩
abbrev cX10_serves : ByteArray := prog_12_method_53_code
def yX10_serves : MethodName := ⟨RX10, "serves", "(III)I"⟩
abbrev cX10_doesRust : ByteArray := prog_12_method_54_code
def yX10_doesRust : MethodName := ⟨RX10, "doesRust", "(IIZ)Z"⟩
abbrev cX10_passes : ByteArray := prog_12_method_55_code
def yX10_passes : MethodName := ⟨RX10, "passes", "(IZ)V"⟩
abbrev cX10_goesOn : ByteArray := prog_12_method_56_code
def yX10_goesOn : MethodName := ⟨RX10, "goesOn", "(I)V"⟩
abbrev cX10_runs : ByteArray := prog_12_method_57_code
def yX10_runs : MethodName := ⟨RX10, "runs", "(I)V"⟩
abbrev cX10_tinsOf : ByteArray := prog_12_method_58_code
def yX10_tinsOf : MethodName := ⟨RX10, "tinsOf", "(II)I"⟩
abbrev cX10_wantsOf : ByteArray := prog_12_method_59_code
def yX10_wantsOf : MethodName := ⟨RX10, "wantsOf", "(II)I"⟩
abbrev cX10_tin : ByteArray := prog_12_method_60_code
def yX10_tin : MethodName := ⟨RX10, "tin", "(II)I"⟩
abbrev cX10_setOf : ByteArray := prog_12_method_61_code
def yX10_setOf : MethodName := ⟨RX10, "setOf", "(II)I"⟩
abbrev cX10_kind : ByteArray := prog_12_method_62_code
def yX10_kind : MethodName := ⟨RX10, "kind", "(II)I"⟩
abbrev cX10_want : ByteArray := prog_12_method_63_code
def yX10_want : MethodName := ⟨RX10, "want", "(II)I"⟩
abbrev cX10_top : ByteArray := prog_12_method_64_code
def yX10_top : MethodName := ⟨RX10, "top", "(I)I"⟩
abbrev cX10_law : ByteArray := prog_12_method_65_code
def yX10_law : MethodName := ⟨RX10, "law", "(III)J"⟩
abbrev cX10_keepNow : ByteArray := prog_12_method_66_code
def yX10_keepNow : MethodName := ⟨RX10, "keepNow", "()V"⟩
abbrev cX10_open : ByteArray := prog_12_method_67_code
def yX10_open : MethodName := ⟨RX10, "open", "(I)I"⟩
abbrev cX10_put : ByteArray := prog_12_method_68_code
def yX10_put : MethodName := ⟨RX10, "put", "(II)Z"⟩
abbrev cX10_dent : ByteArray := prog_12_method_69_code
def yX10_dent : MethodName := ⟨RX10, "dent", "(I)I"⟩
abbrev cX10_find : ByteArray := prog_12_method_70_code
def yX10_find : MethodName := ⟨RX10, "find", "(I)I"⟩
abbrev cX10_go : ByteArray := prog_12_method_71_code
def yX10_go : MethodName := ⟨RX10, "go", "(I)I"⟩
abbrev cX10_ahead : ByteArray := prog_12_method_72_code
def yX10_ahead : MethodName := ⟨RX10, "ahead", "(II)I"⟩
abbrev cX10_above : ByteArray := prog_12_method_73_code
def yX10_above : MethodName := ⟨RX10, "above", "(I)I"⟩
abbrev cX10_blows : ByteArray := prog_12_method_74_code
def yX10_blows : MethodName := ⟨RX10, "blows", "(I)I"⟩
abbrev cX10_rows : ByteArray := prog_12_method_75_code
def yX10_rows : MethodName := ⟨RX10, "rows", "(II)V"⟩
abbrev cX10_order : ByteArray := prog_12_method_76_code
def yX10_order : MethodName := ⟨RX10, "order", "(I)I"⟩
abbrev cX10_best : ByteArray := prog_12_method_77_code
def yX10_best : MethodName := ⟨RX10, "best", "(II)I"⟩
abbrev cX10_isTidy : ByteArray := prog_12_method_78_code
def yX10_isTidy : MethodName := ⟨RX10, "isTidy", "(II)Z"⟩
abbrev cX10_tidy : ByteArray := prog_12_method_79_code
def yX10_tidy : MethodName := ⟨RX10, "tidy", "(I)I"⟩
abbrev cX10_bitsOf : ByteArray := prog_12_method_80_code
def yX10_bitsOf : MethodName := ⟨RX10, "bitsOf", "(I)I"⟩
abbrev cX10_hasOf : ByteArray := prog_12_method_81_code
def yX10_hasOf : MethodName := ⟨RX10, "hasOf", "(III)I"⟩
abbrev cX10_isRest : ByteArray := prog_12_method_82_code
def yX10_isRest : MethodName := ⟨RX10, "isRest", "(III)Z"⟩
abbrev cX10_restOf : ByteArray := prog_12_method_83_code
def yX10_restOf : MethodName := ⟨RX10, "restOf", "(II)I"⟩
abbrev cX10_isOpen : ByteArray := prog_12_method_84_code
def yX10_isOpen : MethodName := ⟨RX10, "isOpen", "(I)Z"⟩
abbrev cX10_rests : ByteArray := prog_12_method_85_code
def yX10_rests : MethodName := ⟨RX10, "rests", "(I)I"⟩
abbrev cX10_rest : ByteArray := prog_12_method_86_code
def yX10_rest : MethodName := ⟨RX10, "rest", "(II)I"⟩
abbrev cX10_common : ByteArray := prog_12_method_87_code
def yX10_common : MethodName := ⟨RX10, "common", "(JJ)J"⟩
abbrev cX10_whole : ByteArray := prog_12_method_88_code
def yX10_whole : MethodName := ⟨RX10, "whole", "(II)J"⟩
abbrev cX10_unmet : ByteArray := prog_12_method_89_code
def yX10_unmet : MethodName := ⟨RX10, "unmet", "()I"⟩
abbrev cX10_noted : ByteArray := prog_12_method_90_code
def yX10_noted : MethodName := ⟨RX10, "noted", "(IIIZ)I"⟩
abbrev cX10_note : ByteArray := prog_12_method_91_code
def yX10_note : MethodName := ⟨RX10, "note", "(IIZ)I"⟩
abbrev cX10_see : ByteArray := prog_12_method_92_code
def yX10_see : MethodName := ⟨RX10, "see", "(IIZ)I"⟩
abbrev cX10_strike : ByteArray := prog_12_method_93_code
def yX10_strike : MethodName := ⟨RX10, "strike", "(I)I"⟩
abbrev cX10_known : ByteArray := prog_12_method_94_code
def yX10_known : MethodName := ⟨RX10, "known", "(I)Z"⟩
abbrev cX10_knownMany : ByteArray := prog_12_method_95_code
def yX10_knownMany : MethodName := ⟨RX10, "knownMany", "()I"⟩
abbrev cX10_strikes : ByteArray := prog_12_method_96_code
def yX10_strikes : MethodName := ⟨RX10, "strikes", "()V"⟩
abbrev cX10_isNoted : ByteArray := prog_12_method_97_code
def yX10_isNoted : MethodName := ⟨RX10, "isNoted", "(I)Z"⟩
abbrev cX10_whichOnes : ByteArray := prog_12_method_98_code
def yX10_whichOnes : MethodName := ⟨RX10, "whichOnes", "()I"⟩
abbrev cX10_which : ByteArray := prog_12_method_99_code
def yX10_which : MethodName := ⟨RX10, "which", "()I"⟩
abbrev cX10_ask : ByteArray := prog_12_method_100_code
def yX10_ask : MethodName := ⟨RX10, "ask", "(I)I"⟩
abbrev cX10_isSo : ByteArray := prog_12_method_101_code
def yX10_isSo : MethodName := ⟨RX10, "isSo", "(I)Z"⟩
abbrev cX10_fitsDents : ByteArray := prog_12_method_102_code
def yX10_fitsDents : MethodName := ⟨RX10, "fitsDents", "(III)Z"⟩
abbrev cX10_dented : ByteArray := prog_12_method_103_code
def yX10_dented : MethodName := ⟨RX10, "dented", "(I)I"⟩
abbrev cX10_chance : ByteArray := prog_12_method_104_code
def yX10_chance : MethodName := ⟨RX10, "chance", "(III)I"⟩
abbrev cX10_tried : ByteArray := prog_12_method_105_code
def yX10_tried : MethodName := ⟨RX10, "tried", "(III)I"⟩
abbrev cX10_undo : ByteArray := prog_12_method_106_code
def yX10_undo : MethodName := ⟨RX10, "undo", "()I"⟩
abbrev cX10_keep : ByteArray := prog_12_method_107_code
def yX10_keep : MethodName := ⟨RX10, "keep", "()I"⟩
abbrev cX10_back : ByteArray := prog_12_method_108_code
def yX10_back : MethodName := ⟨RX10, "back", "()I"⟩
abbrev cX10_count : ByteArray := prog_12_method_109_code
def yX10_count : MethodName := ⟨RX10, "count", "(I)I"⟩
def RJx145de : String := "java/io/Serializable"
def TJx145de : u_T := fun k => match k with
  | _ => ("", "", "", false)
def tyJx145de : Nat → FieldType := fun k => match k with
  | _ => .int
abbrev wsJx145de0 : List Cond := u_ws RJx145de TJx145de 0
theorem nmJx145de : ∀ a, a < 0 → ∀ b, b < 0 → a ≠ b → (TJx145de a).2.1 ≠ (TJx145de b).2.1 := by decide +kernel
theorem tyJx145de_ok : ∀ k, k < 0 → parseFieldDescriptor (TJx145de k).2.2.1 = some (tyJx145de k) := by decide +kernel
def RJx9f9b0 : String := "java/lang/CharSequence"
def TJx9f9b0 : u_T := fun k => match k with
  | _ => ("", "", "", false)
def tyJx9f9b0 : Nat → FieldType := fun k => match k with
  | _ => .int
abbrev wsJx9f9b00 : List Cond := u_ws RJx9f9b0 TJx9f9b0 0
theorem nmJx9f9b0 : ∀ a, a < 0 → ∀ b, b < 0 → a ≠ b → (TJx9f9b0 a).2.1 ≠ (TJx9f9b0 b).2.1 := by decide +kernel
theorem tyJx9f9b0_ok : ∀ k, k < 0 → parseFieldDescriptor (TJx9f9b0 k).2.2.1 = some (tyJx9f9b0 k) := by decide +kernel
def RJ11 : String := "java/lang/Character"
def TJ11 : u_T := fun k => match k with
  | _ => ("", "", "", false)
def tyJ11 : Nat → FieldType := fun k => match k with
  | _ => .int
abbrev wsJ110 : List Cond := u_ws RJ11 TJ11 0
theorem nmJ11 : ∀ a, a < 0 → ∀ b, b < 0 → a ≠ b → (TJ11 a).2.1 ≠ (TJ11 b).2.1 := by decide +kernel
theorem tyJ11_ok : ∀ k, k < 0 → parseFieldDescriptor (TJ11 k).2.2.1 = some (tyJ11 k) := by decide +kernel
abbrev cJ11_isValidCodePoint_9a6ad : ByteArray := prog_15_method_11_code
def yJ11_isValidCodePoint_9a6ad : MethodName := ⟨RJ11, "isValidCodePoint", "(I)Z"⟩
abbrev cJ11_highSurrogate_5068e : ByteArray := prog_15_method_28_code
def yJ11_highSurrogate_5068e : MethodName := ⟨RJ11, "highSurrogate", "(I)C"⟩
abbrev cJ11_lowSurrogate_5068e : ByteArray := prog_15_method_29_code
def yJ11_lowSurrogate_5068e : MethodName := ⟨RJ11, "lowSurrogate", "(I)C"⟩
def RJxb160c : String := "java/lang/Comparable"
def TJxb160c : u_T := fun k => match k with
  | _ => ("", "", "", false)
def tyJxb160c : Nat → FieldType := fun k => match k with
  | _ => .int
abbrev wsJxb160c0 : List Cond := u_ws RJxb160c TJxb160c 0
theorem nmJxb160c : ∀ a, a < 0 → ∀ b, b < 0 → a ≠ b → (TJxb160c a).2.1 ≠ (TJxb160c b).2.1 := by decide +kernel
theorem tyJxb160c_ok : ∀ k, k < 0 → parseFieldDescriptor (TJxb160c k).2.2.1 = some (tyJxb160c k) := by decide +kernel
def RJ6 : String := "java/lang/Integer"
def TJ6 : u_T := fun k => match k with
  | _ => ("", "", "", false)
def tyJ6 : Nat → FieldType := fun k => match k with
  | _ => .int
abbrev wsJ60 : List Cond := u_ws RJ6 TJ6 0
theorem nmJ6 : ∀ a, a < 0 → ∀ b, b < 0 → a ≠ b → (TJ6 a).2.1 ≠ (TJ6 b).2.1 := by decide +kernel
theorem tyJ6_ok : ∀ k, k < 0 → parseFieldDescriptor (TJ6 k).2.2.1 = some (tyJ6 k) := by decide +kernel
abbrev cJ6_bitCount_0f7a4 : ByteArray := prog_19_method_49_code
def yJ6_bitCount_0f7a4 : MethodName := ⟨RJ6, "bitCount", "(I)I"⟩
def RJ9 : String := "java/lang/Math"
def TJ9 : u_T := fun k => match k with
  | _ => ("", "", "", false)
def tyJ9 : Nat → FieldType := fun k => match k with
  | _ => .int
abbrev wsJ90 : List Cond := u_ws RJ9 TJ9 0
theorem nmJ9 : ∀ a, a < 0 → ∀ b, b < 0 → a ≠ b → (TJ9 a).2.1 ≠ (TJ9 b).2.1 := by decide +kernel
theorem tyJ9_ok : ∀ k, k < 0 → parseFieldDescriptor (TJ9 k).2.2.1 = some (tyJ9 k) := by decide +kernel
abbrev cJ9_abs_067f4 : ByteArray := prog_20_method_61_code
def yJ9_abs_067f4 : MethodName := ⟨RJ9, "abs", "(J)J"⟩
abbrev cJ9_max_7cf53 : ByteArray := prog_20_method_65_code
def yJ9_max_7cf53 : MethodName := ⟨RJ9, "max", "(II)I"⟩
abbrev cJ9_max_f86c9 : ByteArray := prog_20_method_66_code
def yJ9_max_f86c9 : MethodName := ⟨RJ9, "max", "(JJ)J"⟩
abbrev cJ9_min_7cf53 : ByteArray := prog_20_method_69_code
def yJ9_min_7cf53 : MethodName := ⟨RJ9, "min", "(II)I"⟩
abbrev cJ9_min_f86c9 : ByteArray := prog_20_method_70_code
def yJ9_min_f86c9 : MethodName := ⟨RJ9, "min", "(JJ)J"⟩
def RJ0 : String := "java/lang/String"
def TJ0 : u_T := fun k => match k with
  | _ => ("", "", "", false)
def tyJ0 : Nat → FieldType := fun k => match k with
  | _ => .int
abbrev wsJ00 : List Cond := u_ws RJ0 TJ0 0
theorem nmJ0 : ∀ a, a < 0 → ∀ b, b < 0 → a ≠ b → (TJ0 a).2.1 ≠ (TJ0 b).2.1 := by decide +kernel
theorem tyJ0_ok : ∀ k, k < 0 → parseFieldDescriptor (TJ0 k).2.2.1 = some (tyJ0 k) := by decide +kernel
abbrev cJ0_length_8abf5 : ByteArray := prog_22_method_54_code
def yJ0_length_8abf5 : MethodName := ⟨RJ0, "length", "()I"⟩
abbrev cJ0_charAt_5068e : ByteArray := prog_22_method_56_code
def yJ0_charAt_5068e : MethodName := ⟨RJ0, "charAt", "(I)C"⟩
abbrev cJ0_indexOf_0f7a4 : ByteArray := prog_22_method_79_code
def yJ0_indexOf_0f7a4 : MethodName := ⟨RJ0, "indexOf", "(I)I"⟩
abbrev cJ0_indexOf_7cf53 : ByteArray := prog_22_method_80_code
def yJ0_indexOf_7cf53 : MethodName := ⟨RJ0, "indexOf", "(II)I"⟩
abbrev cJ0_coder_7d493 : ByteArray := prog_22_method_152_code
def yJ0_coder_7d493 : MethodName := ⟨RJ0, "coder", "()B"⟩
abbrev cJ0_isLatin1_aae02 : ByteArray := prog_22_method_154_code
def yJ0_isLatin1_aae02 : MethodName := ⟨RJ0, "isLatin1", "()Z"⟩
abbrev cJ0_checkIndex_df160 : ByteArray := prog_22_method_155_code
def yJ0_checkIndex_df160 : MethodName := ⟨RJ0, "checkIndex", "(II)V"⟩
abbrev cJ0_checkBoundsBeginEnd_23922 : ByteArray := prog_22_method_158_code
def yJ0_checkBoundsBeginEnd_23922 : MethodName := ⟨RJ0, "checkBoundsBeginEnd", "(III)V"⟩
def RJ1 : String := "java/lang/StringLatin1"
def TJ1 : u_T := fun k => match k with
  | _ => ("", "", "", false)
def tyJ1 : Nat → FieldType := fun k => match k with
  | _ => .int
abbrev wsJ10 : List Cond := u_ws RJ1 TJ1 0
theorem nmJ1 : ∀ a, a < 0 → ∀ b, b < 0 → a ≠ b → (TJ1 a).2.1 ≠ (TJ1 b).2.1 := by decide +kernel
theorem tyJ1_ok : ∀ k, k < 0 → parseFieldDescriptor (TJ1 k).2.2.1 = some (tyJ1 k) := by decide +kernel
abbrev cJ1_charAt_3b067 : ByteArray := prog_23_method_2_code
def yJ1_charAt_3b067 : MethodName := ⟨RJ1, "charAt", "([BI)C"⟩
abbrev cJ1_canEncode_9a6ad : ByteArray := prog_23_method_4_code
def yJ1_canEncode_9a6ad : MethodName := ⟨RJ1, "canEncode", "(I)Z"⟩
abbrev cJ1_indexOf_4cfef : ByteArray := prog_23_method_22_code
def yJ1_indexOf_4cfef : MethodName := ⟨RJ1, "indexOf", "([BIII)I"⟩
abbrev cJ1_indexOfChar_4cfef : ByteArray := prog_23_method_23_code
def yJ1_indexOfChar_4cfef : MethodName := ⟨RJ1, "indexOfChar", "([BIII)I"⟩
def RJ2 : String := "java/lang/StringUTF16"
def TJ2 : u_T := fun k => match k with
  | _ => ("", "", "", false)
def tyJ2 : Nat → FieldType := fun k => match k with
  | _ => .int
abbrev wsJ20 : List Cond := u_ws RJ2 TJ2 0
theorem nmJ2 : ∀ a, a < 0 → ∀ b, b < 0 → a ≠ b → (TJ2 a).2.1 ≠ (TJ2 b).2.1 := by decide +kernel
theorem tyJ2_ok : ∀ k, k < 0 → parseFieldDescriptor (TJ2 k).2.2.1 = some (tyJ2 k) := by decide +kernel
abbrev cJ2_getChar_3b067 : ByteArray := prog_24_method_5_code
def yJ2_getChar_3b067 : MethodName := ⟨RJ2, "getChar", "([BI)C"⟩
abbrev cJ2_length_9d52b : ByteArray := prog_24_method_6_code
def yJ2_length_9d52b : MethodName := ⟨RJ2, "length", "([B)I"⟩
abbrev cJ2_indexOf_4cfef : ByteArray := prog_24_method_40_code
def yJ2_indexOf_4cfef : MethodName := ⟨RJ2, "indexOf", "([BIII)I"⟩
abbrev cJ2_indexOfChar_4cfef : ByteArray := prog_24_method_47_code
def yJ2_indexOfChar_4cfef : MethodName := ⟨RJ2, "indexOfChar", "([BIII)I"⟩
abbrev cJ2_indexOfCharUnsafe_4cfef : ByteArray := prog_24_method_48_code
def yJ2_indexOfCharUnsafe_4cfef : MethodName := ⟨RJ2, "indexOfCharUnsafe", "([BIII)I"⟩
abbrev cJ2_indexOfSupplementary_4cfef : ByteArray := prog_24_method_49_code
def yJ2_indexOfSupplementary_4cfef : MethodName := ⟨RJ2, "indexOfSupplementary", "([BIII)I"⟩
abbrev cJ2_charAt_3b067 : ByteArray := prog_24_method_83_code
def yJ2_charAt_3b067 : MethodName := ⟨RJ2, "charAt", "([BI)C"⟩
abbrev cJ2_checkIndex_2214a : ByteArray := prog_24_method_91_code
def yJ2_checkIndex_2214a : MethodName := ⟨RJ2, "checkIndex", "(I[B)V"⟩
abbrev cJ2_checkBoundsBeginEnd_d044e : ByteArray := prog_24_method_93_code
def yJ2_checkBoundsBeginEnd_d044e : MethodName := ⟨RJ2, "checkBoundsBeginEnd", "(II[B)V"⟩
def RJ10 : String := "java/lang/System"
def TJ10 : u_T := fun k => match k with
  | _ => ("", "", "", false)
def tyJ10 : Nat → FieldType := fun k => match k with
  | _ => .int
abbrev wsJ100 : List Cond := u_ws RJ10 TJ10 0
theorem nmJ10 : ∀ a, a < 0 → ∀ b, b < 0 → a ≠ b → (TJ10 a).2.1 ≠ (TJ10 b).2.1 := by decide +kernel
theorem tyJ10_ok : ∀ k, k < 0 → parseFieldDescriptor (TJ10 k).2.2.1 = some (tyJ10 k) := by decide +kernel
def RJxfd54e : String := "java/lang/constant/Constable"
def TJxfd54e : u_T := fun k => match k with
  | _ => ("", "", "", false)
def tyJxfd54e : Nat → FieldType := fun k => match k with
  | _ => .int
abbrev wsJxfd54e0 : List Cond := u_ws RJxfd54e TJxfd54e 0
theorem nmJxfd54e : ∀ a, a < 0 → ∀ b, b < 0 → a ≠ b → (TJxfd54e a).2.1 ≠ (TJxfd54e b).2.1 := by decide +kernel
theorem tyJxfd54e_ok : ∀ k, k < 0 → parseFieldDescriptor (TJxfd54e k).2.2.1 = some (tyJxfd54e k) := by decide +kernel
def RJx3cf43 : String := "java/lang/constant/ConstantDesc"
def TJx3cf43 : u_T := fun k => match k with
  | _ => ("", "", "", false)
def tyJx3cf43 : Nat → FieldType := fun k => match k with
  | _ => .int
abbrev wsJx3cf430 : List Cond := u_ws RJx3cf43 TJx3cf43 0
theorem nmJx3cf43 : ∀ a, a < 0 → ∀ b, b < 0 → a ≠ b → (TJx3cf43 a).2.1 ≠ (TJx3cf43 b).2.1 := by decide +kernel
theorem tyJx3cf43_ok : ∀ k, k < 0 → parseFieldDescriptor (TJx3cf43 k).2.2.1 = some (tyJx3cf43 k) := by decide +kernel
def RJ3 : String := "jdk/internal/util/Preconditions"
def TJ3 : u_T := fun k => match k with
  | _ => ("", "", "", false)
def tyJ3 : Nat → FieldType := fun k => match k with
  | _ => .int
abbrev wsJ30 : List Cond := u_ws RJ3 TJ3 0
theorem nmJ3 : ∀ a, a < 0 → ∀ b, b < 0 → a ≠ b → (TJ3 a).2.1 ≠ (TJ3 b).2.1 := by decide +kernel
theorem tyJ3_ok : ∀ k, k < 0 → parseFieldDescriptor (TJ3 k).2.2.1 = some (tyJ3 k) := by decide +kernel
abbrev cJ3_checkIndex_8e157 : ByteArray := prog_30_method_11_code
def yJ3_checkIndex_8e157 : MethodName := ⟨RJ3, "checkIndex", "(IILjava/util/function/BiFunction;)I"⟩
abbrev cJ3_checkFromToIndex_8c36e : ByteArray := prog_30_method_12_code
def yJ3_checkFromToIndex_8c36e : MethodName := ⟨RJ3, "checkFromToIndex", "(IIILjava/util/function/BiFunction;)I"⟩
def RL : String := "TinNationLaw"
abbrev cL_tin : ByteArray := method_3_code
def yL_tin : MethodName := ⟨RL, "tin", "(LTinNation;II[J)I"⟩
abbrev cL_law : ByteArray := code
def yL_law : MethodName := ⟨RL, "law", "([I)Z"⟩
abbrev vwCl : List vw_C := [(RX0, TX0, 5), (RX1, TX1, 7), (RX2, TX2, 6), (RX3, TX3, 10), (RX4, TX4, 3), (RX5, TX5, 7), (RX6, TX6, 15), (RX7, TX7, 1), (RX8, TX8, 2), (RX9, TX9, 13), (RX10, TX10, 66)]
