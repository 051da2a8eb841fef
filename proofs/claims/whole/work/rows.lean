section
-- ===== PART A: goes FIRST, ahead of the names: the tables' words, and 'selects' of the private methods out of them =====
/-- a private method of a class that the tables say can be made, by its rows of tables_1 -/
def lw_okq (q : MethodName × Nat) : Prop := (q.1.cls ≠ "java/lang/invoke/MethodHandle" ∧ q.1.cls ≠ "java/lang/invoke/VarHandle") ∧ Cond.instantiable q.1.cls q.2 ∈ tables_1 ∧ Cond.privateMethod q.1 ∈ tables_1 ∧ Cond.instanceMethod q.1 ∈ tables_1
theorem lw_p0 : lw_okq (⟨"TinNation", "tapeNumber", "(I)V"⟩, 13) := ⟨⟨by decide +kernel, by decide +kernel⟩, List.mem_of_getElem? (i := 26) (by decide +kernel), List.mem_of_getElem? (i := 458) (by decide +kernel), List.mem_of_getElem? (i := 459) (by decide +kernel)⟩
theorem lw_p1 : lw_okq (⟨"TinNation$Scanner", "takeWord", "()V"⟩, 7) := ⟨⟨by decide +kernel, by decide +kernel⟩, List.mem_of_getElem? (i := 160) (by decide +kernel), List.mem_of_getElem? (i := 487) (by decide +kernel), List.mem_of_getElem? (i := 488) (by decide +kernel)⟩
theorem lw_p2 : lw_okq (⟨"TinNation$Scanner", "takeNumber", "()V"⟩, 7) := ⟨⟨by decide +kernel, by decide +kernel⟩, List.mem_of_getElem? (i := 160) (by decide +kernel), List.mem_of_getElem? (i := 491) (by decide +kernel), List.mem_of_getElem? (i := 492) (by decide +kernel)⟩
theorem lw_p3 : lw_okq (⟨"TinNation$Scanner", "takeSign", "()V"⟩, 7) := ⟨⟨by decide +kernel, by decide +kernel⟩, List.mem_of_getElem? (i := 160) (by decide +kernel), List.mem_of_getElem? (i := 496) (by decide +kernel), List.mem_of_getElem? (i := 497) (by decide +kernel)⟩
theorem lw_p4 : lw_okq (⟨"TinNation$Parser", "line", "()V"⟩, 6) := ⟨⟨by decide +kernel, by decide +kernel⟩, List.mem_of_getElem? (i := 34) (by decide +kernel), List.mem_of_getElem? (i := 565) (by decide +kernel), List.mem_of_getElem? (i := 566) (by decide +kernel)⟩
theorem lw_p5 : lw_okq (⟨"TinNation$Parser", "kindLine", "()V"⟩, 6) := ⟨⟨by decide +kernel, by decide +kernel⟩, List.mem_of_getElem? (i := 34) (by decide +kernel), List.mem_of_getElem? (i := 569) (by decide +kernel), List.mem_of_getElem? (i := 570) (by decide +kernel)⟩
theorem lw_p6 : lw_okq (⟨"TinNation$Parser", "room", "(LTinNation$Rows;)V"⟩, 6) := ⟨⟨by decide +kernel, by decide +kernel⟩, List.mem_of_getElem? (i := 34) (by decide +kernel), List.mem_of_getElem? (i := 573) (by decide +kernel), List.mem_of_getElem? (i := 574) (by decide +kernel)⟩
theorem lw_p7 : lw_okq (⟨"TinNation$Parser", "fail", "(I)V"⟩, 6) := ⟨⟨by decide +kernel, by decide +kernel⟩, List.mem_of_getElem? (i := 34) (by decide +kernel), List.mem_of_getElem? (i := 581) (by decide +kernel), List.mem_of_getElem? (i := 582) (by decide +kernel)⟩
theorem lw_p8 : lw_okq (⟨"TinNation$Parser", "newName", "(LTinNation$Rows;)I"⟩, 6) := ⟨⟨by decide +kernel, by decide +kernel⟩, List.mem_of_getElem? (i := 34) (by decide +kernel), List.mem_of_getElem? (i := 585) (by decide +kernel), List.mem_of_getElem? (i := 586) (by decide +kernel)⟩
theorem lw_p9 : lw_okq (⟨"TinNation$Parser", "number", "(II)I"⟩, 6) := ⟨⟨by decide +kernel, by decide +kernel⟩, List.mem_of_getElem? (i := 34) (by decide +kernel), List.mem_of_getElem? (i := 593) (by decide +kernel), List.mem_of_getElem? (i := 594) (by decide +kernel)⟩
theorem lw_p10 : lw_okq (⟨"TinNation$Parser", "tinLine", "()V"⟩, 6) := ⟨⟨by decide +kernel, by decide +kernel⟩, List.mem_of_getElem? (i := 34) (by decide +kernel), List.mem_of_getElem? (i := 606) (by decide +kernel), List.mem_of_getElem? (i := 607) (by decide +kernel)⟩
theorem lw_p11 : lw_okq (⟨"TinNation$Parser", "toldName", "(LTinNation$Rows;)I"⟩, 6) := ⟨⟨by decide +kernel, by decide +kernel⟩, List.mem_of_getElem? (i := 34) (by decide +kernel), List.mem_of_getElem? (i := 610) (by decide +kernel), List.mem_of_getElem? (i := 611) (by decide +kernel)⟩
theorem lw_p12 : lw_okq (⟨"TinNation$Parser", "openLine", "()V"⟩, 6) := ⟨⟨by decide +kernel, by decide +kernel⟩, List.mem_of_getElem? (i := 34) (by decide +kernel), List.mem_of_getElem? (i := 615) (by decide +kernel), List.mem_of_getElem? (i := 616) (by decide +kernel)⟩
theorem lw_p13 : lw_okq (⟨"TinNation$Parser", "wantLine", "()V"⟩, 6) := ⟨⟨by decide +kernel, by decide +kernel⟩, List.mem_of_getElem? (i := 34) (by decide +kernel), List.mem_of_getElem? (i := 619) (by decide +kernel), List.mem_of_getElem? (i := 620) (by decide +kernel)⟩
theorem lw_p14 : lw_okq (⟨"TinNation$Parser", "onceLine", "(I)I"⟩, 6) := ⟨⟨by decide +kernel, by decide +kernel⟩, List.mem_of_getElem? (i := 34) (by decide +kernel), List.mem_of_getElem? (i := 623) (by decide +kernel), List.mem_of_getElem? (i := 624) (by decide +kernel)⟩
theorem lw_p15 : lw_okq (⟨"TinNation$Parser", "lawLine", "()V"⟩, 6) := ⟨⟨by decide +kernel, by decide +kernel⟩, List.mem_of_getElem? (i := 34) (by decide +kernel), List.mem_of_getElem? (i := 628) (by decide +kernel), List.mem_of_getElem? (i := 629) (by decide +kernel)⟩
def lw_privs_1 : List (MethodName × Nat) := [(⟨"TinNation", "tapeNumber", "(I)V"⟩, 13), (⟨"TinNation$Scanner", "takeWord", "()V"⟩, 7), (⟨"TinNation$Scanner", "takeNumber", "()V"⟩, 7), (⟨"TinNation$Scanner", "takeSign", "()V"⟩, 7), (⟨"TinNation$Parser", "line", "()V"⟩, 6), (⟨"TinNation$Parser", "kindLine", "()V"⟩, 6), (⟨"TinNation$Parser", "room", "(LTinNation$Rows;)V"⟩, 6), (⟨"TinNation$Parser", "fail", "(I)V"⟩, 6), (⟨"TinNation$Parser", "newName", "(LTinNation$Rows;)I"⟩, 6), (⟨"TinNation$Parser", "number", "(II)I"⟩, 6), (⟨"TinNation$Parser", "tinLine", "()V"⟩, 6), (⟨"TinNation$Parser", "toldName", "(LTinNation$Rows;)I"⟩, 6), (⟨"TinNation$Parser", "openLine", "()V"⟩, 6), (⟨"TinNation$Parser", "wantLine", "()V"⟩, 6), (⟨"TinNation$Parser", "onceLine", "(I)I"⟩, 6), (⟨"TinNation$Parser", "lawLine", "()V"⟩, 6)]
theorem lw_r1 : ∀ q ∈ lw_privs_1, lw_okq q := List.forall_mem_cons.mpr ⟨lw_p0, List.forall_mem_cons.mpr ⟨lw_p1, List.forall_mem_cons.mpr ⟨lw_p2, List.forall_mem_cons.mpr ⟨lw_p3, List.forall_mem_cons.mpr ⟨lw_p4, List.forall_mem_cons.mpr ⟨lw_p5, List.forall_mem_cons.mpr ⟨lw_p6, List.forall_mem_cons.mpr ⟨lw_p7, List.forall_mem_cons.mpr ⟨lw_p8, List.forall_mem_cons.mpr ⟨lw_p9, List.forall_mem_cons.mpr ⟨lw_p10, List.forall_mem_cons.mpr ⟨lw_p11, List.forall_mem_cons.mpr ⟨lw_p12, List.forall_mem_cons.mpr ⟨lw_p13, List.forall_mem_cons.mpr ⟨lw_p14, List.forall_mem_cons.mpr ⟨lw_p15, fun _ h => absurd h List.not_mem_nil⟩⟩⟩⟩⟩⟩⟩⟩⟩⟩⟩⟩⟩⟩⟩⟩
theorem lw_p16 : lw_okq (⟨"TinNation$Parser", "either", "(I)V"⟩, 6) := ⟨⟨by decide +kernel, by decide +kernel⟩, List.mem_of_getElem? (i := 34) (by decide +kernel), List.mem_of_getElem? (i := 643) (by decide +kernel), List.mem_of_getElem? (i := 644) (by decide +kernel)⟩
theorem lw_p17 : lw_okq (⟨"TinNation$Parser", "both", "(I)V"⟩, 6) := ⟨⟨by decide +kernel, by decide +kernel⟩, List.mem_of_getElem? (i := 34) (by decide +kernel), List.mem_of_getElem? (i := 647) (by decide +kernel), List.mem_of_getElem? (i := 648) (by decide +kernel)⟩
theorem lw_p18 : lw_okq (⟨"TinNation$Parser", "denied", "(I)V"⟩, 6) := ⟨⟨by decide +kernel, by decide +kernel⟩, List.mem_of_getElem? (i := 34) (by decide +kernel), List.mem_of_getElem? (i := 651) (by decide +kernel), List.mem_of_getElem? (i := 652) (by decide +kernel)⟩
theorem lw_p19 : lw_okq (⟨"TinNation$Parser", "knot", "()V"⟩, 6) := ⟨⟨by decide +kernel, by decide +kernel⟩, List.mem_of_getElem? (i := 34) (by decide +kernel), List.mem_of_getElem? (i := 655) (by decide +kernel), List.mem_of_getElem? (i := 656) (by decide +kernel)⟩
theorem lw_p20 : lw_okq (⟨"TinNation$Parser", "compared", "(I)V"⟩, 6) := ⟨⟨by decide +kernel, by decide +kernel⟩, List.mem_of_getElem? (i := 34) (by decide +kernel), List.mem_of_getElem? (i := 659) (by decide +kernel), List.mem_of_getElem? (i := 660) (by decide +kernel)⟩
theorem lw_p21 : lw_okq (⟨"TinNation$Parser", "sum", "(I)V"⟩, 6) := ⟨⟨by decide +kernel, by decide +kernel⟩, List.mem_of_getElem? (i := 34) (by decide +kernel), List.mem_of_getElem? (i := 663) (by decide +kernel), List.mem_of_getElem? (i := 664) (by decide +kernel)⟩
theorem lw_p22 : lw_okq (⟨"TinNation$Parser", "product", "(I)V"⟩, 6) := ⟨⟨by decide +kernel, by decide +kernel⟩, List.mem_of_getElem? (i := 34) (by decide +kernel), List.mem_of_getElem? (i := 667) (by decide +kernel), List.mem_of_getElem? (i := 668) (by decide +kernel)⟩
theorem lw_p23 : lw_okq (⟨"TinNation$Parser", "part", "(I)V"⟩, 6) := ⟨⟨by decide +kernel, by decide +kernel⟩, List.mem_of_getElem? (i := 34) (by decide +kernel), List.mem_of_getElem? (i := 671) (by decide +kernel), List.mem_of_getElem? (i := 672) (by decide +kernel)⟩
theorem lw_p24 : lw_okq (⟨"TinNation$Parser", "emit", "(I)V"⟩, 6) := ⟨⟨by decide +kernel, by decide +kernel⟩, List.mem_of_getElem? (i := 34) (by decide +kernel), List.mem_of_getElem? (i := 675) (by decide +kernel), List.mem_of_getElem? (i := 676) (by decide +kernel)⟩
theorem lw_p25 : lw_okq (⟨"TinNation$Parser", "bracket", "(I)V"⟩, 6) := ⟨⟨by decide +kernel, by decide +kernel⟩, List.mem_of_getElem? (i := 34) (by decide +kernel), List.mem_of_getElem? (i := 683) (by decide +kernel), List.mem_of_getElem? (i := 684) (by decide +kernel)⟩
theorem lw_p26 : lw_okq (⟨"TinNation$Parser", "expect", "(I)V"⟩, 6) := ⟨⟨by decide +kernel, by decide +kernel⟩, List.mem_of_getElem? (i := 34) (by decide +kernel), List.mem_of_getElem? (i := 687) (by decide +kernel), List.mem_of_getElem? (i := 688) (by decide +kernel)⟩
theorem lw_p27 : lw_okq (⟨"TinNation", "tinsOf", "(II)I"⟩, 13) := ⟨⟨by decide +kernel, by decide +kernel⟩, List.mem_of_getElem? (i := 26) (by decide +kernel), List.mem_of_getElem? (i := 738) (by decide +kernel), List.mem_of_getElem? (i := 739) (by decide +kernel)⟩
theorem lw_p28 : lw_okq (⟨"TinNation$Days", "openTold", "(LTinNation$State;)V"⟩, 5) := ⟨⟨by decide +kernel, by decide +kernel⟩, List.mem_of_getElem? (i := 257) (by decide +kernel), List.mem_of_getElem? (i := 850) (by decide +kernel), List.mem_of_getElem? (i := 851) (by decide +kernel)⟩
theorem lw_p29 : lw_okq (⟨"TinNation$Days", "serve", "(LTinNation$State;)V"⟩, 5) := ⟨⟨by decide +kernel, by decide +kernel⟩, List.mem_of_getElem? (i := 257) (by decide +kernel), List.mem_of_getElem? (i := 858) (by decide +kernel), List.mem_of_getElem? (i := 859) (by decide +kernel)⟩
theorem lw_p30 : lw_okq (⟨"TinNation$Days", "server", "(LTinNation$State;II)I"⟩, 5) := ⟨⟨by decide +kernel, by decide +kernel⟩, List.mem_of_getElem? (i := 257) (by decide +kernel), List.mem_of_getElem? (i := 862) (by decide +kernel), List.mem_of_getElem? (i := 863) (by decide +kernel)⟩
theorem lw_p31 : lw_okq (⟨"TinNation$Days", "goOff", "(LTinNation$State;)V"⟩, 5) := ⟨⟨by decide +kernel, by decide +kernel⟩, List.mem_of_getElem? (i := 257) (by decide +kernel), List.mem_of_getElem? (i := 867) (by decide +kernel), List.mem_of_getElem? (i := 868) (by decide +kernel)⟩
def lw_privs_2 : List (MethodName × Nat) := [(⟨"TinNation$Parser", "either", "(I)V"⟩, 6), (⟨"TinNation$Parser", "both", "(I)V"⟩, 6), (⟨"TinNation$Parser", "denied", "(I)V"⟩, 6), (⟨"TinNation$Parser", "knot", "()V"⟩, 6), (⟨"TinNation$Parser", "compared", "(I)V"⟩, 6), (⟨"TinNation$Parser", "sum", "(I)V"⟩, 6), (⟨"TinNation$Parser", "product", "(I)V"⟩, 6), (⟨"TinNation$Parser", "part", "(I)V"⟩, 6), (⟨"TinNation$Parser", "emit", "(I)V"⟩, 6), (⟨"TinNation$Parser", "bracket", "(I)V"⟩, 6), (⟨"TinNation$Parser", "expect", "(I)V"⟩, 6), (⟨"TinNation", "tinsOf", "(II)I"⟩, 13), (⟨"TinNation$Days", "openTold", "(LTinNation$State;)V"⟩, 5), (⟨"TinNation$Days", "serve", "(LTinNation$State;)V"⟩, 5), (⟨"TinNation$Days", "server", "(LTinNation$State;II)I"⟩, 5), (⟨"TinNation$Days", "goOff", "(LTinNation$State;)V"⟩, 5)]
theorem lw_r2 : ∀ q ∈ lw_privs_2, lw_okq q := List.forall_mem_cons.mpr ⟨lw_p16, List.forall_mem_cons.mpr ⟨lw_p17, List.forall_mem_cons.mpr ⟨lw_p18, List.forall_mem_cons.mpr ⟨lw_p19, List.forall_mem_cons.mpr ⟨lw_p20, List.forall_mem_cons.mpr ⟨lw_p21, List.forall_mem_cons.mpr ⟨lw_p22, List.forall_mem_cons.mpr ⟨lw_p23, List.forall_mem_cons.mpr ⟨lw_p24, List.forall_mem_cons.mpr ⟨lw_p25, List.forall_mem_cons.mpr ⟨lw_p26, List.forall_mem_cons.mpr ⟨lw_p27, List.forall_mem_cons.mpr ⟨lw_p28, List.forall_mem_cons.mpr ⟨lw_p29, List.forall_mem_cons.mpr ⟨lw_p30, List.forall_mem_cons.mpr ⟨lw_p31, fun _ h => absurd h List.not_mem_nil⟩⟩⟩⟩⟩⟩⟩⟩⟩⟩⟩⟩⟩⟩⟩⟩
theorem lw_p32 : lw_okq (⟨"TinNation$Days", "rust", "(LTinNation$State;)V"⟩, 5) := ⟨⟨by decide +kernel, by decide +kernel⟩, List.mem_of_getElem? (i := 257) (by decide +kernel), List.mem_of_getElem? (i := 871) (by decide +kernel), List.mem_of_getElem? (i := 872) (by decide +kernel)⟩
theorem lw_p33 : lw_okq (⟨"TinNation$Days", "rusts", "(LTinNation$State;I)Z"⟩, 5) := ⟨⟨by decide +kernel, by decide +kernel⟩, List.mem_of_getElem? (i := 257) (by decide +kernel), List.mem_of_getElem? (i := 876) (by decide +kernel), List.mem_of_getElem? (i := 877) (by decide +kernel)⟩
theorem lw_p34 : lw_okq (⟨"TinNation$Days", "blow", "(LTinNation$State;)V"⟩, 5) := ⟨⟨by decide +kernel, by decide +kernel⟩, List.mem_of_getElem? (i := 257) (by decide +kernel), List.mem_of_getElem? (i := 889) (by decide +kernel), List.mem_of_getElem? (i := 890) (by decide +kernel)⟩
theorem lw_p35 : lw_okq (⟨"TinNation", "firstClosed", "()I"⟩, 13) := ⟨⟨by decide +kernel, by decide +kernel⟩, List.mem_of_getElem? (i := 26) (by decide +kernel), List.mem_of_getElem? (i := 919) (by decide +kernel), List.mem_of_getElem? (i := 920) (by decide +kernel)⟩
theorem lw_p36 : lw_okq (⟨"TinNation", "gainedInRow", "(I)I"⟩, 13) := ⟨⟨by decide +kernel, by decide +kernel⟩, List.mem_of_getElem? (i := 26) (by decide +kernel), List.mem_of_getElem? (i := 923) (by decide +kernel), List.mem_of_getElem? (i := 924) (by decide +kernel)⟩
theorem lw_p37 : lw_okq (⟨"TinNation", "nextRow", "(I)Z"⟩, 13) := ⟨⟨by decide +kernel, by decide +kernel⟩, List.mem_of_getElem? (i := 26) (by decide +kernel), List.mem_of_getElem? (i := 936) (by decide +kernel), List.mem_of_getElem? (i := 937) (by decide +kernel)⟩
theorem lw_p38 : lw_okq (⟨"TinNation", "swapInRow", "(II)V"⟩, 13) := ⟨⟨by decide +kernel, by decide +kernel⟩, List.mem_of_getElem? (i := 26) (by decide +kernel), List.mem_of_getElem? (i := 941) (by decide +kernel), List.mem_of_getElem? (i := 942) (by decide +kernel)⟩
theorem lw_p39 : lw_okq (⟨"TinNation", "gainedByOpening", "(II)I"⟩, 13) := ⟨⟨by decide +kernel, by decide +kernel⟩, List.mem_of_getElem? (i := 26) (by decide +kernel), List.mem_of_getElem? (i := 949) (by decide +kernel), List.mem_of_getElem? (i := 950) (by decide +kernel)⟩
theorem lw_p40 : lw_okq (⟨"TinNation", "takenOut", "(II)I"⟩, 13) := ⟨⟨by decide +kernel, by decide +kernel⟩, List.mem_of_getElem? (i := 26) (by decide +kernel), List.mem_of_getElem? (i := 957) (by decide +kernel), List.mem_of_getElem? (i := 958) (by decide +kernel)⟩
theorem lw_p41 : lw_okq (⟨"TinNation", "isBelowLonger", "(I)Z"⟩, 13) := ⟨⟨by decide +kernel, by decide +kernel⟩, List.mem_of_getElem? (i := 26) (by decide +kernel), List.mem_of_getElem? (i := 961) (by decide +kernel), List.mem_of_getElem? (i := 962) (by decide +kernel)⟩
theorem lw_p42 : lw_okq (⟨"TinNation", "isSeenSo", "(I)Z"⟩, 13) := ⟨⟨by decide +kernel, by decide +kernel⟩, List.mem_of_getElem? (i := 26) (by decide +kernel), List.mem_of_getElem? (i := 1057) (by decide +kernel), List.mem_of_getElem? (i := 1058) (by decide +kernel)⟩
theorem lw_p43 : lw_okq (⟨"TinNation$Steps", "takeBackOfTin", "(LTinNation$State;II)V"⟩, 1) := ⟨⟨by decide +kernel, by decide +kernel⟩, List.mem_of_getElem? (i := 382) (by decide +kernel), List.mem_of_getElem? (i := 1093) (by decide +kernel), List.mem_of_getElem? (i := 1094) (by decide +kernel)⟩
theorem lw_p44 : lw_okq (⟨"java/lang/Throwable", "fillInStackTrace", "(I)Ljava/lang/Throwable;"⟩, 6) := ⟨⟨by decide +kernel, by decide +kernel⟩, List.mem_of_getElem? (i := 1157) (by decide +kernel), List.mem_of_getElem? (i := 1155) (by decide +kernel), List.mem_of_getElem? (i := 1156) (by decide +kernel)⟩
theorem lw_p45 : lw_okq (⟨"TinNationModel", "begins", "()V"⟩, 66) := ⟨⟨by decide +kernel, by decide +kernel⟩, List.mem_of_getElem? (i := 1202) (by decide +kernel), List.mem_of_getElem? (i := 1208) (by decide +kernel), List.mem_of_getElem? (i := 1209) (by decide +kernel)⟩
theorem lw_p46 : lw_okq (⟨"TinNationModel", "starts", "(I)V"⟩, 66) := ⟨⟨by decide +kernel, by decide +kernel⟩, List.mem_of_getElem? (i := 1202) (by decide +kernel), List.mem_of_getElem? (i := 1212) (by decide +kernel), List.mem_of_getElem? (i := 1213) (by decide +kernel)⟩
theorem lw_p47 : lw_okq (⟨"TinNationModel", "reads", "(II)V"⟩, 66) := ⟨⟨by decide +kernel, by decide +kernel⟩, List.mem_of_getElem? (i := 1202) (by decide +kernel), List.mem_of_getElem? (i := 1428) (by decide +kernel), List.mem_of_getElem? (i := 1429) (by decide +kernel)⟩
def lw_privs_3 : List (MethodName × Nat) := [(⟨"TinNation$Days", "rust", "(LTinNation$State;)V"⟩, 5), (⟨"TinNation$Days", "rusts", "(LTinNation$State;I)Z"⟩, 5), (⟨"TinNation$Days", "blow", "(LTinNation$State;)V"⟩, 5), (⟨"TinNation", "firstClosed", "()I"⟩, 13), (⟨"TinNation", "gainedInRow", "(I)I"⟩, 13), (⟨"TinNation", "nextRow", "(I)Z"⟩, 13), (⟨"TinNation", "swapInRow", "(II)V"⟩, 13), (⟨"TinNation", "gainedByOpening", "(II)I"⟩, 13), (⟨"TinNation", "takenOut", "(II)I"⟩, 13), (⟨"TinNation", "isBelowLonger", "(I)Z"⟩, 13), (⟨"TinNation", "isSeenSo", "(I)Z"⟩, 13), (⟨"TinNation$Steps", "takeBackOfTin", "(LTinNation$State;II)V"⟩, 1), (⟨"java/lang/Throwable", "fillInStackTrace", "(I)Ljava/lang/Throwable;"⟩, 6), (⟨"TinNationModel", "begins", "()V"⟩, 66), (⟨"TinNationModel", "starts", "(I)V"⟩, 66), (⟨"TinNationModel", "reads", "(II)V"⟩, 66)]
theorem lw_r3 : ∀ q ∈ lw_privs_3, lw_okq q := List.forall_mem_cons.mpr ⟨lw_p32, List.forall_mem_cons.mpr ⟨lw_p33, List.forall_mem_cons.mpr ⟨lw_p34, List.forall_mem_cons.mpr ⟨lw_p35, List.forall_mem_cons.mpr ⟨lw_p36, List.forall_mem_cons.mpr ⟨lw_p37, List.forall_mem_cons.mpr ⟨lw_p38, List.forall_mem_cons.mpr ⟨lw_p39, List.forall_mem_cons.mpr ⟨lw_p40, List.forall_mem_cons.mpr ⟨lw_p41, List.forall_mem_cons.mpr ⟨lw_p42, List.forall_mem_cons.mpr ⟨lw_p43, List.forall_mem_cons.mpr ⟨lw_p44, List.forall_mem_cons.mpr ⟨lw_p45, List.forall_mem_cons.mpr ⟨lw_p46, List.forall_mem_cons.mpr ⟨lw_p47, fun _ h => absurd h List.not_mem_nil⟩⟩⟩⟩⟩⟩⟩⟩⟩⟩⟩⟩⟩⟩⟩⟩
theorem lw_p48 : lw_okq (⟨"TinNationModel", "token", "()V"⟩, 66) := ⟨⟨by decide +kernel, by decide +kernel⟩, List.mem_of_getElem? (i := 1202) (by decide +kernel), List.mem_of_getElem? (i := 1432) (by decide +kernel), List.mem_of_getElem? (i := 1433) (by decide +kernel)⟩
theorem lw_p49 : lw_okq (⟨"TinNationModel", "here", "()I"⟩, 66) := ⟨⟨by decide +kernel, by decide +kernel⟩, List.mem_of_getElem? (i := 1202) (by decide +kernel), List.mem_of_getElem? (i := 1436) (by decide +kernel), List.mem_of_getElem? (i := 1437) (by decide +kernel)⟩
theorem lw_p50 : lw_okq (⟨"TinNationModel", "word", "()I"⟩, 66) := ⟨⟨by decide +kernel, by decide +kernel⟩, List.mem_of_getElem? (i := 1202) (by decide +kernel), List.mem_of_getElem? (i := 1443) (by decide +kernel), List.mem_of_getElem? (i := 1444) (by decide +kernel)⟩
theorem lw_p51 : lw_okq (⟨"TinNationModel", "name", "()V"⟩, 66) := ⟨⟨by decide +kernel, by decide +kernel⟩, List.mem_of_getElem? (i := 1202) (by decide +kernel), List.mem_of_getElem? (i := 1450) (by decide +kernel), List.mem_of_getElem? (i := 1451) (by decide +kernel)⟩
theorem lw_p52 : lw_okq (⟨"TinNationModel", "sign", "(I)V"⟩, 66) := ⟨⟨by decide +kernel, by decide +kernel⟩, List.mem_of_getElem? (i := 1202) (by decide +kernel), List.mem_of_getElem? (i := 1458) (by decide +kernel), List.mem_of_getElem? (i := 1459) (by decide +kernel)⟩
theorem lw_p53 : lw_okq (⟨"TinNationModel", "line", "()V"⟩, 66) := ⟨⟨by decide +kernel, by decide +kernel⟩, List.mem_of_getElem? (i := 1202) (by decide +kernel), List.mem_of_getElem? (i := 1462) (by decide +kernel), List.mem_of_getElem? (i := 1463) (by decide +kernel)⟩
theorem lw_p54 : lw_okq (⟨"TinNationModel", "wrong", "(I)V"⟩, 66) := ⟨⟨by decide +kernel, by decide +kernel⟩, List.mem_of_getElem? (i := 1202) (by decide +kernel), List.mem_of_getElem? (i := 1466) (by decide +kernel), List.mem_of_getElem? (i := 1467) (by decide +kernel)⟩
theorem lw_p55 : lw_okq (⟨"TinNationModel", "isFull", "(I)Z"⟩, 66) := ⟨⟨by decide +kernel, by decide +kernel⟩, List.mem_of_getElem? (i := 1202) (by decide +kernel), List.mem_of_getElem? (i := 1470) (by decide +kernel), List.mem_of_getElem? (i := 1471) (by decide +kernel)⟩
theorem lw_p56 : lw_okq (⟨"TinNationModel", "fresher", "(I)I"⟩, 66) := ⟨⟨by decide +kernel, by decide +kernel⟩, List.mem_of_getElem? (i := 1202) (by decide +kernel), List.mem_of_getElem? (i := 1474) (by decide +kernel), List.mem_of_getElem? (i := 1475) (by decide +kernel)⟩
theorem lw_p57 : lw_okq (⟨"TinNationModel", "fresh", "([III)I"⟩, 66) := ⟨⟨by decide +kernel, by decide +kernel⟩, List.mem_of_getElem? (i := 1202) (by decide +kernel), List.mem_of_getElem? (i := 1478) (by decide +kernel), List.mem_of_getElem? (i := 1479) (by decide +kernel)⟩
theorem lw_p58 : lw_okq (⟨"TinNationModel", "numeral", "(II)I"⟩, 66) := ⟨⟨by decide +kernel, by decide +kernel⟩, List.mem_of_getElem? (i := 1202) (by decide +kernel), List.mem_of_getElem? (i := 1485) (by decide +kernel), List.mem_of_getElem? (i := 1486) (by decide +kernel)⟩
theorem lw_p59 : lw_okq (⟨"TinNationModel", "toldAhead", "([III)I"⟩, 66) := ⟨⟨by decide +kernel, by decide +kernel⟩, List.mem_of_getElem? (i := 1202) (by decide +kernel), List.mem_of_getElem? (i := 1489) (by decide +kernel), List.mem_of_getElem? (i := 1490) (by decide +kernel)⟩
theorem lw_p60 : lw_okq (⟨"TinNationModel", "goOn", "()V"⟩, 66) := ⟨⟨by decide +kernel, by decide +kernel⟩, List.mem_of_getElem? (i := 1202) (by decide +kernel), List.mem_of_getElem? (i := 1493) (by decide +kernel), List.mem_of_getElem? (i := 1494) (by decide +kernel)⟩
theorem lw_p61 : lw_okq (⟨"TinNationModel", "lawLine", "()V"⟩, 66) := ⟨⟨by decide +kernel, by decide +kernel⟩, List.mem_of_getElem? (i := 1202) (by decide +kernel), List.mem_of_getElem? (i := 1497) (by decide +kernel), List.mem_of_getElem? (i := 1498) (by decide +kernel)⟩
theorem lw_p62 : lw_okq (⟨"TinNationModel", "expression", "()V"⟩, 66) := ⟨⟨by decide +kernel, by decide +kernel⟩, List.mem_of_getElem? (i := 1202) (by decide +kernel), List.mem_of_getElem? (i := 1501) (by decide +kernel), List.mem_of_getElem? (i := 1502) (by decide +kernel)⟩
theorem lw_p63 : lw_okq (⟨"TinNationModel", "conjunction", "()V"⟩, 66) := ⟨⟨by decide +kernel, by decide +kernel⟩, List.mem_of_getElem? (i := 1202) (by decide +kernel), List.mem_of_getElem? (i := 1505) (by decide +kernel), List.mem_of_getElem? (i := 1506) (by decide +kernel)⟩
def lw_privs_4 : List (MethodName × Nat) := [(⟨"TinNationModel", "token", "()V"⟩, 66), (⟨"TinNationModel", "here", "()I"⟩, 66), (⟨"TinNationModel", "word", "()I"⟩, 66), (⟨"TinNationModel", "name", "()V"⟩, 66), (⟨"TinNationModel", "sign", "(I)V"⟩, 66), (⟨"TinNationModel", "line", "()V"⟩, 66), (⟨"TinNationModel", "wrong", "(I)V"⟩, 66), (⟨"TinNationModel", "isFull", "(I)Z"⟩, 66), (⟨"TinNationModel", "fresher", "(I)I"⟩, 66), (⟨"TinNationModel", "fresh", "([III)I"⟩, 66), (⟨"TinNationModel", "numeral", "(II)I"⟩, 66), (⟨"TinNationModel", "toldAhead", "([III)I"⟩, 66), (⟨"TinNationModel", "goOn", "()V"⟩, 66), (⟨"TinNationModel", "lawLine", "()V"⟩, 66), (⟨"TinNationModel", "expression", "()V"⟩, 66), (⟨"TinNationModel", "conjunction", "()V"⟩, 66)]
theorem lw_r4 : ∀ q ∈ lw_privs_4, lw_okq q := List.forall_mem_cons.mpr ⟨lw_p48, List.forall_mem_cons.mpr ⟨lw_p49, List.forall_mem_cons.mpr ⟨lw_p50, List.forall_mem_cons.mpr ⟨lw_p51, List.forall_mem_cons.mpr ⟨lw_p52, List.forall_mem_cons.mpr ⟨lw_p53, List.forall_mem_cons.mpr ⟨lw_p54, List.forall_mem_cons.mpr ⟨lw_p55, List.forall_mem_cons.mpr ⟨lw_p56, List.forall_mem_cons.mpr ⟨lw_p57, List.forall_mem_cons.mpr ⟨lw_p58, List.forall_mem_cons.mpr ⟨lw_p59, List.forall_mem_cons.mpr ⟨lw_p60, List.forall_mem_cons.mpr ⟨lw_p61, List.forall_mem_cons.mpr ⟨lw_p62, List.forall_mem_cons.mpr ⟨lw_p63, fun _ h => absurd h List.not_mem_nil⟩⟩⟩⟩⟩⟩⟩⟩⟩⟩⟩⟩⟩⟩⟩⟩
theorem lw_p64 : lw_okq (⟨"TinNationModel", "negation", "()V"⟩, 66) := ⟨⟨by decide +kernel, by decide +kernel⟩, List.mem_of_getElem? (i := 1202) (by decide +kernel), List.mem_of_getElem? (i := 1509) (by decide +kernel), List.mem_of_getElem? (i := 1510) (by decide +kernel)⟩
theorem lw_p65 : lw_okq (⟨"TinNationModel", "isWord", "(I)Z"⟩, 66) := ⟨⟨by decide +kernel, by decide +kernel⟩, List.mem_of_getElem? (i := 1202) (by decide +kernel), List.mem_of_getElem? (i := 1513) (by decide +kernel), List.mem_of_getElem? (i := 1514) (by decide +kernel)⟩
theorem lw_p66 : lw_okq (⟨"TinNationModel", "knot", "()V"⟩, 66) := ⟨⟨by decide +kernel, by decide +kernel⟩, List.mem_of_getElem? (i := 1202) (by decide +kernel), List.mem_of_getElem? (i := 1517) (by decide +kernel), List.mem_of_getElem? (i := 1518) (by decide +kernel)⟩
theorem lw_p67 : lw_okq (⟨"TinNationModel", "puts", "(II)V"⟩, 66) := ⟨⟨by decide +kernel, by decide +kernel⟩, List.mem_of_getElem? (i := 1202) (by decide +kernel), List.mem_of_getElem? (i := 1521) (by decide +kernel), List.mem_of_getElem? (i := 1522) (by decide +kernel)⟩
theorem lw_p68 : lw_okq (⟨"TinNationModel", "sum", "()V"⟩, 66) := ⟨⟨by decide +kernel, by decide +kernel⟩, List.mem_of_getElem? (i := 1202) (by decide +kernel), List.mem_of_getElem? (i := 1525) (by decide +kernel), List.mem_of_getElem? (i := 1526) (by decide +kernel)⟩
theorem lw_p69 : lw_okq (⟨"TinNationModel", "product", "()V"⟩, 66) := ⟨⟨by decide +kernel, by decide +kernel⟩, List.mem_of_getElem? (i := 1202) (by decide +kernel), List.mem_of_getElem? (i := 1529) (by decide +kernel), List.mem_of_getElem? (i := 1530) (by decide +kernel)⟩
theorem lw_p70 : lw_okq (⟨"TinNationModel", "primary", "()V"⟩, 66) := ⟨⟨by decide +kernel, by decide +kernel⟩, List.mem_of_getElem? (i := 1202) (by decide +kernel), List.mem_of_getElem? (i := 1533) (by decide +kernel), List.mem_of_getElem? (i := 1534) (by decide +kernel)⟩
theorem lw_p71 : lw_okq (⟨"TinNationModel", "isSign", "(I)Z"⟩, 66) := ⟨⟨by decide +kernel, by decide +kernel⟩, List.mem_of_getElem? (i := 1202) (by decide +kernel), List.mem_of_getElem? (i := 1537) (by decide +kernel), List.mem_of_getElem? (i := 1538) (by decide +kernel)⟩
theorem lw_p72 : lw_okq (⟨"TinNationModel", "isTin", "(I)Z"⟩, 66) := ⟨⟨by decide +kernel, by decide +kernel⟩, List.mem_of_getElem? (i := 1202) (by decide +kernel), List.mem_of_getElem? (i := 1556) (by decide +kernel), List.mem_of_getElem? (i := 1557) (by decide +kernel)⟩
theorem lw_p73 : lw_okq (⟨"TinNationModel", "isKind", "(I)Z"⟩, 66) := ⟨⟨by decide +kernel, by decide +kernel⟩, List.mem_of_getElem? (i := 1202) (by decide +kernel), List.mem_of_getElem? (i := 1564) (by decide +kernel), List.mem_of_getElem? (i := 1565) (by decide +kernel)⟩
theorem lw_p74 : lw_okq (⟨"TinNationModel", "setOf", "(II)I"⟩, 66) := ⟨⟨by decide +kernel, by decide +kernel⟩, List.mem_of_getElem? (i := 1202) (by decide +kernel), List.mem_of_getElem? (i := 1568) (by decide +kernel), List.mem_of_getElem? (i := 1569) (by decide +kernel)⟩
theorem lw_p75 : lw_okq (⟨"TinNationModel", "isOnTop", "(II)Z"⟩, 66) := ⟨⟨by decide +kernel, by decide +kernel⟩, List.mem_of_getElem? (i := 1202) (by decide +kernel), List.mem_of_getElem? (i := 1583) (by decide +kernel), List.mem_of_getElem? (i := 1584) (by decide +kernel)⟩
theorem lw_p76 : lw_okq (⟨"TinNationModel", "isClosed", "(II)Z"⟩, 66) := ⟨⟨by decide +kernel, by decide +kernel⟩, List.mem_of_getElem? (i := 1202) (by decide +kernel), List.mem_of_getElem? (i := 1587) (by decide +kernel), List.mem_of_getElem? (i := 1588) (by decide +kernel)⟩
theorem lw_p77 : lw_okq (⟨"TinNationModel", "aboveOf", "(II)I"⟩, 66) := ⟨⟨by decide +kernel, by decide +kernel⟩, List.mem_of_getElem? (i := 1202) (by decide +kernel), List.mem_of_getElem? (i := 1591) (by decide +kernel), List.mem_of_getElem? (i := 1592) (by decide +kernel)⟩
theorem lw_p78 : lw_okq (⟨"TinNationModel", "hasLaw", "(I)Z"⟩, 66) := ⟨⟨by decide +kernel, by decide +kernel⟩, List.mem_of_getElem? (i := 1202) (by decide +kernel), List.mem_of_getElem? (i := 1599) (by decide +kernel), List.mem_of_getElem? (i := 1600) (by decide +kernel)⟩
theorem lw_p79 : lw_okq (⟨"TinNationModel", "calls", "(III)V"⟩, 66) := ⟨⟨by decide +kernel, by decide +kernel⟩, List.mem_of_getElem? (i := 1202) (by decide +kernel), List.mem_of_getElem? (i := 1604) (by decide +kernel), List.mem_of_getElem? (i := 1605) (by decide +kernel)⟩
def lw_privs_5 : List (MethodName × Nat) := [(⟨"TinNationModel", "negation", "()V"⟩, 66), (⟨"TinNationModel", "isWord", "(I)Z"⟩, 66), (⟨"TinNationModel", "knot", "()V"⟩, 66), (⟨"TinNationModel", "puts", "(II)V"⟩, 66), (⟨"TinNationModel", "sum", "()V"⟩, 66), (⟨"TinNationModel", "product", "()V"⟩, 66), (⟨"TinNationModel", "primary", "()V"⟩, 66), (⟨"TinNationModel", "isSign", "(I)Z"⟩, 66), (⟨"TinNationModel", "isTin", "(I)Z"⟩, 66), (⟨"TinNationModel", "isKind", "(I)Z"⟩, 66), (⟨"TinNationModel", "setOf", "(II)I"⟩, 66), (⟨"TinNationModel", "isOnTop", "(II)Z"⟩, 66), (⟨"TinNationModel", "isClosed", "(II)Z"⟩, 66), (⟨"TinNationModel", "aboveOf", "(II)I"⟩, 66), (⟨"TinNationModel", "hasLaw", "(I)Z"⟩, 66), (⟨"TinNationModel", "calls", "(III)V"⟩, 66)]
theorem lw_r5 : ∀ q ∈ lw_privs_5, lw_okq q := List.forall_mem_cons.mpr ⟨lw_p64, List.forall_mem_cons.mpr ⟨lw_p65, List.forall_mem_cons.mpr ⟨lw_p66, List.forall_mem_cons.mpr ⟨lw_p67, List.forall_mem_cons.mpr ⟨lw_p68, List.forall_mem_cons.mpr ⟨lw_p69, List.forall_mem_cons.mpr ⟨lw_p70, List.forall_mem_cons.mpr ⟨lw_p71, List.forall_mem_cons.mpr ⟨lw_p72, List.forall_mem_cons.mpr ⟨lw_p73, List.forall_mem_cons.mpr ⟨lw_p74, List.forall_mem_cons.mpr ⟨lw_p75, List.forall_mem_cons.mpr ⟨lw_p76, List.forall_mem_cons.mpr ⟨lw_p77, List.forall_mem_cons.mpr ⟨lw_p78, List.forall_mem_cons.mpr ⟨lw_p79, fun _ h => absurd h List.not_mem_nil⟩⟩⟩⟩⟩⟩⟩⟩⟩⟩⟩⟩⟩⟩⟩⟩
theorem lw_p80 : lw_okq (⟨"TinNationModel", "goes", "(I)Z"⟩, 66) := ⟨⟨by decide +kernel, by decide +kernel⟩, List.mem_of_getElem? (i := 1202) (by decide +kernel), List.mem_of_getElem? (i := 1608) (by decide +kernel), List.mem_of_getElem? (i := 1609) (by decide +kernel)⟩
theorem lw_p81 : lw_okq (⟨"TinNationModel", "works", "(I)Z"⟩, 66) := ⟨⟨by decide +kernel, by decide +kernel⟩, List.mem_of_getElem? (i := 1202) (by decide +kernel), List.mem_of_getElem? (i := 1612) (by decide +kernel), List.mem_of_getElem? (i := 1613) (by decide +kernel)⟩
theorem lw_p82 : lw_okq (⟨"TinNationModel", "keepNow", "()V"⟩, 66) := ⟨⟨by decide +kernel, by decide +kernel⟩, List.mem_of_getElem? (i := 1202) (by decide +kernel), List.mem_of_getElem? (i := 1628) (by decide +kernel), List.mem_of_getElem? (i := 1629) (by decide +kernel)⟩
theorem lw_p83 : lw_okq (⟨"TinNationModel", "copies", "(II)V"⟩, 66) := ⟨⟨by decide +kernel, by decide +kernel⟩, List.mem_of_getElem? (i := 1202) (by decide +kernel), List.mem_of_getElem? (i := 1632) (by decide +kernel), List.mem_of_getElem? (i := 1633) (by decide +kernel)⟩
theorem lw_p84 : lw_okq (⟨"TinNationModel", "opens", "(II)V"⟩, 66) := ⟨⟨by decide +kernel, by decide +kernel⟩, List.mem_of_getElem? (i := 1202) (by decide +kernel), List.mem_of_getElem? (i := 1636) (by decide +kernel), List.mem_of_getElem? (i := 1637) (by decide +kernel)⟩
theorem lw_p85 : lw_okq (⟨"TinNationModel", "within", "(IIII)I"⟩, 66) := ⟨⟨by decide +kernel, by decide +kernel⟩, List.mem_of_getElem? (i := 1202) (by decide +kernel), List.mem_of_getElem? (i := 1640) (by decide +kernel), List.mem_of_getElem? (i := 1641) (by decide +kernel)⟩
theorem lw_p86 : lw_okq (⟨"TinNationModel", "passes", "(IZ)V"⟩, 66) := ⟨⟨by decide +kernel, by decide +kernel⟩, List.mem_of_getElem? (i := 1202) (by decide +kernel), List.mem_of_getElem? (i := 1662) (by decide +kernel), List.mem_of_getElem? (i := 1663) (by decide +kernel)⟩
theorem lw_p87 : lw_okq (⟨"TinNationModel", "opensTold", "(II)V"⟩, 66) := ⟨⟨by decide +kernel, by decide +kernel⟩, List.mem_of_getElem? (i := 1202) (by decide +kernel), List.mem_of_getElem? (i := 1666) (by decide +kernel), List.mem_of_getElem? (i := 1667) (by decide +kernel)⟩
theorem lw_p88 : lw_okq (⟨"TinNationModel", "serves", "(III)I"⟩, 66) := ⟨⟨by decide +kernel, by decide +kernel⟩, List.mem_of_getElem? (i := 1202) (by decide +kernel), List.mem_of_getElem? (i := 1670) (by decide +kernel), List.mem_of_getElem? (i := 1671) (by decide +kernel)⟩
theorem lw_p89 : lw_okq (⟨"TinNationModel", "doesRust", "(IIZ)Z"⟩, 66) := ⟨⟨by decide +kernel, by decide +kernel⟩, List.mem_of_getElem? (i := 1202) (by decide +kernel), List.mem_of_getElem? (i := 1674) (by decide +kernel), List.mem_of_getElem? (i := 1675) (by decide +kernel)⟩
theorem lw_p90 : lw_okq (⟨"TinNationModel", "runs", "(I)V"⟩, 66) := ⟨⟨by decide +kernel, by decide +kernel⟩, List.mem_of_getElem? (i := 1202) (by decide +kernel), List.mem_of_getElem? (i := 1685) (by decide +kernel), List.mem_of_getElem? (i := 1686) (by decide +kernel)⟩
theorem lw_p91 : lw_okq (⟨"TinNationModel", "goesOn", "(I)V"⟩, 66) := ⟨⟨by decide +kernel, by decide +kernel⟩, List.mem_of_getElem? (i := 1202) (by decide +kernel), List.mem_of_getElem? (i := 1689) (by decide +kernel), List.mem_of_getElem? (i := 1690) (by decide +kernel)⟩
theorem lw_p92 : lw_okq (⟨"TinNationModel", "wantsOf", "(II)I"⟩, 66) := ⟨⟨by decide +kernel, by decide +kernel⟩, List.mem_of_getElem? (i := 1202) (by decide +kernel), List.mem_of_getElem? (i := 1693) (by decide +kernel), List.mem_of_getElem? (i := 1694) (by decide +kernel)⟩
theorem lw_p93 : lw_okq (⟨"TinNationModel", "tinsOf", "(II)I"⟩, 66) := ⟨⟨by decide +kernel, by decide +kernel⟩, List.mem_of_getElem? (i := 1202) (by decide +kernel), List.mem_of_getElem? (i := 1697) (by decide +kernel), List.mem_of_getElem? (i := 1698) (by decide +kernel)⟩
theorem lw_p94 : lw_okq (⟨"TinNationModel", "rows", "(II)V"⟩, 66) := ⟨⟨by decide +kernel, by decide +kernel⟩, List.mem_of_getElem? (i := 1202) (by decide +kernel), List.mem_of_getElem? (i := 1713) (by decide +kernel), List.mem_of_getElem? (i := 1714) (by decide +kernel)⟩
theorem lw_p95 : lw_okq (⟨"TinNationModel", "isTidy", "(II)Z"⟩, 66) := ⟨⟨by decide +kernel, by decide +kernel⟩, List.mem_of_getElem? (i := 1202) (by decide +kernel), List.mem_of_getElem? (i := 1728) (by decide +kernel), List.mem_of_getElem? (i := 1729) (by decide +kernel)⟩
def lw_privs_6 : List (MethodName × Nat) := [(⟨"TinNationModel", "goes", "(I)Z"⟩, 66), (⟨"TinNationModel", "works", "(I)Z"⟩, 66), (⟨"TinNationModel", "keepNow", "()V"⟩, 66), (⟨"TinNationModel", "copies", "(II)V"⟩, 66), (⟨"TinNationModel", "opens", "(II)V"⟩, 66), (⟨"TinNationModel", "within", "(IIII)I"⟩, 66), (⟨"TinNationModel", "passes", "(IZ)V"⟩, 66), (⟨"TinNationModel", "opensTold", "(II)V"⟩, 66), (⟨"TinNationModel", "serves", "(III)I"⟩, 66), (⟨"TinNationModel", "doesRust", "(IIZ)Z"⟩, 66), (⟨"TinNationModel", "runs", "(I)V"⟩, 66), (⟨"TinNationModel", "goesOn", "(I)V"⟩, 66), (⟨"TinNationModel", "wantsOf", "(II)I"⟩, 66), (⟨"TinNationModel", "tinsOf", "(II)I"⟩, 66), (⟨"TinNationModel", "rows", "(II)V"⟩, 66), (⟨"TinNationModel", "isTidy", "(II)Z"⟩, 66)]
theorem lw_r6 : ∀ q ∈ lw_privs_6, lw_okq q := List.forall_mem_cons.mpr ⟨lw_p80, List.forall_mem_cons.mpr ⟨lw_p81, List.forall_mem_cons.mpr ⟨lw_p82, List.forall_mem_cons.mpr ⟨lw_p83, List.forall_mem_cons.mpr ⟨lw_p84, List.forall_mem_cons.mpr ⟨lw_p85, List.forall_mem_cons.mpr ⟨lw_p86, List.forall_mem_cons.mpr ⟨lw_p87, List.forall_mem_cons.mpr ⟨lw_p88, List.forall_mem_cons.mpr ⟨lw_p89, List.forall_mem_cons.mpr ⟨lw_p90, List.forall_mem_cons.mpr ⟨lw_p91, List.forall_mem_cons.mpr ⟨lw_p92, List.forall_mem_cons.mpr ⟨lw_p93, List.forall_mem_cons.mpr ⟨lw_p94, List.forall_mem_cons.mpr ⟨lw_p95, fun _ h => absurd h List.not_mem_nil⟩⟩⟩⟩⟩⟩⟩⟩⟩⟩⟩⟩⟩⟩⟩⟩
theorem lw_p96 : lw_okq (⟨"TinNationModel", "isOpen", "(I)Z"⟩, 66) := ⟨⟨by decide +kernel, by decide +kernel⟩, List.mem_of_getElem? (i := 1202) (by decide +kernel), List.mem_of_getElem? (i := 1736) (by decide +kernel), List.mem_of_getElem? (i := 1737) (by decide +kernel)⟩
theorem lw_p97 : lw_okq (⟨"TinNationModel", "noted", "(IIIZ)I"⟩, 66) := ⟨⟨by decide +kernel, by decide +kernel⟩, List.mem_of_getElem? (i := 1202) (by decide +kernel), List.mem_of_getElem? (i := 1770) (by decide +kernel), List.mem_of_getElem? (i := 1771) (by decide +kernel)⟩
theorem lw_p98 : lw_okq (⟨"TinNationModel", "whichOnes", "()I"⟩, 66) := ⟨⟨by decide +kernel, by decide +kernel⟩, List.mem_of_getElem? (i := 1202) (by decide +kernel), List.mem_of_getElem? (i := 1790) (by decide +kernel), List.mem_of_getElem? (i := 1791) (by decide +kernel)⟩
theorem lw_p99 : lw_okq (⟨"TinNationModel", "strikes", "()V"⟩, 66) := ⟨⟨by decide +kernel, by decide +kernel⟩, List.mem_of_getElem? (i := 1202) (by decide +kernel), List.mem_of_getElem? (i := 1794) (by decide +kernel), List.mem_of_getElem? (i := 1795) (by decide +kernel)⟩
theorem lw_p100 : lw_okq (⟨"TinNationModel", "knownMany", "()I"⟩, 66) := ⟨⟨by decide +kernel, by decide +kernel⟩, List.mem_of_getElem? (i := 1202) (by decide +kernel), List.mem_of_getElem? (i := 1798) (by decide +kernel), List.mem_of_getElem? (i := 1799) (by decide +kernel)⟩
theorem lw_p101 : lw_okq (⟨"TinNationModel", "isNoted", "(I)Z"⟩, 66) := ⟨⟨by decide +kernel, by decide +kernel⟩, List.mem_of_getElem? (i := 1202) (by decide +kernel), List.mem_of_getElem? (i := 1802) (by decide +kernel), List.mem_of_getElem? (i := 1803) (by decide +kernel)⟩
theorem lw_p102 : lw_okq (⟨"TinNationModel", "fitsDents", "(III)Z"⟩, 66) := ⟨⟨by decide +kernel, by decide +kernel⟩, List.mem_of_getElem? (i := 1202) (by decide +kernel), List.mem_of_getElem? (i := 1815) (by decide +kernel), List.mem_of_getElem? (i := 1816) (by decide +kernel)⟩
theorem lw_p103 : lw_okq (⟨"TinNationModel", "isSo", "(I)Z"⟩, 66) := ⟨⟨by decide +kernel, by decide +kernel⟩, List.mem_of_getElem? (i := 1202) (by decide +kernel), List.mem_of_getElem? (i := 1819) (by decide +kernel), List.mem_of_getElem? (i := 1820) (by decide +kernel)⟩
def lw_privs_7 : List (MethodName × Nat) := [(⟨"TinNationModel", "isOpen", "(I)Z"⟩, 66), (⟨"TinNationModel", "noted", "(IIIZ)I"⟩, 66), (⟨"TinNationModel", "whichOnes", "()I"⟩, 66), (⟨"TinNationModel", "strikes", "()V"⟩, 66), (⟨"TinNationModel", "knownMany", "()I"⟩, 66), (⟨"TinNationModel", "isNoted", "(I)Z"⟩, 66), (⟨"TinNationModel", "fitsDents", "(III)Z"⟩, 66), (⟨"TinNationModel", "isSo", "(I)Z"⟩, 66)]
theorem lw_r7 : ∀ q ∈ lw_privs_7, lw_okq q := List.forall_mem_cons.mpr ⟨lw_p96, List.forall_mem_cons.mpr ⟨lw_p97, List.forall_mem_cons.mpr ⟨lw_p98, List.forall_mem_cons.mpr ⟨lw_p99, List.forall_mem_cons.mpr ⟨lw_p100, List.forall_mem_cons.mpr ⟨lw_p101, List.forall_mem_cons.mpr ⟨lw_p102, List.forall_mem_cons.mpr ⟨lw_p103, fun _ h => absurd h List.not_mem_nil⟩⟩⟩⟩⟩⟩⟩⟩
def lw_privs : List (MethodName × Nat) := lw_privs_1 ++ (lw_privs_2 ++ (lw_privs_3 ++ (lw_privs_4 ++ (lw_privs_5 ++ (lw_privs_6 ++ (lw_privs_7))))))
def lw_tbl : List Cond := k2_sels lw_privs ++ tables_1
theorem lw_privs_ok : ∀ q ∈ lw_privs, lw_okq q := by
  show ∀ q ∈ lw_privs_1 ++ (lw_privs_2 ++ (lw_privs_3 ++ (lw_privs_4 ++ (lw_privs_5 ++ (lw_privs_6 ++ (lw_privs_7)))))), lw_okq q
  exact List.forall_mem_append.mpr ⟨lw_r1, List.forall_mem_append.mpr ⟨lw_r2, List.forall_mem_append.mpr ⟨lw_r3, List.forall_mem_append.mpr ⟨lw_r4, List.forall_mem_append.mpr ⟨lw_r5, List.forall_mem_append.mpr ⟨lw_r6, lw_r7⟩⟩⟩⟩⟩⟩
-- ===== end of PART A; then your names; then what follows =====
def RX0 : String := "TinNation$Days"
def TX0 : u_T := fun k => match k with
  | 0 => ("TinNation$Days", "plan", "LTinNation$Plan;", true)
  | 1 => ("TinNation$Days", "names", "[I", true)
  | 2 => ("TinNation$Days", "isDrawn", "Z", false)
  | 3 => ("TinNation$Days", "way", "I", false)
  | _ => ("TinNation$Days", "spared", "I", false)
def tyX0 : Nat → FieldType := fun k => match k with
  | 0 => .object "TinNation$Plan"
  | 1 => .array .int
  | 2 => .boolean
  | 3 => .int
  | _ => .int
abbrev wsX00 : List Cond := u_ws RX0 TX0 5
theorem nmX0 : ∀ a, a < 5 → ∀ b, b < 5 → a ≠ b → (TX0 a).2.1 ≠ (TX0 b).2.1 := by decide +kernel
theorem tyX0_ok : ∀ k, k < 5 → parseFieldDescriptor (TX0 k).2.2.1 = some (tyX0 k) := by decide +kernel
abbrev cX0_init : ByteArray := prog_2_method_1_code
def yX0_init : MethodName := ⟨RX0, "<init>", "(LTinNation$Plan;)V"⟩
abbrev cX0_byNumbers : ByteArray := prog_2_method_2_code
def yX0_byNumbers : MethodName := ⟨RX0, "byNumbers", "()V"⟩
abbrev cX0_asItGoes : ByteArray := prog_2_method_3_code
def yX0_asItGoes : MethodName := ⟨RX0, "asItGoes", "()V"⟩
abbrev cX0_otherwise : ByteArray := prog_2_method_4_code
def yX0_otherwise : MethodName := ⟨RX0, "otherwise", "(II)V"⟩
abbrev cX0_mayBringGlory : ByteArray := prog_2_method_5_code
def yX0_mayBringGlory : MethodName := ⟨RX0, "mayBringGlory", "(LTinNation$State;)Z"⟩
abbrev cX0_pass : ByteArray := prog_2_method_6_code
def yX0_pass : MethodName := ⟨RX0, "pass", "(LTinNation$State;)V"⟩
abbrev cX0_openTold : ByteArray := prog_2_method_7_code
def yX0_openTold : MethodName := ⟨RX0, "openTold", "(LTinNation$State;)V"⟩
abbrev cX0_unseal : ByteArray := prog_2_method_8_code
def yX0_unseal : MethodName := ⟨RX0, "unseal", "(LTinNation$State;I)V"⟩
abbrev cX0_unsealAnyway : ByteArray := prog_2_method_9_code
def yX0_unsealAnyway : MethodName := ⟨RX0, "unsealAnyway", "(LTinNation$State;I)V"⟩
abbrev cX0_serve : ByteArray := prog_2_method_10_code
def yX0_serve : MethodName := ⟨RX0, "serve", "(LTinNation$State;)V"⟩
abbrev cX0_server : ByteArray := prog_2_method_11_code
def yX0_server : MethodName := ⟨RX0, "server", "(LTinNation$State;II)I"⟩
abbrev cX0_goOff : ByteArray := prog_2_method_12_code
def yX0_goOff : MethodName := ⟨RX0, "goOff", "(LTinNation$State;)V"⟩
abbrev cX0_rust : ByteArray := prog_2_method_13_code
def yX0_rust : MethodName := ⟨RX0, "rust", "(LTinNation$State;)V"⟩
abbrev cX0_rusts : ByteArray := prog_2_method_14_code
def yX0_rusts : MethodName := ⟨RX0, "rusts", "(LTinNation$State;I)Z"⟩
abbrev cX0_blow : ByteArray := prog_2_method_15_code
def yX0_blow : MethodName := ⟨RX0, "blow", "(LTinNation$State;)V"⟩
abbrev cX0_namesOf : ByteArray := prog_2_method_16_code
def yX0_namesOf : MethodName := ⟨RX0, "namesOf", "(LTinNation$State;II)[I"⟩
abbrev cX0_within : ByteArray := prog_2_method_17_code
def yX0_within : MethodName := ⟨RX0, "within", "(JIII)I"⟩
def RX1 : String := "TinNation$Laws"
def TX1 : u_T := fun k => match k with
  | 0 => ("TinNation$Laws", "code", "[I", true)
  | 1 => ("TinNation$Laws", "from", "[I", true)
  | 2 => ("TinNation$Laws", "upTo", "[I", true)
  | 3 => ("TinNation$Laws", "pile", "[J", true)
  | 4 => ("TinNation$Laws", "size", "I", false)
  | 5 => ("TinNation$Laws", "told", "I", false)
  | _ => ("TinNation$Laws", "knots", "I", false)
def tyX1 : Nat → FieldType := fun k => match k with
  | 0 => .array .int
  | 1 => .array .int
  | 2 => .array .int
  | 3 => .array .long
  | 4 => .int
  | 5 => .int
  | _ => .int
abbrev wsX10 : List Cond := u_ws RX1 TX1 7
theorem nmX1 : ∀ a, a < 7 → ∀ b, b < 7 → a ≠ b → (TX1 a).2.1 ≠ (TX1 b).2.1 := by decide +kernel
theorem tyX1_ok : ∀ k, k < 7 → parseFieldDescriptor (TX1 k).2.2.1 = some (tyX1 k) := by decide +kernel
abbrev cX1_init : ByteArray := prog_3_method_1_code
def yX1_init : MethodName := ⟨RX1, "<init>", "()V"⟩
abbrev cX1_clear : ByteArray := prog_3_method_2_code
def yX1_clear : MethodName := ⟨RX1, "clear", "()V"⟩
abbrev cX1_take : ByteArray := prog_3_method_3_code
def yX1_take : MethodName := ⟨RX1, "take", "(LTinNation$Laws;)V"⟩
abbrev cX1_has : ByteArray := prog_3_method_4_code
def yX1_has : MethodName := ⟨RX1, "has", "(I)Z"⟩
abbrev cX1_begin : ByteArray := prog_3_method_5_code
def yX1_begin : MethodName := ⟨RX1, "begin", "(I)V"⟩
abbrev cX1_end : ByteArray := prog_3_method_6_code
def yX1_end : MethodName := ⟨RX1, "end", "(I)V"⟩
abbrev cX1_emit : ByteArray := prog_3_method_7_code
def yX1_emit : MethodName := ⟨RX1, "emit", "(I)V"⟩
abbrev cX1_work : ByteArray := prog_3_method_8_code
def yX1_work : MethodName := ⟨RX1, "work", "(I[I)J"⟩
abbrev cX1_joined : ByteArray := prog_3_method_9_code
def yX1_joined : MethodName := ⟨RX1, "joined", "(IJJ)J"⟩
def RX2 : String := "TinNation$Parser"
def TX2 : u_T := fun k => match k with
  | 0 => ("TinNation$Parser", "plan", "LTinNation$Plan;", true)
  | 1 => ("TinNation$Parser", "scanner", "LTinNation$Scanner;", true)
  | 2 => ("TinNation$Parser", "toldOnce", "I", false)
  | 3 => ("TinNation$Parser", "fault", "I", false)
  | 4 => ("TinNation$Parser", "place", "I", false)
  | _ => ("TinNation$Parser", "lines", "I", false)
def tyX2 : Nat → FieldType := fun k => match k with
  | 0 => .object "TinNation$Plan"
  | 1 => .object "TinNation$Scanner"
  | 2 => .int
  | 3 => .int
  | 4 => .int
  | _ => .int
abbrev wsX20 : List Cond := u_ws RX2 TX2 6
theorem nmX2 : ∀ a, a < 6 → ∀ b, b < 6 → a ≠ b → (TX2 a).2.1 ≠ (TX2 b).2.1 := by decide +kernel
theorem tyX2_ok : ∀ k, k < 6 → parseFieldDescriptor (TX2 k).2.2.1 = some (tyX2 k) := by decide +kernel
abbrev cX2_init : ByteArray := prog_4_method_1_code
def yX2_init : MethodName := ⟨RX2, "<init>", "()V"⟩
abbrev cX2_read : ByteArray := prog_4_method_2_code
def yX2_read : MethodName := ⟨RX2, "read", "([BI)V"⟩
abbrev cX2_fail : ByteArray := prog_4_method_3_code
def yX2_fail : MethodName := ⟨RX2, "fail", "(I)V"⟩
abbrev cX2_expect : ByteArray := prog_4_method_4_code
def yX2_expect : MethodName := ⟨RX2, "expect", "(I)V"⟩
abbrev cX2_line : ByteArray := prog_4_method_5_code
def yX2_line : MethodName := ⟨RX2, "line", "()V"⟩
abbrev cX2_kindLine : ByteArray := prog_4_method_6_code
def yX2_kindLine : MethodName := ⟨RX2, "kindLine", "()V"⟩
abbrev cX2_tinLine : ByteArray := prog_4_method_7_code
def yX2_tinLine : MethodName := ⟨RX2, "tinLine", "()V"⟩
abbrev cX2_openLine : ByteArray := prog_4_method_8_code
def yX2_openLine : MethodName := ⟨RX2, "openLine", "()V"⟩
abbrev cX2_wantLine : ByteArray := prog_4_method_9_code
def yX2_wantLine : MethodName := ⟨RX2, "wantLine", "()V"⟩
abbrev cX2_room : ByteArray := prog_4_method_10_code
def yX2_room : MethodName := ⟨RX2, "room", "(LTinNation$Rows;)V"⟩
abbrev cX2_onceLine : ByteArray := prog_4_method_11_code
def yX2_onceLine : MethodName := ⟨RX2, "onceLine", "(I)I"⟩
abbrev cX2_newName : ByteArray := prog_4_method_12_code
def yX2_newName : MethodName := ⟨RX2, "newName", "(LTinNation$Rows;)I"⟩
abbrev cX2_toldName : ByteArray := prog_4_method_13_code
def yX2_toldName : MethodName := ⟨RX2, "toldName", "(LTinNation$Rows;)I"⟩
abbrev cX2_number : ByteArray := prog_4_method_14_code
def yX2_number : MethodName := ⟨RX2, "number", "(II)I"⟩
abbrev cX2_lawLine : ByteArray := prog_4_method_15_code
def yX2_lawLine : MethodName := ⟨RX2, "lawLine", "()V"⟩
abbrev cX2_knot : ByteArray := prog_4_method_16_code
def yX2_knot : MethodName := ⟨RX2, "knot", "()V"⟩
abbrev cX2_emit : ByteArray := prog_4_method_17_code
def yX2_emit : MethodName := ⟨RX2, "emit", "(I)V"⟩
abbrev cX2_either : ByteArray := prog_4_method_18_code
def yX2_either : MethodName := ⟨RX2, "either", "(I)V"⟩
abbrev cX2_both : ByteArray := prog_4_method_19_code
def yX2_both : MethodName := ⟨RX2, "both", "(I)V"⟩
abbrev cX2_denied : ByteArray := prog_4_method_20_code
def yX2_denied : MethodName := ⟨RX2, "denied", "(I)V"⟩
abbrev cX2_compared : ByteArray := prog_4_method_21_code
def yX2_compared : MethodName := ⟨RX2, "compared", "(I)V"⟩
abbrev cX2_isComparison : ByteArray := prog_4_method_22_code
def yX2_isComparison : MethodName := ⟨RX2, "isComparison", "(I)Z"⟩
abbrev cX2_sum : ByteArray := prog_4_method_23_code
def yX2_sum : MethodName := ⟨RX2, "sum", "(I)V"⟩
abbrev cX2_product : ByteArray := prog_4_method_24_code
def yX2_product : MethodName := ⟨RX2, "product", "(I)V"⟩
abbrev cX2_part : ByteArray := prog_4_method_25_code
def yX2_part : MethodName := ⟨RX2, "part", "(I)V"⟩
abbrev cX2_bracket : ByteArray := prog_4_method_26_code
def yX2_bracket : MethodName := ⟨RX2, "bracket", "(I)V"⟩
def RX3 : String := "TinNation$Plan"
def TX3 : u_T := fun k => match k with
  | 0 => ("TinNation$Plan", "kinds", "LTinNation$Rows;", true)
  | 1 => ("TinNation$Plan", "tins", "LTinNation$Rows;", true)
  | 2 => ("TinNation$Plan", "opens", "LTinNation$Rows;", true)
  | 3 => ("TinNation$Plan", "wants", "LTinNation$Rows;", true)
  | 4 => ("TinNation$Plan", "laws", "LTinNation$Laws;", true)
  | 5 => ("TinNation$Plan", "keys", "I", false)
  | 6 => ("TinNation$Plan", "rust", "I", false)
  | 7 => ("TinNation$Plan", "seed", "I", false)
  | 8 => ("TinNation$Plan", "lastOpenDay", "I", false)
  | _ => ("TinNation$Plan", "lastWantDay", "I", false)
def tyX3 : Nat → FieldType := fun k => match k with
  | 0 => .object "TinNation$Rows"
  | 1 => .object "TinNation$Rows"
  | 2 => .object "TinNation$Rows"
  | 3 => .object "TinNation$Rows"
  | 4 => .object "TinNation$Laws"
  | 5 => .int
  | 6 => .int
  | 7 => .int
  | 8 => .int
  | _ => .int
abbrev wsX30 : List Cond := u_ws RX3 TX3 10
theorem nmX3 : ∀ a, a < 10 → ∀ b, b < 10 → a ≠ b → (TX3 a).2.1 ≠ (TX3 b).2.1 := by decide +kernel
theorem tyX3_ok : ∀ k, k < 10 → parseFieldDescriptor (TX3 k).2.2.1 = some (tyX3 k) := by decide +kernel
abbrev cX3_init : ByteArray := prog_5_method_1_code
def yX3_init : MethodName := ⟨RX3, "<init>", "()V"⟩
abbrev cX3_clear : ByteArray := prog_5_method_2_code
def yX3_clear : MethodName := ⟨RX3, "clear", "()V"⟩
abbrev cX3_take : ByteArray := prog_5_method_3_code
def yX3_take : MethodName := ⟨RX3, "take", "(LTinNation$Plan;)V"⟩
def RX4 : String := "TinNation$Rows"
def TX4 : u_T := fun k => match k with
  | 0 => ("TinNation$Rows", "most", "I", true)
  | 1 => ("TinNation$Rows", "columns", "[[I", true)
  | _ => ("TinNation$Rows", "size", "I", false)
def tyX4 : Nat → FieldType := fun k => match k with
  | 0 => .int
  | 1 => .array (.array .int)
  | _ => .int
abbrev wsX40 : List Cond := u_ws RX4 TX4 3
theorem nmX4 : ∀ a, a < 3 → ∀ b, b < 3 → a ≠ b → (TX4 a).2.1 ≠ (TX4 b).2.1 := by decide +kernel
theorem tyX4_ok : ∀ k, k < 3 → parseFieldDescriptor (TX4 k).2.2.1 = some (tyX4 k) := by decide +kernel
abbrev cX4_init : ByteArray := prog_6_method_1_code
def yX4_init : MethodName := ⟨RX4, "<init>", "(II)V"⟩
abbrev cX4_isFull : ByteArray := prog_6_method_2_code
def yX4_isFull : MethodName := ⟨RX4, "isFull", "()Z"⟩
abbrev cX4_has : ByteArray := prog_6_method_3_code
def yX4_has : MethodName := ⟨RX4, "has", "(I)Z"⟩
abbrev cX4_column : ByteArray := prog_6_method_4_code
def yX4_column : MethodName := ⟨RX4, "column", "(I)[I"⟩
abbrev cX4_at : ByteArray := prog_6_method_5_code
def yX4_at : MethodName := ⟨RX4, "at", "(II)I"⟩
abbrev cX4_add : ByteArray := prog_6_method_6_code
def yX4_add : MethodName := ⟨RX4, "add", "()V"⟩
abbrev cX4_set : ByteArray := prog_6_method_7_code
def yX4_set : MethodName := ⟨RX4, "set", "(II)V"⟩
abbrev cX4_rowOf : ByteArray := prog_6_method_8_code
def yX4_rowOf : MethodName := ⟨RX4, "rowOf", "(I)I"⟩
abbrev cX4_dropFirst : ByteArray := prog_6_method_9_code
def yX4_dropFirst : MethodName := ⟨RX4, "dropFirst", "()V"⟩
abbrev cX4_take : ByteArray := prog_6_method_10_code
def yX4_take : MethodName := ⟨RX4, "take", "(LTinNation$Rows;)V"⟩
def RX5 : String := "TinNation$Scanner"
def TX5 : u_T := fun k => match k with
  | 0 => ("TinNation$Scanner", "words", "[I", true)
  | 1 => ("TinNation$Scanner", "tape", "[B", false)
  | 2 => ("TinNation$Scanner", "length", "I", false)
  | 3 => ("TinNation$Scanner", "at", "I", false)
  | 4 => ("TinNation$Scanner", "token", "I", false)
  | 5 => ("TinNation$Scanner", "place", "I", false)
  | _ => ("TinNation$Scanner", "value", "I", false)
def tyX5 : Nat → FieldType := fun k => match k with
  | 0 => .array .int
  | 1 => .array .byte
  | 2 => .int
  | 3 => .int
  | 4 => .int
  | 5 => .int
  | _ => .int
abbrev wsX50 : List Cond := u_ws RX5 TX5 7
theorem nmX5 : ∀ a, a < 7 → ∀ b, b < 7 → a ≠ b → (TX5 a).2.1 ≠ (TX5 b).2.1 := by decide +kernel
theorem tyX5_ok : ∀ k, k < 7 → parseFieldDescriptor (TX5 k).2.2.1 = some (tyX5 k) := by decide +kernel
abbrev cX5_init : ByteArray := prog_7_method_1_code
def yX5_init : MethodName := ⟨RX5, "<init>", "()V"⟩
abbrev cX5_start : ByteArray := prog_7_method_2_code
def yX5_start : MethodName := ⟨RX5, "start", "([BI)V"⟩
abbrev cX5_advance : ByteArray := prog_7_method_3_code
def yX5_advance : MethodName := ⟨RX5, "advance", "()V"⟩
abbrev cX5_takeWord : ByteArray := prog_7_method_4_code
def yX5_takeWord : MethodName := ⟨RX5, "takeWord", "()V"⟩
abbrev cX5_takeNumber : ByteArray := prog_7_method_5_code
def yX5_takeNumber : MethodName := ⟨RX5, "takeNumber", "()V"⟩
abbrev cX5_takeSign : ByteArray := prog_7_method_6_code
def yX5_takeSign : MethodName := ⟨RX5, "takeSign", "()V"⟩
def RX6 : String := "TinNation$State"
def TX6 : u_T := fun k => match k with
  | 0 => ("TinNation$State", "status", "[I", true)
  | 1 => ("TinNation$State", "dents", "[I", true)
  | 2 => ("TinNation$State", "stack", "[I", true)
  | 3 => ("TinNation$State", "height", "[I", true)
  | 4 => ("TinNation$State", "fresh", "[I", true)
  | 5 => ("TinNation$State", "served", "[I", true)
  | 6 => ("TinNation$State", "wants", "[I", true)
  | 7 => ("TinNation$State", "tins", "I", false)
  | 8 => ("TinNation$State", "day", "I", false)
  | 9 => ("TinNation$State", "keys", "I", false)
  | 10 => ("TinNation$State", "glory", "I", false)
  | 11 => ("TinNation$State", "met", "I", false)
  | 12 => ("TinNation$State", "missed", "I", false)
  | 13 => ("TinNation$State", "refused", "I", false)
  | _ => ("TinNation$State", "number", "J", false)
def tyX6 : Nat → FieldType := fun k => match k with
  | 0 => .array .int
  | 1 => .array .int
  | 2 => .array .int
  | 3 => .array .int
  | 4 => .array .int
  | 5 => .array .int
  | 6 => .array .int
  | 7 => .int
  | 8 => .int
  | 9 => .int
  | 10 => .int
  | 11 => .int
  | 12 => .int
  | 13 => .int
  | _ => .long
abbrev wsX60 : List Cond := u_ws RX6 TX6 15
theorem nmX6 : ∀ a, a < 15 → ∀ b, b < 15 → a ≠ b → (TX6 a).2.1 ≠ (TX6 b).2.1 := by decide +kernel
theorem tyX6_ok : ∀ k, k < 15 → parseFieldDescriptor (TX6 k).2.2.1 = some (tyX6 k) := by decide +kernel
abbrev cX6_init : ByteArray := prog_8_method_1_code
def yX6_init : MethodName := ⟨RX6, "<init>", "()V"⟩
abbrev cX6_begin : ByteArray := prog_8_method_2_code
def yX6_begin : MethodName := ⟨RX6, "begin", "(LTinNation$Plan;)V"⟩
abbrev cX6_take : ByteArray := prog_8_method_3_code
def yX6_take : MethodName := ⟨RX6, "take", "(LTinNation$State;)V"⟩
abbrev cX6_has : ByteArray := prog_8_method_4_code
def yX6_has : MethodName := ⟨RX6, "has", "(I)Z"⟩
abbrev cX6_isClosed : ByteArray := prog_8_method_5_code
def yX6_isClosed : MethodName := ⟨RX6, "isClosed", "(I)Z"⟩
abbrev cX6_isOnTop : ByteArray := prog_8_method_6_code
def yX6_isOnTop : MethodName := ⟨RX6, "isOnTop", "(I)Z"⟩
abbrev cX6_closedAbove : ByteArray := prog_8_method_7_code
def yX6_closedAbove : MethodName := ⟨RX6, "closedAbove", "(I)I"⟩
abbrev cX6_heightOver : ByteArray := prog_8_method_8_code
def yX6_heightOver : MethodName := ⟨RX6, "heightOver", "(I)I"⟩
abbrev cX6_howMany : ByteArray := prog_8_method_9_code
def yX6_howMany : MethodName := ⟨RX6, "howMany", "(I)I"⟩
abbrev cX6_drawn : ByteArray := prog_8_method_10_code
def yX6_drawn : MethodName := ⟨RX6, "drawn", "()I"⟩
def RX7 : String := "TinNation$Steps"
def TX7 : u_T := fun k => match k with
  | _ => ("TinNation$Steps", "rows", "LTinNation$Rows;", true)
def tyX7 : Nat → FieldType := fun k => match k with
  | _ => .object "TinNation$Rows"
abbrev wsX70 : List Cond := u_ws RX7 TX7 1
theorem nmX7 : ∀ a, a < 1 → ∀ b, b < 1 → a ≠ b → (TX7 a).2.1 ≠ (TX7 b).2.1 := by decide +kernel
theorem tyX7_ok : ∀ k, k < 1 → parseFieldDescriptor (TX7 k).2.2.1 = some (tyX7 k) := by decide +kernel
abbrev cX7_init : ByteArray := prog_9_method_1_code
def yX7_init : MethodName := ⟨RX7, "<init>", "()V"⟩
abbrev cX7_clear : ByteArray := prog_9_method_2_code
def yX7_clear : MethodName := ⟨RX7, "clear", "()V"⟩
abbrev cX7_add : ByteArray := prog_9_method_3_code
def yX7_add : MethodName := ⟨RX7, "add", "(IIII)V"⟩
abbrev cX7_takeBack : ByteArray := prog_9_method_4_code
def yX7_takeBack : MethodName := ⟨RX7, "takeBack", "(LTinNation$State;)V"⟩
abbrev cX7_takeBackOfTin : ByteArray := prog_9_method_5_code
def yX7_takeBackOfTin : MethodName := ⟨RX7, "takeBackOfTin", "(LTinNation$State;II)V"⟩
def RX8 : String := "TinNation$Told"
def TX8 : u_T := fun k => match k with
  | 0 => ("TinNation$Told", "rows", "LTinNation$Rows;", true)
  | _ => ("TinNation$Told", "knownBy", "I", false)
def tyX8 : Nat → FieldType := fun k => match k with
  | 0 => .object "TinNation$Rows"
  | _ => .int
abbrev wsX80 : List Cond := u_ws RX8 TX8 2
theorem nmX8 : ∀ a, a < 2 → ∀ b, b < 2 → a ≠ b → (TX8 a).2.1 ≠ (TX8 b).2.1 := by decide +kernel
theorem tyX8_ok : ∀ k, k < 2 → parseFieldDescriptor (TX8 k).2.2.1 = some (tyX8 k) := by decide +kernel
abbrev cX8_init : ByteArray := prog_10_method_1_code
def yX8_init : MethodName := ⟨RX8, "<init>", "()V"⟩
abbrev cX8_clear : ByteArray := prog_10_method_2_code
def yX8_clear : MethodName := ⟨RX8, "clear", "()V"⟩
abbrev cX8_add : ByteArray := prog_10_method_3_code
def yX8_add : MethodName := ⟨RX8, "add", "(IIIZ)I"⟩
abbrev cX8_howManyKnown : ByteArray := prog_10_method_4_code
def yX8_howManyKnown : MethodName := ⟨RX8, "howManyKnown", "()I"⟩
abbrev cX8_counted : ByteArray := prog_10_method_5_code
def yX8_counted : MethodName := ⟨RX8, "counted", "()I"⟩
abbrev cX8_mayBe : ByteArray := prog_10_method_6_code
def yX8_mayBe : MethodName := ⟨RX8, "mayBe", "(III)Z"⟩
abbrev cX8_lastSeen : ByteArray := prog_10_method_7_code
def yX8_lastSeen : MethodName := ⟨RX8, "lastSeen", "(I)I"⟩
abbrev cX8_isSeenSo : ByteArray := prog_10_method_8_code
def yX8_isSeenSo : MethodName := ⟨RX8, "isSeenSo", "(IILTinNation$State;)Z"⟩
def RX9 : String := "TinNation"
def TX9 : u_T := fun k => match k with
  | 0 => ("TinNation", "tape", "[B", true)
  | 1 => ("TinNation", "taped", "I", false)
  | 2 => ("TinNation", "parser", "LTinNation$Parser;", true)
  | 3 => ("TinNation", "plan", "LTinNation$Plan;", true)
  | 4 => ("TinNation", "days", "LTinNation$Days;", true)
  | 5 => ("TinNation", "now", "LTinNation$State;", true)
  | 6 => ("TinNation", "trial", "LTinNation$State;", true)
  | 7 => ("TinNation", "image", "LTinNation$State;", true)
  | 8 => ("TinNation", "isKept", "Z", false)
  | 9 => ("TinNation", "told", "LTinNation$Told;", true)
  | 10 => ("TinNation", "steps", "LTinNation$Steps;", true)
  | 11 => ("TinNation", "row", "[I", true)
  | _ => ("TinNation", "bestRow", "[I", true)
def tyX9 : Nat → FieldType := fun k => match k with
  | 0 => .array .byte
  | 1 => .int
  | 2 => .object "TinNation$Parser"
  | 3 => .object "TinNation$Plan"
  | 4 => .object "TinNation$Days"
  | 5 => .object "TinNation$State"
  | 6 => .object "TinNation$State"
  | 7 => .object "TinNation$State"
  | 8 => .boolean
  | 9 => .object "TinNation$Told"
  | 10 => .object "TinNation$Steps"
  | 11 => .array .int
  | _ => .array .int
abbrev wsX90 : List Cond := u_ws RX9 TX9 13
theorem nmX9 : ∀ a, a < 13 → ∀ b, b < 13 → a ≠ b → (TX9 a).2.1 ≠ (TX9 b).2.1 := by decide +kernel
theorem tyX9_ok : ∀ k, k < 13 → parseFieldDescriptor (TX9 k).2.2.1 = some (tyX9 k) := by decide +kernel
abbrev cX9_init : ByteArray := prog_1_method_1_code
def yX9_init : MethodName := ⟨RX9, "<init>", "()V"⟩
abbrev cX9_feed : ByteArray := prog_1_method_2_code
def yX9_feed : MethodName := ⟨RX9, "feed", "(IIIII)I"⟩
abbrev cX9_tapeNumber : ByteArray := prog_1_method_3_code
def yX9_tapeNumber : MethodName := ⟨RX9, "tapeNumber", "(I)V"⟩
abbrev cX9_text : ByteArray := prog_1_method_4_code
def yX9_text : MethodName := ⟨RX9, "text", "(I)I"⟩
abbrev cX9_fault : ByteArray := prog_1_method_5_code
def yX9_fault : MethodName := ⟨RX9, "fault", "(I)I"⟩
abbrev cX9_named : ByteArray := prog_1_method_6_code
def yX9_named : MethodName := ⟨RX9, "named", "(II)I"⟩
abbrev cX9_tin : ByteArray := prog_1_method_7_code
def yX9_tin : MethodName := ⟨RX9, "tin", "(II)I"⟩
abbrev cX9_kind : ByteArray := prog_1_method_8_code
def yX9_kind : MethodName := ⟨RX9, "kind", "(II)I"⟩
abbrev cX9_tinsOf : ByteArray := prog_1_method_9_code
def yX9_tinsOf : MethodName := ⟨RX9, "tinsOf", "(II)I"⟩
abbrev cX9_want : ByteArray := prog_1_method_10_code
def yX9_want : MethodName := ⟨RX9, "want", "(II)I"⟩
abbrev cX9_top : ByteArray := prog_1_method_11_code
def yX9_top : MethodName := ⟨RX9, "top", "(I)I"⟩
abbrev cX9_law : ByteArray := prog_1_method_12_code
def yX9_law : MethodName := ⟨RX9, "law", "(III)J"⟩
abbrev cX9_open : ByteArray := prog_1_method_13_code
def yX9_open : MethodName := ⟨RX9, "open", "(I)I"⟩
abbrev cX9_put : ByteArray := prog_1_method_14_code
def yX9_put : MethodName := ⟨RX9, "put", "(II)Z"⟩
abbrev cX9_dent : ByteArray := prog_1_method_15_code
def yX9_dent : MethodName := ⟨RX9, "dent", "(I)I"⟩
abbrev cX9_find : ByteArray := prog_1_method_16_code
def yX9_find : MethodName := ⟨RX9, "find", "(I)I"⟩
abbrev cX9_go : ByteArray := prog_1_method_17_code
def yX9_go : MethodName := ⟨RX9, "go", "(I)I"⟩
abbrev cX9_ahead : ByteArray := prog_1_method_18_code
def yX9_ahead : MethodName := ⟨RX9, "ahead", "(II)I"⟩
abbrev cX9_above : ByteArray := prog_1_method_19_code
def yX9_above : MethodName := ⟨RX9, "above", "(I)I"⟩
abbrev cX9_order : ByteArray := prog_1_method_20_code
def yX9_order : MethodName := ⟨RX9, "order", "(I)I"⟩
abbrev cX9_firstClosed : ByteArray := prog_1_method_21_code
def yX9_firstClosed : MethodName := ⟨RX9, "firstClosed", "()I"⟩
abbrev cX9_gainedInRow : ByteArray := prog_1_method_22_code
def yX9_gainedInRow : MethodName := ⟨RX9, "gainedInRow", "(I)I"⟩
abbrev cX9_nextRow : ByteArray := prog_1_method_23_code
def yX9_nextRow : MethodName := ⟨RX9, "nextRow", "(I)Z"⟩
abbrev cX9_swapInRow : ByteArray := prog_1_method_24_code
def yX9_swapInRow : MethodName := ⟨RX9, "swapInRow", "(II)V"⟩
abbrev cX9_best : ByteArray := prog_1_method_25_code
def yX9_best : MethodName := ⟨RX9, "best", "(II)I"⟩
abbrev cX9_gainedByOpening : ByteArray := prog_1_method_26_code
def yX9_gainedByOpening : MethodName := ⟨RX9, "gainedByOpening", "(II)I"⟩
abbrev cX9_tidy : ByteArray := prog_1_method_27_code
def yX9_tidy : MethodName := ⟨RX9, "tidy", "(I)I"⟩
abbrev cX9_takenOut : ByteArray := prog_1_method_28_code
def yX9_takenOut : MethodName := ⟨RX9, "takenOut", "(II)I"⟩
abbrev cX9_isBelowLonger : ByteArray := prog_1_method_29_code
def yX9_isBelowLonger : MethodName := ⟨RX9, "isBelowLonger", "(I)Z"⟩
abbrev cX9_isBit : ByteArray := prog_1_method_30_code
def yX9_isBit : MethodName := ⟨RX9, "isBit", "(II)Z"⟩
abbrev cX9_rests : ByteArray := prog_1_method_31_code
def yX9_rests : MethodName := ⟨RX9, "rests", "(I)I"⟩
abbrev cX9_rest : ByteArray := prog_1_method_32_code
def yX9_rest : MethodName := ⟨RX9, "rest", "(II)I"⟩
abbrev cX9_isRest : ByteArray := prog_1_method_33_code
def yX9_isRest : MethodName := ⟨RX9, "isRest", "(III)Z"⟩
abbrev cX9_hasOfShare : ByteArray := prog_1_method_34_code
def yX9_hasOfShare : MethodName := ⟨RX9, "hasOfShare", "(III)I"⟩
abbrev cX9_whole : ByteArray := prog_1_method_35_code
def yX9_whole : MethodName := ⟨RX9, "whole", "(II)J"⟩
abbrev cX9_commonDivisor : ByteArray := prog_1_method_36_code
def yX9_commonDivisor : MethodName := ⟨RX9, "commonDivisor", "(JJ)J"⟩
abbrev cX9_unmet : ByteArray := prog_1_method_37_code
def yX9_unmet : MethodName := ⟨RX9, "unmet", "()I"⟩
abbrev cX9_blows : ByteArray := prog_1_method_38_code
def yX9_blows : MethodName := ⟨RX9, "blows", "(I)I"⟩
abbrev cX9_note : ByteArray := prog_1_method_39_code
def yX9_note : MethodName := ⟨RX9, "note", "(IIZ)I"⟩
abbrev cX9_see : ByteArray := prog_1_method_40_code
def yX9_see : MethodName := ⟨RX9, "see", "(IIZ)I"⟩
abbrev cX9_strike : ByteArray := prog_1_method_41_code
def yX9_strike : MethodName := ⟨RX9, "strike", "(I)I"⟩
abbrev cX9_known : ByteArray := prog_1_method_42_code
def yX9_known : MethodName := ⟨RX9, "known", "(I)Z"⟩
abbrev cX9_which : ByteArray := prog_1_method_43_code
def yX9_which : MethodName := ⟨RX9, "which", "()I"⟩
abbrev cX9_ask : ByteArray := prog_1_method_44_code
def yX9_ask : MethodName := ⟨RX9, "ask", "(I)I"⟩
abbrev cX9_dented : ByteArray := prog_1_method_45_code
def yX9_dented : MethodName := ⟨RX9, "dented", "(I)I"⟩
abbrev cX9_isSeenSo : ByteArray := prog_1_method_46_code
def yX9_isSeenSo : MethodName := ⟨RX9, "isSeenSo", "(I)Z"⟩
abbrev cX9_chance : ByteArray := prog_1_method_47_code
def yX9_chance : MethodName := ⟨RX9, "chance", "(III)I"⟩
abbrev cX9_tried : ByteArray := prog_1_method_48_code
def yX9_tried : MethodName := ⟨RX9, "tried", "(III)I"⟩
abbrev cX9_undo : ByteArray := prog_1_method_49_code
def yX9_undo : MethodName := ⟨RX9, "undo", "()I"⟩
abbrev cX9_keep : ByteArray := prog_1_method_50_code
def yX9_keep : MethodName := ⟨RX9, "keep", "()I"⟩
abbrev cX9_back : ByteArray := prog_1_method_51_code
def yX9_back : MethodName := ⟨RX9, "back", "()I"⟩
abbrev cX9_count : ByteArray := prog_1_method_52_code
def yX9_count : MethodName := ⟨RX9, "count", "(I)I"⟩
def RX10 : String := "TinNationModel"
def TX10 : u_T := fun k => match k with
  | 0 => ("TinNationModel", "thrown", "I", false)
  | 1 => ("TinNationModel", "tape", "[I", true)
  | 2 => ("TinNationModel", "taped", "I", false)
  | 3 => ("TinNationModel", "number", "[I", true)
  | 4 => ("TinNationModel", "kindName", "[I", true)
  | 5 => ("TinNationModel", "weightOf", "[I", true)
  | 6 => ("TinNationModel", "soundOf", "[I", true)
  | 7 => ("TinNationModel", "tinName", "[I", true)
  | 8 => ("TinNationModel", "kindOf", "[I", true)
  | 9 => ("TinNationModel", "dentsAs", "[I", true)
  | 10 => ("TinNationModel", "keepsOf", "[I", true)
  | 11 => ("TinNationModel", "stackAs", "[I", true)
  | 12 => ("TinNationModel", "openTin", "[I", true)
  | 13 => ("TinNationModel", "openDay", "[I", true)
  | 14 => ("TinNationModel", "wantKind", "[I", true)
  | 15 => ("TinNationModel", "wantDay", "[I", true)
  | 16 => ("TinNationModel", "wantWorth", "[I", true)
  | 17 => ("TinNationModel", "sumFrom", "[I", true)
  | 18 => ("TinNationModel", "sumTo", "[I", true)
  | 19 => ("TinNationModel", "knotSort", "[I", true)
  | 20 => ("TinNationModel", "knotValue", "[I", true)
  | 21 => ("TinNationModel", "told", "I", false)
  | 22 => ("TinNationModel", "lines", "I", false)
  | 23 => ("TinNationModel", "size", "I", false)
  | 24 => ("TinNationModel", "at", "I", false)
  | 25 => ("TinNationModel", "place", "I", false)
  | 26 => ("TinNationModel", "sort", "I", false)
  | 27 => ("TinNationModel", "value", "I", false)
  | 28 => ("TinNationModel", "fault", "I", false)
  | 29 => ("TinNationModel", "faultPlace", "I", false)
  | 30 => ("TinNationModel", "lastFault", "I", false)
  | 31 => ("TinNationModel", "lastPlace", "I", false)
  | 32 => ("TinNationModel", "open", "I", false)
  | 33 => ("TinNationModel", "counted", "I", false)
  | 34 => ("TinNationModel", "names", "[J", true)
  | 35 => ("TinNationModel", "worked", "[J", true)
  | 36 => ("TinNationModel", "workedMany", "I", false)
  | 37 => ("TinNationModel", "day", "[I", true)
  | 38 => ("TinNationModel", "drawn", "[I", true)
  | 39 => ("TinNationModel", "keysOf", "[I", true)
  | 40 => ("TinNationModel", "gloryOf", "[I", true)
  | 41 => ("TinNationModel", "refused", "[I", true)
  | 42 => ("TinNationModel", "puts", "[I", true)
  | 43 => ("TinNationModel", "highOf", "[I", true)
  | 44 => ("TinNationModel", "stackOf", "[I", true)
  | 45 => ("TinNationModel", "dentsOf", "[I", true)
  | 46 => ("TinNationModel", "howOf", "[I", true)
  | 47 => ("TinNationModel", "leftOf", "[I", true)
  | 48 => ("TinNationModel", "servedOf", "[I", true)
  | 49 => ("TinNationModel", "outcome", "[I", true)
  | 50 => ("TinNationModel", "hasImage", "Z", false)
  | 51 => ("TinNationModel", "undoMany", "I", false)
  | 52 => ("TinNationModel", "tryWhat", "I", false)
  | 53 => ("TinNationModel", "tryTin", "I", false)
  | 54 => ("TinNationModel", "four", "[I", true)
  | 55 => ("TinNationModel", "rowNow", "[I", true)
  | 56 => ("TinNationModel", "rowBest", "[I", true)
  | 57 => ("TinNationModel", "fourMany", "I", false)
  | 58 => ("TinNationModel", "rowMost", "I", false)
  | 59 => ("TinNationModel", "notes", "I", false)
  | 60 => ("TinNationModel", "knownBy", "I", false)
  | 61 => ("TinNationModel", "noteSort", "[I", true)
  | 62 => ("TinNationModel", "noteMuch", "[I", true)
  | 63 => ("TinNationModel", "noteTin", "[I", true)
  | 64 => ("TinNationModel", "noteIs", "[Z", true)
  | _ => ("TinNationModel", "isOut", "[Z", true)
def tyX10 : Nat → FieldType := fun k => match k with
  | 0 => .int
  | 1 => .array .int
  | 2 => .int
  | 3 => .array .int
  | 4 => .array .int
  | 5 => .array .int
  | 6 => .array .int
  | 7 => .array .int
  | 8 => .array .int
  | 9 => .array .int
  | 10 => .array .int
  | 11 => .array .int
  | 12 => .array .int
  | 13 => .array .int
  | 14 => .array .int
  | 15 => .array .int
  | 16 => .array .int
  | 17 => .array .int
  | 18 => .array .int
  | 19 => .array .int
  | 20 => .array .int
  | 21 => .int
  | 22 => .int
  | 23 => .int
  | 24 => .int
  | 25 => .int
  | 26 => .int
  | 27 => .int
  | 28 => .int
  | 29 => .int
  | 30 => .int
  | 31 => .int
  | 32 => .int
  | 33 => .int
  | 34 => .array .long
  | 35 => .array .long
  | 36 => .int
  | 37 => .array .int
  | 38 => .array .int
  | 39 => .array .int
  | 40 => .array .int
  | 41 => .array .int
  | 42 => .array .int
  | 43 => .array .int
  | 44 => .array .int
  | 45 => .array .int
  | 46 => .array .int
  | 47 => .array .int
  | 48 => .array .int
  | 49 => .array .int
  | 50 => .boolean
  | 51 => .int
  | 52 => .int
  | 53 => .int
  | 54 => .array .int
  | 55 => .array .int
  | 56 => .array .int
  | 57 => .int
  | 58 => .int
  | 59 => .int
  | 60 => .int
  | 61 => .array .int
  | 62 => .array .int
  | 63 => .array .int
  | 64 => .array .boolean
  | _ => .array .boolean
abbrev wsX100 : List Cond := u_ws RX10 TX10 66
theorem nmX10 : ∀ a, a < 66 → ∀ b, b < 66 → a ≠ b → (TX10 a).2.1 ≠ (TX10 b).2.1 := by decide +kernel
theorem tyX10_ok : ∀ k, k < 66 → parseFieldDescriptor (TX10 k).2.2.1 = some (tyX10 k) := by decide +kernel
abbrev cX10_init : ByteArray := prog_12_method_1_code
def yX10_init : MethodName := ⟨RX10, "<init>", "()V"⟩
abbrev cX10_thrown : ByteArray := prog_12_method_2_code
def yX10_thrown : MethodName := ⟨RX10, "thrown", "()I"⟩
abbrev cX10_feed : ByteArray := prog_12_method_3_code
def yX10_feed : MethodName := ⟨RX10, "feed", "(IIIII)I"⟩
abbrev cX10_here : ByteArray := prog_12_method_4_code
def yX10_here : MethodName := ⟨RX10, "here", "()I"⟩
abbrev cX10_isSmall : ByteArray := prog_12_method_5_code
def yX10_isSmall : MethodName := ⟨RX10, "isSmall", "(I)Z"⟩
abbrev cX10_isDigit : ByteArray := prog_12_method_6_code
def yX10_isDigit : MethodName := ⟨RX10, "isDigit", "(I)Z"⟩
abbrev cX10_token : ByteArray := prog_12_method_7_code
def yX10_token : MethodName := ⟨RX10, "token", "()V"⟩
abbrev cX10_sign : ByteArray := prog_12_method_8_code
def yX10_sign : MethodName := ⟨RX10, "sign", "(I)V"⟩
abbrev cX10_word : ByteArray := prog_12_method_9_code
def yX10_word : MethodName := ⟨RX10, "word", "()I"⟩
abbrev cX10_name : ByteArray := prog_12_method_10_code
def yX10_name : MethodName := ⟨RX10, "name", "()V"⟩
abbrev cX10_wrong : ByteArray := prog_12_method_11_code
def yX10_wrong : MethodName := ⟨RX10, "wrong", "(I)V"⟩
abbrev cX10_isWord : ByteArray := prog_12_method_12_code
def yX10_isWord : MethodName := ⟨RX10, "isWord", "(I)Z"⟩
abbrev cX10_isSign : ByteArray := prog_12_method_13_code
def yX10_isSign : MethodName := ⟨RX10, "isSign", "(I)Z"⟩
abbrev cX10_goOn : ByteArray := prog_12_method_14_code
def yX10_goOn : MethodName := ⟨RX10, "goOn", "()V"⟩
abbrev cX10_numeral : ByteArray := prog_12_method_15_code
def yX10_numeral : MethodName := ⟨RX10, "numeral", "(II)I"⟩
abbrev cX10_found : ByteArray := prog_12_method_16_code
def yX10_found : MethodName := ⟨RX10, "found", "([IIII)I"⟩
abbrev cX10_fresh : ByteArray := prog_12_method_17_code
def yX10_fresh : MethodName := ⟨RX10, "fresh", "([III)I"⟩
abbrev cX10_fresher : ByteArray := prog_12_method_18_code
def yX10_fresher : MethodName := ⟨RX10, "fresher", "(I)I"⟩
abbrev cX10_reads : ByteArray := prog_12_method_19_code
def yX10_reads : MethodName := ⟨RX10, "reads", "(II)V"⟩
abbrev cX10_toldAhead : ByteArray := prog_12_method_20_code
def yX10_toldAhead : MethodName := ⟨RX10, "toldAhead", "([III)I"⟩
abbrev cX10_isFull : ByteArray := prog_12_method_21_code
def yX10_isFull : MethodName := ⟨RX10, "isFull", "(I)Z"⟩
abbrev cX10_line : ByteArray := prog_12_method_22_code
def yX10_line : MethodName := ⟨RX10, "line", "()V"⟩
abbrev cX10_lawLine : ByteArray := prog_12_method_23_code
def yX10_lawLine : MethodName := ⟨RX10, "lawLine", "()V"⟩
abbrev cX10_puts : ByteArray := prog_12_method_24_code
def yX10_puts : MethodName := ⟨RX10, "puts", "(II)V"⟩
abbrev cX10_knot : ByteArray := prog_12_method_25_code
def yX10_knot : MethodName := ⟨RX10, "knot", "()V"⟩
abbrev cX10_expression : ByteArray := prog_12_method_26_code
def yX10_expression : MethodName := ⟨RX10, "expression", "()V"⟩
abbrev cX10_conjunction : ByteArray := prog_12_method_27_code
def yX10_conjunction : MethodName := ⟨RX10, "conjunction", "()V"⟩
abbrev cX10_negation : ByteArray := prog_12_method_28_code
def yX10_negation : MethodName := ⟨RX10, "negation", "()V"⟩
abbrev cX10_sum : ByteArray := prog_12_method_29_code
def yX10_sum : MethodName := ⟨RX10, "sum", "()V"⟩
abbrev cX10_product : ByteArray := prog_12_method_30_code
def yX10_product : MethodName := ⟨RX10, "product", "()V"⟩
abbrev cX10_primary : ByteArray := prog_12_method_31_code
def yX10_primary : MethodName := ⟨RX10, "primary", "()V"⟩
abbrev cX10_half : ByteArray := prog_12_method_32_code
def yX10_half : MethodName := ⟨RX10, "half", "([I)V"⟩
abbrev cX10_text : ByteArray := prog_12_method_33_code
def yX10_text : MethodName := ⟨RX10, "text", "(I)I"⟩
abbrev cX10_fault : ByteArray := prog_12_method_34_code
def yX10_fault : MethodName := ⟨RX10, "fault", "(I)I"⟩
abbrev cX10_named : ByteArray := prog_12_method_35_code
def yX10_named : MethodName := ⟨RX10, "named", "(II)I"⟩
abbrev cX10_is : ByteArray := prog_12_method_36_code
def yX10_is : MethodName := ⟨RX10, "is", "(Z)J"⟩
abbrev cX10_works : ByteArray := prog_12_method_37_code
def yX10_works : MethodName := ⟨RX10, "works", "(I)Z"⟩
abbrev cX10_goes : ByteArray := prog_12_method_38_code
def yX10_goes : MethodName := ⟨RX10, "goes", "(I)Z"⟩
abbrev cX10_hasLaw : ByteArray := prog_12_method_39_code
def yX10_hasLaw : MethodName := ⟨RX10, "hasLaw", "(I)Z"⟩
abbrev cX10_starts : ByteArray := prog_12_method_40_code
def yX10_starts : MethodName := ⟨RX10, "starts", "(I)V"⟩
abbrev cX10_begins : ByteArray := prog_12_method_41_code
def yX10_begins : MethodName := ⟨RX10, "begins", "()V"⟩
abbrev cX10_copies : ByteArray := prog_12_method_42_code
def yX10_copies : MethodName := ⟨RX10, "copies", "(II)V"⟩
abbrev cX10_isTin : ByteArray := prog_12_method_43_code
def yX10_isTin : MethodName := ⟨RX10, "isTin", "(I)Z"⟩
abbrev cX10_isKind : ByteArray := prog_12_method_44_code
def yX10_isKind : MethodName := ⟨RX10, "isKind", "(I)Z"⟩
abbrev cX10_isStack : ByteArray := prog_12_method_45_code
def yX10_isStack : MethodName := ⟨RX10, "isStack", "(I)Z"⟩
abbrev cX10_isClosed : ByteArray := prog_12_method_46_code
def yX10_isClosed : MethodName := ⟨RX10, "isClosed", "(II)Z"⟩
abbrev cX10_aboveOf : ByteArray := prog_12_method_47_code
def yX10_aboveOf : MethodName := ⟨RX10, "aboveOf", "(II)I"⟩
abbrev cX10_isOnTop : ByteArray := prog_12_method_48_code
def yX10_isOnTop : MethodName := ⟨RX10, "isOnTop", "(II)Z"⟩
abbrev cX10_calls : ByteArray := prog_12_method_49_code
def yX10_calls : MethodName := ⟨RX10, "calls", "(III)V"⟩
abbrev cX10_within : ByteArray := prog_12_method_50_code
def yX10_within : MethodName := ⟨RX10, "within", "(IIII)I"⟩
abbrev cX10_opens : ByteArray := prog_12_method_51_code
def yX10_opens : MethodName := ⟨RX10, "opens", "(II)V"⟩
abbrev cX10_opensTold : ByteArray := prog_12_method_52_code
def yX10_opensTold : MethodName := ⟨RX10, "opensTold", "(II)V"⟩
abbrev cX10_serves : ByteArray := prog_12_method_53_code
def yX10_serves : MethodName := ⟨RX10, "serves", "(III)I"⟩
abbrev cX10_doesRust : ByteArray := prog_12_method_54_code
def yX10_doesRust : MethodName := ⟨RX10, "doesRust", "(IIZ)Z"⟩
abbrev cX10_passes : ByteArray := prog_12_method_55_code
def yX10_passes : MethodName := ⟨RX10, "passes", "(IZ)V"⟩
abbrev cX10_goesOn : ByteArray := prog_12_method_56_code
def yX10_goesOn : MethodName := ⟨RX10, "goesOn", "(I)V"⟩
abbrev cX10_runs : ByteArray := prog_12_method_57_code
def yX10_runs : MethodName := ⟨RX10, "runs", "(I)V"⟩
abbrev cX10_tinsOf : ByteArray := prog_12_method_58_code
def yX10_tinsOf : MethodName := ⟨RX10, "tinsOf", "(II)I"⟩
abbrev cX10_wantsOf : ByteArray := prog_12_method_59_code
def yX10_wantsOf : MethodName := ⟨RX10, "wantsOf", "(II)I"⟩
abbrev cX10_tin : ByteArray := prog_12_method_60_code
def yX10_tin : MethodName := ⟨RX10, "tin", "(II)I"⟩
abbrev cX10_setOf : ByteArray := prog_12_method_61_code
def yX10_setOf : MethodName := ⟨RX10, "setOf", "(II)I"⟩
abbrev cX10_kind : ByteArray := prog_12_method_62_code
def yX10_kind : MethodName := ⟨RX10, "kind", "(II)I"⟩
abbrev cX10_want : ByteArray := prog_12_method_63_code
def yX10_want : MethodName := ⟨RX10, "want", "(II)I"⟩
abbrev cX10_top : ByteArray := prog_12_method_64_code
def yX10_top : MethodName := ⟨RX10, "top", "(I)I"⟩
abbrev cX10_law : ByteArray := prog_12_method_65_code
def yX10_law : MethodName := ⟨RX10, "law", "(III)J"⟩
abbrev cX10_keepNow : ByteArray := prog_12_method_66_code
def yX10_keepNow : MethodName := ⟨RX10, "keepNow", "()V"⟩
abbrev cX10_open : ByteArray := prog_12_method_67_code
def yX10_open : MethodName := ⟨RX10, "open", "(I)I"⟩
abbrev cX10_put : ByteArray := prog_12_method_68_code
def yX10_put : MethodName := ⟨RX10, "put", "(II)Z"⟩
abbrev cX10_dent : ByteArray := prog_12_method_69_code
def yX10_dent : MethodName := ⟨RX10, "dent", "(I)I"⟩
abbrev cX10_find : ByteArray := prog_12_method_70_code
def yX10_find : MethodName := ⟨RX10, "find", "(I)I"⟩
abbrev cX10_go : ByteArray := prog_12_method_71_code
def yX10_go : MethodName := ⟨RX10, "go", "(I)I"⟩
abbrev cX10_ahead : ByteArray := prog_12_method_72_code
def yX10_ahead : MethodName := ⟨RX10, "ahead", "(II)I"⟩
abbrev cX10_above : ByteArray := prog_12_method_73_code
def yX10_above : MethodName := ⟨RX10, "above", "(I)I"⟩
abbrev cX10_blows : ByteArray := prog_12_method_74_code
def yX10_blows : MethodName := ⟨RX10, "blows", "(I)I"⟩
abbrev cX10_rows : ByteArray := prog_12_method_75_code
def yX10_rows : MethodName := ⟨RX10, "rows", "(II)V"⟩
abbrev cX10_order : ByteArray := prog_12_method_76_code
def yX10_order : MethodName := ⟨RX10, "order", "(I)I"⟩
abbrev cX10_best : ByteArray := prog_12_method_77_code
def yX10_best : MethodName := ⟨RX10, "best", "(II)I"⟩
abbrev cX10_isTidy : ByteArray := prog_12_method_78_code
def yX10_isTidy : MethodName := ⟨RX10, "isTidy", "(II)Z"⟩
abbrev cX10_tidy : ByteArray := prog_12_method_79_code
def yX10_tidy : MethodName := ⟨RX10, "tidy", "(I)I"⟩
abbrev cX10_bitsOf : ByteArray := prog_12_method_80_code
def yX10_bitsOf : MethodName := ⟨RX10, "bitsOf", "(I)I"⟩
abbrev cX10_hasOf : ByteArray := prog_12_method_81_code
def yX10_hasOf : MethodName := ⟨RX10, "hasOf", "(III)I"⟩
abbrev cX10_isRest : ByteArray := prog_12_method_82_code
def yX10_isRest : MethodName := ⟨RX10, "isRest", "(III)Z"⟩
abbrev cX10_restOf : ByteArray := prog_12_method_83_code
def yX10_restOf : MethodName := ⟨RX10, "restOf", "(II)I"⟩
abbrev cX10_isOpen : ByteArray := prog_12_method_84_code
def yX10_isOpen : MethodName := ⟨RX10, "isOpen", "(I)Z"⟩
abbrev cX10_rests : ByteArray := prog_12_method_85_code
def yX10_rests : MethodName := ⟨RX10, "rests", "(I)I"⟩
abbrev cX10_rest : ByteArray := prog_12_method_86_code
def yX10_rest : MethodName := ⟨RX10, "rest", "(II)I"⟩
abbrev cX10_common : ByteArray := prog_12_method_87_code
def yX10_common : MethodName := ⟨RX10, "common", "(JJ)J"⟩
abbrev cX10_whole : ByteArray := prog_12_method_88_code
def yX10_whole : MethodName := ⟨RX10, "whole", "(II)J"⟩
abbrev cX10_unmet : ByteArray := prog_12_method_89_code
def yX10_unmet : MethodName := ⟨RX10, "unmet", "()I"⟩
abbrev cX10_noted : ByteArray := prog_12_method_90_code
def yX10_noted : MethodName := ⟨RX10, "noted", "(IIIZ)I"⟩
abbrev cX10_note : ByteArray := prog_12_method_91_code
def yX10_note : MethodName := ⟨RX10, "note", "(IIZ)I"⟩
abbrev cX10_see : ByteArray := prog_12_method_92_code
def yX10_see : MethodName := ⟨RX10, "see", "(IIZ)I"⟩
abbrev cX10_strike : ByteArray := prog_12_method_93_code
def yX10_strike : MethodName := ⟨RX10, "strike", "(I)I"⟩
abbrev cX10_known : ByteArray := prog_12_method_94_code
def yX10_known : MethodName := ⟨RX10, "known", "(I)Z"⟩
abbrev cX10_knownMany : ByteArray := prog_12_method_95_code
def yX10_knownMany : MethodName := ⟨RX10, "knownMany", "()I"⟩
abbrev cX10_strikes : ByteArray := prog_12_method_96_code
def yX10_strikes : MethodName := ⟨RX10, "strikes", "()V"⟩
abbrev cX10_isNoted : ByteArray := prog_12_method_97_code
def yX10_isNoted : MethodName := ⟨RX10, "isNoted", "(I)Z"⟩
abbrev cX10_whichOnes : ByteArray := prog_12_method_98_code
def yX10_whichOnes : MethodName := ⟨RX10, "whichOnes", "()I"⟩
abbrev cX10_which : ByteArray := prog_12_method_99_code
def yX10_which : MethodName := ⟨RX10, "which", "()I"⟩
abbrev cX10_ask : ByteArray := prog_12_method_100_code
def yX10_ask : MethodName := ⟨RX10, "ask", "(I)I"⟩
abbrev cX10_isSo : ByteArray := prog_12_method_101_code
def yX10_isSo : MethodName := ⟨RX10, "isSo", "(I)Z"⟩
abbrev cX10_fitsDents : ByteArray := prog_12_method_102_code
def yX10_fitsDents : MethodName := ⟨RX10, "fitsDents", "(III)Z"⟩
abbrev cX10_dented : ByteArray := prog_12_method_103_code
def yX10_dented : MethodName := ⟨RX10, "dented", "(I)I"⟩
abbrev cX10_chance : ByteArray := prog_12_method_104_code
def yX10_chance : MethodName := ⟨RX10, "chance", "(III)I"⟩
abbrev cX10_tried : ByteArray := prog_12_method_105_code
def yX10_tried : MethodName := ⟨RX10, "tried", "(III)I"⟩
abbrev cX10_undo : ByteArray := prog_12_method_106_code
def yX10_undo : MethodName := ⟨RX10, "undo", "()I"⟩
abbrev cX10_keep : ByteArray := prog_12_method_107_code
def yX10_keep : MethodName := ⟨RX10, "keep", "()I"⟩
abbrev cX10_back : ByteArray := prog_12_method_108_code
def yX10_back : MethodName := ⟨RX10, "back", "()I"⟩
abbrev cX10_count : ByteArray := prog_12_method_109_code
def yX10_count : MethodName := ⟨RX10, "count", "(I)I"⟩
def RJx145de : String := "java/io/Serializable"
def TJx145de : u_T := fun k => match k with
  | _ => ("", "", "", false)
def tyJx145de : Nat → FieldType := fun k => match k with
  | _ => .int
abbrev wsJx145de0 : List Cond := u_ws RJx145de TJx145de 0
theorem nmJx145de : ∀ a, a < 0 → ∀ b, b < 0 → a ≠ b → (TJx145de a).2.1 ≠ (TJx145de b).2.1 := by decide +kernel
theorem tyJx145de_ok : ∀ k, k < 0 → parseFieldDescriptor (TJx145de k).2.2.1 = some (tyJx145de k) := by decide +kernel
def RJx9f9b0 : String := "java/lang/CharSequence"
def TJx9f9b0 : u_T := fun k => match k with
  | _ => ("", "", "", false)
def tyJx9f9b0 : Nat → FieldType := fun k => match k with
  | _ => .int
abbrev wsJx9f9b00 : List Cond := u_ws RJx9f9b0 TJx9f9b0 0
theorem nmJx9f9b0 : ∀ a, a < 0 → ∀ b, b < 0 → a ≠ b → (TJx9f9b0 a).2.1 ≠ (TJx9f9b0 b).2.1 := by decide +kernel
theorem tyJx9f9b0_ok : ∀ k, k < 0 → parseFieldDescriptor (TJx9f9b0 k).2.2.1 = some (tyJx9f9b0 k) := by decide +kernel
def RJ11 : String := "java/lang/Character"
def TJ11 : u_T := fun k => match k with
  | _ => ("", "", "", false)
def tyJ11 : Nat → FieldType := fun k => match k with
  | _ => .int
abbrev wsJ110 : List Cond := u_ws RJ11 TJ11 0
theorem nmJ11 : ∀ a, a < 0 → ∀ b, b < 0 → a ≠ b → (TJ11 a).2.1 ≠ (TJ11 b).2.1 := by decide +kernel
theorem tyJ11_ok : ∀ k, k < 0 → parseFieldDescriptor (TJ11 k).2.2.1 = some (tyJ11 k) := by decide +kernel
abbrev cJ11_isValidCodePoint_9a6ad : ByteArray := prog_15_method_11_code
def yJ11_isValidCodePoint_9a6ad : MethodName := ⟨RJ11, "isValidCodePoint", "(I)Z"⟩
abbrev cJ11_highSurrogate_5068e : ByteArray := prog_15_method_28_code
def yJ11_highSurrogate_5068e : MethodName := ⟨RJ11, "highSurrogate", "(I)C"⟩
abbrev cJ11_lowSurrogate_5068e : ByteArray := prog_15_method_29_code
def yJ11_lowSurrogate_5068e : MethodName := ⟨RJ11, "lowSurrogate", "(I)C"⟩
def RJxb160c : String := "java/lang/Comparable"
def TJxb160c : u_T := fun k => match k with
  | _ => ("", "", "", false)
def tyJxb160c : Nat → FieldType := fun k => match k with
  | _ => .int
abbrev wsJxb160c0 : List Cond := u_ws RJxb160c TJxb160c 0
theorem nmJxb160c : ∀ a, a < 0 → ∀ b, b < 0 → a ≠ b → (TJxb160c a).2.1 ≠ (TJxb160c b).2.1 := by decide +kernel
theorem tyJxb160c_ok : ∀ k, k < 0 → parseFieldDescriptor (TJxb160c k).2.2.1 = some (tyJxb160c k) := by decide +kernel
def RJ6 : String := "java/lang/Integer"
def TJ6 : u_T := fun k => match k with
  | _ => ("", "", "", false)
def tyJ6 : Nat → FieldType := fun k => match k with
  | _ => .int
abbrev wsJ60 : List Cond := u_ws RJ6 TJ6 0
theorem nmJ6 : ∀ a, a < 0 → ∀ b, b < 0 → a ≠ b → (TJ6 a).2.1 ≠ (TJ6 b).2.1 := by decide +kernel
theorem tyJ6_ok : ∀ k, k < 0 → parseFieldDescriptor (TJ6 k).2.2.1 = some (tyJ6 k) := by decide +kernel
abbrev cJ6_bitCount_0f7a4 : ByteArray := prog_19_method_49_code
def yJ6_bitCount_0f7a4 : MethodName := ⟨RJ6, "bitCount", "(I)I"⟩
def RJ9 : String := "java/lang/Math"
def TJ9 : u_T := fun k => match k with
  | _ => ("", "", "", false)
def tyJ9 : Nat → FieldType := fun k => match k with
  | _ => .int
abbrev wsJ90 : List Cond := u_ws RJ9 TJ9 0
theorem nmJ9 : ∀ a, a < 0 → ∀ b, b < 0 → a ≠ b → (TJ9 a).2.1 ≠ (TJ9 b).2.1 := by decide +kernel
theorem tyJ9_ok : ∀ k, k < 0 → parseFieldDescriptor (TJ9 k).2.2.1 = some (tyJ9 k) := by decide +kernel
abbrev cJ9_abs_067f4 : ByteArray := prog_20_method_61_code
def yJ9_abs_067f4 : MethodName := ⟨RJ9, "abs", "(J)J"⟩
abbrev cJ9_max_7cf53 : ByteArray := prog_20_method_65_code
def yJ9_max_7cf53 : MethodName := ⟨RJ9, "max", "(II)I"⟩
abbrev cJ9_max_f86c9 : ByteArray := prog_20_method_66_code
def yJ9_max_f86c9 : MethodName := ⟨RJ9, "max", "(JJ)J"⟩
abbrev cJ9_min_7cf53 : ByteArray := prog_20_method_69_code
def yJ9_min_7cf53 : MethodName := ⟨RJ9, "min", "(II)I"⟩
abbrev cJ9_min_f86c9 : ByteArray := prog_20_method_70_code
def yJ9_min_f86c9 : MethodName := ⟨RJ9, "min", "(JJ)J"⟩
def RJ0 : String := "java/lang/String"
def TJ0 : u_T := fun k => match k with
  | _ => ("", "", "", false)
def tyJ0 : Nat → FieldType := fun k => match k with
  | _ => .int
abbrev wsJ00 : List Cond := u_ws RJ0 TJ0 0
theorem nmJ0 : ∀ a, a < 0 → ∀ b, b < 0 → a ≠ b → (TJ0 a).2.1 ≠ (TJ0 b).2.1 := by decide +kernel
theorem tyJ0_ok : ∀ k, k < 0 → parseFieldDescriptor (TJ0 k).2.2.1 = some (tyJ0 k) := by decide +kernel
abbrev cJ0_length_8abf5 : ByteArray := prog_22_method_54_code
def yJ0_length_8abf5 : MethodName := ⟨RJ0, "length", "()I"⟩
abbrev cJ0_charAt_5068e : ByteArray := prog_22_method_56_code
def yJ0_charAt_5068e : MethodName := ⟨RJ0, "charAt", "(I)C"⟩
abbrev cJ0_indexOf_0f7a4 : ByteArray := prog_22_method_79_code
def yJ0_indexOf_0f7a4 : MethodName := ⟨RJ0, "indexOf", "(I)I"⟩
abbrev cJ0_indexOf_7cf53 : ByteArray := prog_22_method_80_code
def yJ0_indexOf_7cf53 : MethodName := ⟨RJ0, "indexOf", "(II)I"⟩
abbrev cJ0_coder_7d493 : ByteArray := prog_22_method_152_code
def yJ0_coder_7d493 : MethodName := ⟨RJ0, "coder", "()B"⟩
abbrev cJ0_isLatin1_aae02 : ByteArray := prog_22_method_154_code
def yJ0_isLatin1_aae02 : MethodName := ⟨RJ0, "isLatin1", "()Z"⟩
abbrev cJ0_checkIndex_df160 : ByteArray := prog_22_method_155_code
def yJ0_checkIndex_df160 : MethodName := ⟨RJ0, "checkIndex", "(II)V"⟩
abbrev cJ0_checkBoundsBeginEnd_23922 : ByteArray := prog_22_method_158_code
def yJ0_checkBoundsBeginEnd_23922 : MethodName := ⟨RJ0, "checkBoundsBeginEnd", "(III)V"⟩
def RJ1 : String := "java/lang/StringLatin1"
def TJ1 : u_T := fun k => match k with
  | _ => ("", "", "", false)
def tyJ1 : Nat → FieldType := fun k => match k with
  | _ => .int
abbrev wsJ10 : List Cond := u_ws RJ1 TJ1 0
theorem nmJ1 : ∀ a, a < 0 → ∀ b, b < 0 → a ≠ b → (TJ1 a).2.1 ≠ (TJ1 b).2.1 := by decide +kernel
theorem tyJ1_ok : ∀ k, k < 0 → parseFieldDescriptor (TJ1 k).2.2.1 = some (tyJ1 k) := by decide +kernel
abbrev cJ1_charAt_3b067 : ByteArray := prog_23_method_2_code
def yJ1_charAt_3b067 : MethodName := ⟨RJ1, "charAt", "([BI)C"⟩
abbrev cJ1_canEncode_9a6ad : ByteArray := prog_23_method_4_code
def yJ1_canEncode_9a6ad : MethodName := ⟨RJ1, "canEncode", "(I)Z"⟩
abbrev cJ1_indexOf_4cfef : ByteArray := prog_23_method_22_code
def yJ1_indexOf_4cfef : MethodName := ⟨RJ1, "indexOf", "([BIII)I"⟩
abbrev cJ1_indexOfChar_4cfef : ByteArray := prog_23_method_23_code
def yJ1_indexOfChar_4cfef : MethodName := ⟨RJ1, "indexOfChar", "([BIII)I"⟩
def RJ2 : String := "java/lang/StringUTF16"
def TJ2 : u_T := fun k => match k with
  | _ => ("", "", "", false)
def tyJ2 : Nat → FieldType := fun k => match k with
  | _ => .int
abbrev wsJ20 : List Cond := u_ws RJ2 TJ2 0
theorem nmJ2 : ∀ a, a < 0 → ∀ b, b < 0 → a ≠ b → (TJ2 a).2.1 ≠ (TJ2 b).2.1 := by decide +kernel
theorem tyJ2_ok : ∀ k, k < 0 → parseFieldDescriptor (TJ2 k).2.2.1 = some (tyJ2 k) := by decide +kernel
abbrev cJ2_getChar_3b067 : ByteArray := prog_24_method_5_code
def yJ2_getChar_3b067 : MethodName := ⟨RJ2, "getChar", "([BI)C"⟩
abbrev cJ2_length_9d52b : ByteArray := prog_24_method_6_code
def yJ2_length_9d52b : MethodName := ⟨RJ2, "length", "([B)I"⟩
abbrev cJ2_indexOf_4cfef : ByteArray := prog_24_method_40_code
def yJ2_indexOf_4cfef : MethodName := ⟨RJ2, "indexOf", "([BIII)I"⟩
abbrev cJ2_indexOfChar_4cfef : ByteArray := prog_24_method_47_code
def yJ2_indexOfChar_4cfef : MethodName := ⟨RJ2, "indexOfChar", "([BIII)I"⟩
abbrev cJ2_indexOfCharUnsafe_4cfef : ByteArray := prog_24_method_48_code
def yJ2_indexOfCharUnsafe_4cfef : MethodName := ⟨RJ2, "indexOfCharUnsafe", "([BIII)I"⟩
abbrev cJ2_indexOfSupplementary_4cfef : ByteArray := prog_24_method_49_code
def yJ2_indexOfSupplementary_4cfef : MethodName := ⟨RJ2, "indexOfSupplementary", "([BIII)I"⟩
abbrev cJ2_charAt_3b067 : ByteArray := prog_24_method_83_code
def yJ2_charAt_3b067 : MethodName := ⟨RJ2, "charAt", "([BI)C"⟩
abbrev cJ2_checkIndex_2214a : ByteArray := prog_24_method_91_code
def yJ2_checkIndex_2214a : MethodName := ⟨RJ2, "checkIndex", "(I[B)V"⟩
abbrev cJ2_checkBoundsBeginEnd_d044e : ByteArray := prog_24_method_93_code
def yJ2_checkBoundsBeginEnd_d044e : MethodName := ⟨RJ2, "checkBoundsBeginEnd", "(II[B)V"⟩
def RJ10 : String := "java/lang/System"
def TJ10 : u_T := fun k => match k with
  | _ => ("", "", "", false)
def tyJ10 : Nat → FieldType := fun k => match k with
  | _ => .int
abbrev wsJ100 : List Cond := u_ws RJ10 TJ10 0
theorem nmJ10 : ∀ a, a < 0 → ∀ b, b < 0 → a ≠ b → (TJ10 a).2.1 ≠ (TJ10 b).2.1 := by decide +kernel
theorem tyJ10_ok : ∀ k, k < 0 → parseFieldDescriptor (TJ10 k).2.2.1 = some (tyJ10 k) := by decide +kernel
def RJxfd54e : String := "java/lang/constant/Constable"
def TJxfd54e : u_T := fun k => match k with
  | _ => ("", "", "", false)
def tyJxfd54e : Nat → FieldType := fun k => match k with
  | _ => .int
abbrev wsJxfd54e0 : List Cond := u_ws RJxfd54e TJxfd54e 0
theorem nmJxfd54e : ∀ a, a < 0 → ∀ b, b < 0 → a ≠ b → (TJxfd54e a).2.1 ≠ (TJxfd54e b).2.1 := by decide +kernel
theorem tyJxfd54e_ok : ∀ k, k < 0 → parseFieldDescriptor (TJxfd54e k).2.2.1 = some (tyJxfd54e k) := by decide +kernel
def RJx3cf43 : String := "java/lang/constant/ConstantDesc"
def TJx3cf43 : u_T := fun k => match k with
  | _ => ("", "", "", false)
def tyJx3cf43 : Nat → FieldType := fun k => match k with
  | _ => .int
abbrev wsJx3cf430 : List Cond := u_ws RJx3cf43 TJx3cf43 0
theorem nmJx3cf43 : ∀ a, a < 0 → ∀ b, b < 0 → a ≠ b → (TJx3cf43 a).2.1 ≠ (TJx3cf43 b).2.1 := by decide +kernel
theorem tyJx3cf43_ok : ∀ k, k < 0 → parseFieldDescriptor (TJx3cf43 k).2.2.1 = some (tyJx3cf43 k) := by decide +kernel
def RJ3 : String := "jdk/internal/util/Preconditions"
def TJ3 : u_T := fun k => match k with
  | _ => ("", "", "", false)
def tyJ3 : Nat → FieldType := fun k => match k with
  | _ => .int
abbrev wsJ30 : List Cond := u_ws RJ3 TJ3 0
theorem nmJ3 : ∀ a, a < 0 → ∀ b, b < 0 → a ≠ b → (TJ3 a).2.1 ≠ (TJ3 b).2.1 := by decide +kernel
theorem tyJ3_ok : ∀ k, k < 0 → parseFieldDescriptor (TJ3 k).2.2.1 = some (tyJ3 k) := by decide +kernel
abbrev cJ3_checkIndex_8e157 : ByteArray := prog_30_method_11_code
def yJ3_checkIndex_8e157 : MethodName := ⟨RJ3, "checkIndex", "(IILjava/util/function/BiFunction;)I"⟩
abbrev cJ3_checkFromToIndex_8c36e : ByteArray := prog_30_method_12_code
def yJ3_checkFromToIndex_8c36e : MethodName := ⟨RJ3, "checkFromToIndex", "(IIILjava/util/function/BiFunction;)I"⟩
def RL : String := "TinNationLaw"
abbrev cL_tin : ByteArray := method_3_code
def yL_tin : MethodName := ⟨RL, "tin", "(LTinNation;II[J)I"⟩
abbrev cL_law : ByteArray := code
def yL_law : MethodName := ⟨RL, "law", "([I)Z"⟩
abbrev vwCl : List vw_C := [(RX0, TX0, 5), (RX1, TX1, 7), (RX2, TX2, 6), (RX3, TX3, 10), (RX4, TX4, 3), (RX5, TX5, 7), (RX6, TX6, 15), (RX7, TX7, 1), (RX8, TX8, 2), (RX9, TX9, 13), (RX10, TX10, 66)]
end
section
/-- where a static field lies, its class's statics cell in H -/
def vx_L (C n d : String) (A : Nat → Prop) (U : State) (H : Heap) : Prop := ∃ (c : ClassId) (k : Class) (i : Nat) (f : Field) (a : Nat) (cell : Cell), U.vm.findClass C = some c ∧ U.fieldFound? C n d = some (c, k, i, f) ∧ f.isStatic = true ∧ k.statics = some a ∧ H[a]? = some cell ∧ cell.vm.isStatics = true ∧ cell.cls = c ∧ f.slot < cell.slots.size ∧ k.staticTypes[f.slot]? = some f.type ∧ ¬ A a
theorem vx_L.moved {C n d : String} {A : Nat → Prop} {u U : State} {H : Heap} (hvm : u.vm.Alike U.vm) (h : vx_L C n d A u H) : vx_L C n d A U H := by
  obtain ⟨c, k, i, f, a, cell, h1, h2, h3, h4, h5, h6, h7, h8, h9, h10⟩ := h
  obtain ⟨k', hi', he⟩ := State.fieldFound?_setVm hvm h2
  exact ⟨c, k', i, f, a, cell, by rw [hvm.findClass]; exact h1, hi', h3, by rw [he]; exact h4, h5, h6, h7, h8, by rw [he]; exact h9, h10⟩
theorem vx_L.kept {C n d : String} {A : Nat → Prop} {U : State} {H H1 : Heap} (h : vx_L C n d A U H) (hq : ∀ a : Nat, a < H.size → ¬ A a → H1[a]? = H[a]?) : vx_L C n d A U H1 := by
  obtain ⟨c, k, i, f, a, cell, h1, h2, h3, h4, h5, h6, h7, h8, h9, h10⟩ := h
  exact ⟨c, k, i, f, a, cell, h1, h2, h3, h4, by rw [hq a (Array.getElem?_eq_some_iff.mp h5).1 h10]; exact h5, h6, h7, h8, h9, h10⟩
theorem vx_L.narrow {C n d : String} {A B : Nat → Prop} {U : State} {H : Heap} (h : vx_L C n d A U H) (hAB : ∀ q, B q → A q) : vx_L C n d B U H := by
  obtain ⟨c, k, i, f, a, cell, h1, h2, h3, h4, h5, h6, h7, h8, h9, h10⟩ := h
  exact ⟨c, k, i, f, a, cell, h1, h2, h3, h4, h5, h6, h7, h8, h9, fun z => h10 (hAB _ z)⟩
theorem vx_L.word {C n d : String} {A : Nat → Prop} {s : State} {args : Array Value} (h : vx_L C n d A s s.heap) : (Cond.laysStatic C n d).before args s = true := by
  obtain ⟨c, k, i, f, a, cell, h1, h2, h3, h4, h5, h6, h7, h8, h9, -⟩ := h
  show (Cond.laysStatic C n d).holds args s none s [] = true
  exact Cond.laysStatic_of h1 h2 h3 h4 h5 h6 h7 h8 h9
/-- .. and what it holds: null or some reference -/
def vx_Zq (C n d : String) (A : Nat → Prop) (U : State) (H : Heap) : Prop := va_Zq C n d A U H ∧ vx_L C n d A U H
theorem vx_Zq.moved {C n d : String} {A : Nat → Prop} {u U : State} {H : Heap} (hvm : u.vm.Alike U.vm) (h : vx_Zq C n d A u H) : vx_Zq C n d A U H := ⟨va_Zq.moved hvm h.1, vx_L.moved hvm h.2⟩
theorem vx_Zq.kept {C n d : String} {A : Nat → Prop} {U : State} {H H1 : Heap} (h : vx_Zq C n d A U H) (hq : ∀ a : Nat, a < H.size → ¬ A a → H1[a]? = H[a]?) : vx_Zq C n d A U H1 := ⟨va_Zq.kept h.1 hq, vx_L.kept h.2 hq⟩
theorem vx_Zq.narrow {C n d : String} {A B : Nat → Prop} {U : State} {H : Heap} (h : vx_Zq C n d A U H) (hAB : ∀ q, B q → A q) : vx_Zq C n d B U H := ⟨va_Zq.narrow h.1 hAB, vx_L.narrow h.2 hAB⟩
theorem vx_Zqof {args : Array Value} {s : State} {C n d : String} {A : Nat → Prop} (hl : (Cond.laysStatic C n d).before args s = true) (hini : (Cond.initialized C).before args s = true) (h : (Cond.isRef (.static C n d)).before args s = true) (hA : ∀ a : Nat, a < s.heap.size → ¬ A a) : vx_Zq C n d A s s.heap := by
  refine ⟨va_Zqof hl hini h hA, ?_⟩
  obtain ⟨c, k, i, f, a, cell, h1, h2, h3, h4, h5, h6, h7, h8, h9⟩ := Cond.laysStatic_spec hl
  exact ⟨c, k, i, f, a, cell, h1, h2, h3, h4, h5, h6, h7, h8, h9, hA a (Array.getElem?_eq_some_iff.mp h5).1⟩
def va_AOA (ty : FieldType) (U : State) : Prop := (Cond.arrayOver (.array ty)).before #[] U = true
theorem va_AOA.use {ty : FieldType} {A : Array Value} {U : State} (h : va_AOA ty U) : (Cond.arrayOver (.array ty)).before A U = true := h
theorem va_AOA.moved {ty : FieldType} {u U : State} (hvm : u.vm.Alike U.vm) (h : va_AOA ty u) : va_AOA ty U := by
  have hb : U.vm.bare = u.vm.bare := by first | exact hvm.bare_eq | exact hvm.bare_eq.symm
  have hi : ∀ comp : ClassId, (U.vm.classes.findIdx? fun (x : Class) => match x.kind with | .array component _ => component == comp | _ => false) = (u.vm.classes.findIdx? fun (x : Class) => match x.kind with | .array component _ => component == comp | _ => false) := fun comp => by
    have e := va_idx_bare U.vm comp
    rw [hb] at e
    exact e.symm.trans (va_idx_bare u.vm comp)
  have h0 := h
  unfold va_AOA Cond.before Cond.holds at h0
  simp only [Cond.value, beq_iff_eq] at h0
  cases hc : u.vm.findClass (FieldType.array ty).toString with
  | none => rw [hc] at h0; simp at h0
  | some comp =>
    rw [hc, Option.bind_some, Option.bind_eq_some_iff] at h0
    obtain ⟨c, hx, h0⟩ := h0
    cases hk : u.vm.classes[c]? with
    | none => rw [hk] at h0; simp at h0
    | some k =>
      obtain ⟨k', hk', he⟩ := hvm.2.2 _ _ hk
      have hkind : k'.kind = k.kind := by rw [he]
      have f1 : U.vm.findClass (FieldType.array ty).toString = some comp := by rw [hvm.findClass]; exact hc
      have f2 : U.vm.findClass ("[" ++ (FieldType.array ty).toString) = u.vm.findClass ("[" ++ (FieldType.array ty).toString) := by rw [hvm.findClass]
      unfold va_AOA Cond.before Cond.holds
      simp only [Cond.value]
      rw [f1, Option.bind_some]
      refine (congrArg (fun o : Option Nat => (o.bind (fun c => (U.vm.classes[c]?).map fun (k : Class) => match k.kind with | .array _ t => decide (t = FieldType.array ty) && decide (U.vm.findClass ("[" ++ (FieldType.array ty).toString) = some c) | _ => false) == some true)) ((hi comp).trans hx)).trans ?_
      rw [hk] at h0
      simp only [Option.bind_some, hk', Option.map_some, hkind, f2, beq_iff_eq] at h0 ⊢
      exact h0

/-! ===== the words as one list; a method; memory ===== -/
def gtbl : List Cond := lw_tbl.filter goodWord
theorem mem_g {w : Cond} (i : Nat) (h : lw_tbl[i]? = some w) (hg : goodWord w = true) : w ∈ gtbl := List.mem_filter.mpr ⟨List.mem_of_getElem? h, hg⟩
theorem g_good {w : Cond} (h : w ∈ gtbl) : (w.onTables && w.keeps) = true ∨ ∃ ty, w = .arrayClass ty := good_of_word (List.mem_filter.mp h).2
/-- a method: its name, bytes, locals, answer, and its instructions: place, instruction, next place, length -/
abbrev MD : Type := MethodName × ByteArray × Nat × Option FieldType × List (Nat × Instr × Nat × Nat)
def wsM (M : MD) : List Cond := Cond.code M.1 M.2.1 M.2.2.1 M.2.2.2.1 :: gtbl
def lkL : List (Nat × Instr × Nat × Nat) → Nat → Option (Instr × Nat × Nat)
  | [], _ => none
  | x :: t, pc => match Nat.beq x.1 pc with
    | true => some x.2
    | false => lkL t pc
def lk (M : MD) (pc : Nat) : Option (Instr × Nat × Nat) := lkL M.2.2.2.2 pc
theorem lkL_mem {L : List (Nat × Instr × Nat × Nat)} {pc : Nat} {y : Instr × Nat × Nat} (h : lkL L pc = some y) : (pc, y) ∈ L := by
  induction L with
  | nil => cases h
  | cons x t ih =>
    unfold lkL at h
    cases hb : Nat.beq x.1 pc with
    | true =>
      rw [hb] at h
      have e := Nat.eq_of_beq_eq_true hb
      obtain ⟨x1, x2⟩ := x
      cases h
      dsimp only at e
      subst e
      exact List.mem_cons_self
    | false =>
      rw [hb] at h
      exact List.mem_cons_of_mem _ (ih h)
/-- its listing is what its bytes say -/
def MDe (M : MD) : Prop := ∀ x ∈ M.2.2.2.2, decode M.2.1 x.1 = .ok (x.2.1, x.2.2.2) ∧ x.2.2.1 = x.1 + x.2.2.2
def MOk (M : MD) : Prop := plainName M.1.cls = true ∧ Cond.code M.1 M.2.1 M.2.2.1 M.2.2.2.1 ∈ gtbl ∧ Cond.initialized M.1.cls ∈ gtbl ∧ (M.1.cls ≠ "java/lang/invoke/MethodHandle" ∧ M.1.cls ≠ "java/lang/invoke/VarHandle") ∧ M.2.2.1 ≤ 40 ∧ MDe M
/-- ints, longs, references, shapes (a kind and a length), how many cells -/
abbrev Hp : Type := (Nat → Nat → Int32) × (Nat → Nat → Int64) × (Nat → Nat → Option Nat) × (Nat → Nat × Nat) × Nat
def mI (h : Hp) : Nat → Nat → Int32 := h.1
def mJ (h : Hp) : Nat → Nat → Int64 := h.2.1
def mP (h : Hp) : Nat → Nat → Option Nat := h.2.2.1
def mS (h : Hp) : Nat → Nat × Nat := h.2.2.2.1
def mN (h : Hp) : Nat := h.2.2.2.2
def wI (h : Hp) (a k : Nat) (v : Int32) : Hp := (fun a' k' => if a' = a ∧ k' = k then v else h.1 a' k', h.2)
def wJ (h : Hp) (a k : Nat) (v : Int64) : Hp := (h.1, fun a' k' => if a' = a ∧ k' = k then v else h.2.1 a' k', h.2.2)
def wP (h : Hp) (a k : Nat) (v : Option Nat) : Hp := (h.1, h.2.1, fun a' k' => if a' = a ∧ k' = k then v else h.2.2.1 a' k', h.2.2.2)
/-- a whole row of ints -/
def wR (h : Hp) (a : Nat) (f : Nat → Int32) : Hp := (fun a' k' => if a' = a then f k' else h.1 a' k', h.2)
/-- a new cell -/
def nA (h : Hp) (kd len : Nat) : Hp := (fun a' k' => if a' = mN h then 0 else h.1 a' k', fun a' k' => if a' = mN h then 0 else h.2.1 a' k', fun a' k' => if a' = mN h then none else h.2.2.1 a' k', fun a' => if a' = mN h then (kd, len) else h.2.2.2.1 a', mN h + 1)
theorem mI_wI (h : Hp) (a k : Nat) (v : Int32) (a' k' : Nat) : mI (wI h a k v) a' k' = if a' = a ∧ k' = k then v else mI h a' k' := rfl
theorem mI_wJ (h : Hp) (a k : Nat) (v : Int64) : mI (wJ h a k v) = mI h := rfl
theorem mI_wP (h : Hp) (a k : Nat) (v : Option Nat) : mI (wP h a k v) = mI h := rfl
theorem mI_wR (h : Hp) (a : Nat) (f : Nat → Int32) (a' k' : Nat) : mI (wR h a f) a' k' = if a' = a then f k' else mI h a' k' := rfl
theorem mJ_wI (h : Hp) (a k : Nat) (v : Int32) : mJ (wI h a k v) = mJ h := rfl
theorem mJ_wR (h : Hp) (a : Nat) (f : Nat → Int32) : mJ (wR h a f) = mJ h := rfl
theorem mJ_wJ (h : Hp) (a k : Nat) (v : Int64) (a' k' : Nat) : mJ (wJ h a k v) a' k' = if a' = a ∧ k' = k then v else mJ h a' k' := rfl
theorem mP_wI (h : Hp) (a k : Nat) (v : Int32) : mP (wI h a k v) = mP h := rfl
theorem mP_wJ (h : Hp) (a k : Nat) (v : Int64) : mP (wJ h a k v) = mP h := rfl
theorem mP_wR (h : Hp) (a : Nat) (f : Nat → Int32) : mP (wR h a f) = mP h := rfl
theorem mP_wP (h : Hp) (a k : Nat) (v : Option Nat) (a' k' : Nat) : mP (wP h a k v) a' k' = if a' = a ∧ k' = k then v else mP h a' k' := rfl
theorem mS_wI (h : Hp) (a k : Nat) (v : Int32) : mS (wI h a k v) = mS h := rfl
theorem mS_wJ (h : Hp) (a k : Nat) (v : Int64) : mS (wJ h a k v) = mS h := rfl
theorem mS_wP (h : Hp) (a k : Nat) (v : Option Nat) : mS (wP h a k v) = mS h := rfl
theorem mS_wR (h : Hp) (a : Nat) (f : Nat → Int32) : mS (wR h a f) = mS h := rfl

def kC : Nat → String
  | 0 => RX0
  | 1 => RX1
  | 2 => RX2
  | 3 => RX3
  | 4 => RX4
  | 5 => RX5
  | 6 => RX6
  | 7 => RX7
  | 8 => RX8
  | 9 => RX9
  | 10 => RX10
  | _ => RX0
def kT : Nat → u_T
  | 0 => TX0
  | 1 => TX1
  | 2 => TX2
  | 3 => TX3
  | 4 => TX4
  | 5 => TX5
  | 6 => TX6
  | 7 => TX7
  | 8 => TX8
  | 9 => TX9
  | 10 => TX10
  | _ => TX0
def kN : Nat → Nat
  | 0 => 5
  | 1 => 7
  | 2 => 6
  | 3 => 10
  | 4 => 3
  | 5 => 7
  | 6 => 15
  | 7 => 1
  | 8 => 2
  | 9 => 13
  | 10 => 66
  | _ => 0
def kTy : Nat → Nat → FieldType
  | 0 => tyX0
  | 1 => tyX1
  | 2 => tyX2
  | 3 => tyX3
  | 4 => tyX4
  | 5 => tyX5
  | 6 => tyX6
  | 7 => tyX7
  | 8 => tyX8
  | 9 => tyX9
  | 10 => tyX10
  | _ => tyX0
theorem k_cl : ∀ kd : Nat, kd < 11 → vwCl[kd]? = some (kC kd, kT kd, kN kd)
  | 0, _ => rfl
  | 1, _ => rfl
  | 2, _ => rfl
  | 3, _ => rfl
  | 4, _ => rfl
  | 5, _ => rfl
  | 6, _ => rfl
  | 7, _ => rfl
  | 8, _ => rfl
  | 9, _ => rfl
  | 10, _ => rfl
  | n + 11, h => absurd h (by omega)
theorem k_ty : ∀ kd : Nat, kd < 11 → ∀ k, k < kN kd → parseFieldDescriptor (kT kd k).2.2.1 = some (kTy kd k)
  | 0, _ => tyX0_ok
  | 1, _ => tyX1_ok
  | 2, _ => tyX2_ok
  | 3, _ => tyX3_ok
  | 4, _ => tyX4_ok
  | 5, _ => tyX5_ok
  | 6, _ => tyX6_ok
  | 7, _ => tyX7_ok
  | 8, _ => tyX8_ok
  | 9, _ => tyX9_ok
  | 10, _ => tyX10_ok
  | n + 11, h => absurd h (by omega)
theorem k_nm : ∀ kd : Nat, kd < 11 → ∀ a, a < kN kd → ∀ b, b < kN kd → a ≠ b → (kT kd a).2.1 ≠ (kT kd b).2.1
  | 0, _ => nmX0
  | 1, _ => nmX1
  | 2, _ => nmX2
  | 3, _ => nmX3
  | 4, _ => nmX4
  | 5, _ => nmX5
  | 6, _ => nmX6
  | 7, _ => nmX7
  | 8, _ => nmX8
  | 9, _ => nmX9
  | 10, _ => nmX10
  | n + 11, h => absurd h (by omega)
theorem k_in0 : ∀ w ∈ u_ws RX0 TX0 5, w ∈ lw_tbl ∧ goodWord w = true := by decide +kernel
theorem k_in1 : ∀ w ∈ u_ws RX1 TX1 7, w ∈ lw_tbl ∧ goodWord w = true := by decide +kernel
theorem k_in2 : ∀ w ∈ u_ws RX2 TX2 6, w ∈ lw_tbl ∧ goodWord w = true := by decide +kernel
theorem k_in3 : ∀ w ∈ u_ws RX3 TX3 10, w ∈ lw_tbl ∧ goodWord w = true := by decide +kernel
theorem k_in4 : ∀ w ∈ u_ws RX4 TX4 3, w ∈ lw_tbl ∧ goodWord w = true := by decide +kernel
theorem k_in5 : ∀ w ∈ u_ws RX5 TX5 7, w ∈ lw_tbl ∧ goodWord w = true := by decide +kernel
theorem k_in6 : ∀ w ∈ u_ws RX6 TX6 15, w ∈ lw_tbl ∧ goodWord w = true := by decide +kernel
theorem k_in7 : ∀ w ∈ u_ws RX7 TX7 1, w ∈ lw_tbl ∧ goodWord w = true := by decide +kernel
theorem k_in8 : ∀ w ∈ u_ws RX8 TX8 2, w ∈ lw_tbl ∧ goodWord w = true := by decide +kernel
theorem k_in9 : ∀ w ∈ u_ws RX9 TX9 13, w ∈ lw_tbl ∧ goodWord w = true := by decide +kernel
theorem k_in10 : ∀ w ∈ u_ws RX10 TX10 66, w ∈ lw_tbl ∧ goodWord w = true := by decide +kernel
theorem k_in : ∀ kd : Nat, kd < 11 → ∀ w ∈ u_ws (kC kd) (kT kd) (kN kd), w ∈ gtbl
  | 0, _ => fun w h => List.mem_filter.mpr (k_in0 w h)
  | 1, _ => fun w h => List.mem_filter.mpr (k_in1 w h)
  | 2, _ => fun w h => List.mem_filter.mpr (k_in2 w h)
  | 3, _ => fun w h => List.mem_filter.mpr (k_in3 w h)
  | 4, _ => fun w h => List.mem_filter.mpr (k_in4 w h)
  | 5, _ => fun w h => List.mem_filter.mpr (k_in5 w h)
  | 6, _ => fun w h => List.mem_filter.mpr (k_in6 w h)
  | 7, _ => fun w h => List.mem_filter.mpr (k_in7 w h)
  | 8, _ => fun w h => List.mem_filter.mpr (k_in8 w h)
  | 9, _ => fun w h => List.mem_filter.mpr (k_in9 w h)
  | 10, _ => fun w h => List.mem_filter.mpr (k_in10 w h)
  | n + 11, h => absurd h (by omega)
/-- what a place of a kind holds: 0 an int, 1 a long, 2 a reference -/
def sty (kd k : Nat) : Nat := if kd < 11 then (match kTy kd k with
  | .long => 1
  | .object _ => 2
  | .array _ => 2
  | _ => 0) else if kd = 23 then 1 else if kd = 24 then 2 else 0
/-- the arrays' kinds: int, byte, boolean, long, int[] -/
def aTy : Nat → FieldType
  | 20 => .int
  | 21 => .byte
  | 22 => .boolean
  | 23 => .long
  | _ => .array .int
/-- what stays: the classes' numbers and slots, the arrays' classes, where our cells begin, the heap at first, the texts' cells -/
abbrev GG : Type := va_G × (Nat → ClassId) × Nat × Heap × (Nat → Nat) × Nat × (Nat → Int32)
def gD (G : GG) : va_G := G.1
def gC (G : GG) : Nat → ClassId := G.2.1
def gB (G : GG) : Nat := G.2.2.1
def gH (G : GG) : Heap := G.2.2.2.1
def gA (G : GG) : Nat → Nat := G.2.2.2.2.1
/-- the script: its length, its ints -/
def gL (G : GG) : Nat := G.2.2.2.2.2.1
def gX (G : GG) : Nat → Int32 := G.2.2.2.2.2.2
def tv (G : GG) : Value → Value
  | .ref k => .ref (gB G + k)
  | .retAddr k => .ref (gA G k)
  | v => v
def cv (G : GG) (h : Hp) (kd a : Nat) : Nat → Value := fun k => if sty kd k = 0 then .int (mI h a k) else if sty kd k = 1 then .long (mJ h a k) else va_rf ((mP h a k).map (gB G + ·))
def cAt (G : GG) (h : Hp) (a : Nat) (H : Heap) : Prop :=
  if (mS h a).1 < 11 then t_OB (gB G + a) ((gD G).1 (mS h a).1) (kN (mS h a).1) ((gD G).2 (mS h a).1) H (cv G h (mS h a).1 a)
  else if (mS h a).1 < 30 then H[gB G + a]? = some (arrV (gC G (mS h a).1) (mS h a).2 (cv G h (mS h a).1 a)) else True
def HR (G : GG) (h : Hp) (H : Heap) : Prop := H.size = gB G + mN h ∧ (∀ q, q < gB G → H[q]? = (gH G)[q]?) ∧ (∀ a, a < mN h → cAt G h a H) ∧ ∀ a, mN h ≤ a → 30 ≤ (mS h a).1
/-- the words of nest mates -/
def nws : List (String × Nat × MethodName) := [("TinNation", 17, yX2_init), ("TinNation$Parser", 11, yX3_init), ("TinNation$Plan", 31, yX1_init), ("TinNation", 24, yX3_init), ("TinNation", 40, yX6_init), ("TinNation", 53, yX8_init), ("TinNation", 60, yX7_init), ("TinNation$Laws", 41, yX9_isBit), ("TinNation$Days", 146, yX9_isBit), ("TinNation$Told", 47, yX9_isBit)]
/-- the texts: class, entry, text, number; lengths, bytes -/
def strs : List (String × Nat × String × Nat) := [("TinNation$Scanner", 19, "kind  tin   open  want  keys  rust  seed  law   fresh glory blow  dents keeps weightsound worth left  day   not   and   or    ", 0), ("TinNation$Scanner", 59, "()*+-/;<=>", 1), ("TinNation", 127, "no such tin", 2), ("TinNation", 153, "no such thing of a tin", 3), ("TinNationModel", 194, "kind tin open want keys rust seed law fresh glory blow or and not dents keeps weight sound worth left day ", 4)]
def lenS : List Nat := [126, 10, 11, 22, 106]
def bytS : List (List Int32) := [[107, 105, 110, 100, 32, 32, 116, 105, 110, 32, 32, 32, 111, 112, 101, 110, 32, 32, 119, 97, 110, 116, 32, 32, 107, 101, 121, 115, 32, 32, 114, 117, 115, 116, 32, 32, 115, 101, 101, 100, 32, 32, 108, 97, 119, 32, 32, 32, 102, 114, 101, 115, 104, 32, 103, 108, 111, 114, 121, 32, 98, 108, 111, 119, 32, 32, 100, 101, 110, 116, 115, 32, 107, 101, 101, 112, 115, 32, 119, 101, 105, 103, 104, 116, 115, 111, 117, 110, 100, 32, 119, 111, 114, 116, 104, 32, 108, 101, 102, 116, 32, 32, 100, 97, 121, 32, 32, 32, 110, 111, 116, 32, 32, 32, 97, 110, 100, 32, 32, 32, 111, 114, 32, 32, 32, 32], [40, 41, 42, 43, 45, 47, 59, 60, 61, 62], [110, 111, 32, 115, 117, 99, 104, 32, 116, 105, 110], [110, 111, 32, 115, 117, 99, 104, 32, 116, 104, 105, 110, 103, 32, 111, 102, 32, 97, 32, 116, 105, 110], [107, 105, 110, 100, 32, 116, 105, 110, 32, 111, 112, 101, 110, 32, 119, 97, 110, 116, 32, 107, 101, 121, 115, 32, 114, 117, 115, 116, 32, 115, 101, 101, 100, 32, 108, 97, 119, 32, 102, 114, 101, 115, 104, 32, 103, 108, 111, 114, 121, 32, 98, 108, 111, 119, 32, 111, 114, 32, 97, 110, 100, 32, 110, 111, 116, 32, 100, 101, 110, 116, 115, 32, 107, 101, 101, 112, 115, 32, 119, 101, 105, 103, 104, 116, 32, 115, 111, 117, 110, 100, 32, 119, 111, 114, 116, 104, 32, 108, 101, 102, 116, 32, 100, 97, 121, 32]]
/-- what lies below our cells: texts, the static that says how texts are held, the script, what a throw needs -/
def ZX (G : GG) (U : State) : Prop := vk_S 5 lenS bytS (fun i => gA G i) (fun i => gA G (10 + i)) (fun q => gB G ≤ q) U (gH G) ∧ (∀ q ∈ strs, vk_R q.1 q.2.1 q.2.2.1 (gA G q.2.2.2) U) ∧ va_Z "java/lang/String" "COMPACT_STRINGS" "Z" (.int 1) (fun q => gB G ≤ q) U (gH G) ∧ va_X (gA G 100) (gL G) (gX G) U (gH G) ∧ gA G 100 < gB G ∧ vx_Zq Bundle.tN "UNASSIGNED_STACK" Bundle.steD (fun q => gB G ≤ q) U (gH G) ∧ vx_Zq Bundle.tN "SUPPRESSED_SENTINEL" Bundle.listD (fun q => gB G ≤ q) U (gH G) ∧ va_AOA .int U
theorem ZX.warm {G : GG} {s U : State} (hW : s.WarmedH U.vm) (h : ZX G s) : ZX G U := ⟨vk_S.moved hW.alike h.1, fun q hq => vk_R.warm hW (h.2.1 q hq), va_Z.moved hW.alike h.2.2.1, va_X.moved hW.alike h.2.2.2.1, h.2.2.2.2.1, vx_Zq.moved hW.alike h.2.2.2.2.2.1, vx_Zq.moved hW.alike h.2.2.2.2.2.2.1, va_AOA.moved hW.alike h.2.2.2.2.2.2.2⟩
theorem ZX.same {G : GG} {u U : State} (hv : u.vm = U.vm) (h : ZX G u) : ZX G U := by
  have ha : u.vm.Alike U.vm := by rw [hv]; exact Vm.Alike.refl U.vm
  exact ⟨vk_S.moved ha h.1, fun q hq => vk_R.same hv.symm (h.2.1 q hq), va_Z.moved ha h.2.2.1, va_X.moved ha h.2.2.2.1, h.2.2.2.2.1, vx_Zq.moved ha h.2.2.2.2.2.1, vx_Zq.moved ha h.2.2.2.2.2.2.1, va_AOA.moved ha h.2.2.2.2.2.2.2⟩
def KX (G : GG) (U : State) : Prop := va_K (gD G) vwCl [] U ∧ (∀ kd, 20 ≤ kd → kd < 25 → ArrOfT U (gC G kd) (aTy kd) ∧ U.vm.findClass ("[" ++ (aTy kd).toString) = some (gC G kd)) ∧ (∀ w ∈ nws, va_Nw (.methodLinkNest w.1 w.2.1 w.2.2 "TinNation") U) ∧ ZX G U
theorem KX.warm {G : GG} {s U : State} (hW : s.WarmedH U.vm) (h : KX G s) : KX G U := ⟨va_K.moved hW.alike h.1, fun kd h1 h2 => ⟨arrOfT_moved hW.alike (h.2.1 kd h1 h2).1, by rw [hW.alike.findClass]; exact (h.2.1 kd h1 h2).2⟩, fun w hw => va_Nw.warmM hW (h.2.2.1 w hw), ZX.warm hW h.2.2.2⟩
theorem KX.same {G : GG} {u U : State} (hv : u.vm = U.vm) (h : KX G u) : KX G U := ⟨va_K.moved (by rw [hv]; exact Vm.Alike.refl U.vm) h.1, fun kd h1 h2 => ⟨arrOfT_moved (by rw [hv]; exact Vm.Alike.refl U.vm) (h.2.1 kd h1 h2).1, by rw [← hv]; exact (h.2.1 kd h1 h2).2⟩, fun w hw => va_Nw.same rfl hv (h.2.2.1 w hw), ZX.same hv h.2.2.2⟩
/-- the room by depth: cells and slots that may come -/
def rmm (d mc ms : Nat) : Room := { frames := d, cells := mc, slots := ms, locals := 64 * d }
def Qx (G : GG) (r : Option Value) (h' : Hp) : Array Value → State → Outcome → State → Prop := fun _ _ o t => o = .returned (r.map (tv G)) ∧ HR G h' t.heap
def Cx (G : GG) (M : MD) (p : Program) (s : State) (m : MethodId) (args : Array Value) (meth : Method) (c : Code) : Prop :=
  p.tables.exec = Jvm.exec ∧ c.code = M.2.1 ∧ meth.sig.returnType = M.2.2.2.1 ∧ c.maxLocals = M.2.2.1 ∧ (∀ w ∈ gtbl, w.before args s = true) ∧ s.vm.findClass M.1.cls = some m.cls ∧ meth.locks = false ∧ KX G s ∧ MDe M ∧ meth.name = M.1.name
theorem Cx.dec {G : GG} {M : MD} {p : Program} {s : State} {m : MethodId} {args : Array Value} {meth : Method} {c : Code} (C : Cx G M p s m args meth c) {pc npc n : Nat} {i : Instr} (h : lk M pc = some (i, npc, n)) : decode M.2.1 pc = .ok (i, n) ∧ npc = pc + n := by
  obtain ⟨-, -, -, -, -, -, -, -, hM, -⟩ := C
  exact hM (pc, i, npc, n) (lkL_mem h)
theorem Cx.word {G : GG} {M : MD} {p : Program} {s : State} {m : MethodId} {args : Array Value} {meth : Method} {c : Code} (C : Cx G M p s m args meth c) {w : Cond} (h : w ∈ gtbl) : w.before args s = true := by
  obtain ⟨-, -, -, -, hw, -⟩ := C
  exact hw w h
/-- the locals: a null is a place of which nothing is said -/
def LR (G : GG) (L : List Value) (ls : Array Slot) (n : Nat) : Prop := ls.size = n ∧ lv_wf ls ∧ ∀ (i : Nat) (v : Value), L[i]? = some v → v ≠ .null → ls[i]? = some (.val (tv G v))
/-- the machine, at this place of this method, comes to the method's end with this answer and this memory -/
def Go (l : Launch) (G : GG) (d mc ms : Nat) (M : MD) (kc ks pc : Nat) (L st : List Value) (h : Hp) (r : Option Value) (h' : Hp) : Prop :=
  ∀ (p : Program) (e : Env) (s : State) (m : MethodId) (args : Array Value) (below : List Frame) (meth : Method) (c : Code) (ls : Array Slot) (H : Heap) (locs : List Loc),
    Cx G M p s m args meth c → LR G L ls M.2.2.1 → HR G h H → (∀ q ∈ locs, gB G ≤ q.base) →
    W p l e (rmm d mc ms) s m args below meth c H locs kc ks (MQ below (Qx G r h') args s mc ms (fun q => gB G ≤ q)) (F0 m pc ls (st.map (tv G)))
/-- a method's contract -/
def Ct (l : Launch) (G : GG) (d mc ms : Nat) (M : MD) (as : List Value) (h : Hp) (r : Option Value) (h' : Hp) : Prop :=
  Met l M.1 (wsM M) (rmm d mc ms) (va_Pc (as.map (tv G)) (fun U => HR G h U.heap ∧ KX G U)) (Qx G r h') mc ms (fun q => gB G ≤ q)
end
section
section RowsA
variable {l : Launch} {G : GG} {d mc ms kc ks pc npc : Nat} {M : MD} {L st : List Value} {h h' : Hp} {r : Option Value}
theorem go_iconst {n : Int} {v : Int32} (hc : lk M pc = some (.iconst n, npc, 1)) (hv : Int32.ofInt n = v) (k : Go l G d mc ms M kc ks npc L (.int v :: st) h r h') : Go l G d mc ms M kc ks pc L st h r h' := by
  intro p e s m args below meth c ls H locs C hL hH hlc
  obtain ⟨hd, rfl⟩ := C.dec hc
  have hx := C.1
  have hb := C.2.1
  exact lv_iconst hx hb hd hv (k p e s m args below meth c ls H locs C hL hH hlc)
theorem go_bipush {n : Int} {v : Int32} (hc : lk M pc = some (.bipush n, npc, 2)) (hv : (Int8.ofInt n).toInt32 = v) (k : Go l G d mc ms M kc ks npc L (.int v :: st) h r h') : Go l G d mc ms M kc ks pc L st h r h' := by
  intro p e s m args below meth c ls H locs C hL hH hlc
  obtain ⟨hd, rfl⟩ := C.dec hc
  have hx := C.1
  have hb := C.2.1
  exact lv_bipush hx hb hd hv (k p e s m args below meth c ls H locs C hL hH hlc)
theorem go_sipush {n : Int} {v : Int32} (hc : lk M pc = some (.sipush n, npc, 3)) (hv : (Int16.ofInt n).toInt32 = v) (k : Go l G d mc ms M kc ks npc L (.int v :: st) h r h') : Go l G d mc ms M kc ks pc L st h r h' := by
  intro p e s m args below meth c ls H locs C hL hH hlc
  obtain ⟨hd, rfl⟩ := C.dec hc
  have hx := C.1
  have hb := C.2.1
  exact lv_sipush hx hb hd hv (k p e s m args below meth c ls H locs C hL hH hlc)
theorem go_lconst {n : Fin 2} {v : Int64} (hc : lk M pc = some (.lconst n, npc, 1)) (hv : Int64.ofNat (n : Nat) = v) (k : Go l G d mc ms M kc ks npc L (.long v :: st) h r h') : Go l G d mc ms M kc ks pc L st h r h' := by
  intro p e s m args below meth c ls H locs C hL hH hlc
  obtain ⟨hd, rfl⟩ := C.dec hc
  have hx := C.1
  have hb := C.2.1
  exact lv_lconst hx hb hd hv (k p e s m args below meth c ls H locs C hL hH hlc)
theorem go_iadd {x y : Int32} (hc : lk M pc = some (.iadd, npc, 1)) (k : Go l G d mc ms M kc ks npc L (.int (x + y) :: st) h r h') : Go l G d mc ms M kc ks pc L (.int y :: .int x :: st) h r h' := by
  intro p e s m args below meth c ls H locs C hL hH hlc
  obtain ⟨hd, rfl⟩ := C.dec hc
  have hx := C.1
  have hb := C.2.1
  exact lv_iadd hx hb hd (k p e s m args below meth c ls H locs C hL hH hlc)
theorem go_isub {x y : Int32} (hc : lk M pc = some (.isub, npc, 1)) (k : Go l G d mc ms M kc ks npc L (.int (x - y) :: st) h r h') : Go l G d mc ms M kc ks pc L (.int y :: .int x :: st) h r h' := by
  intro p e s m args below meth c ls H locs C hL hH hlc
  obtain ⟨hd, rfl⟩ := C.dec hc
  have hx := C.1
  have hb := C.2.1
  exact lv_isub hx hb hd (k p e s m args below meth c ls H locs C hL hH hlc)
theorem go_imul {x y : Int32} (hc : lk M pc = some (.imul, npc, 1)) (k : Go l G d mc ms M kc ks npc L (.int (x * y) :: st) h r h') : Go l G d mc ms M kc ks pc L (.int y :: .int x :: st) h r h' := by
  intro p e s m args below meth c ls H locs C hL hH hlc
  obtain ⟨hd, rfl⟩ := C.dec hc
  have hx := C.1
  have hb := C.2.1
  exact lv_imul hx hb hd (k p e s m args below meth c ls H locs C hL hH hlc)
theorem go_iand {x y : Int32} (hc : lk M pc = some (.iand, npc, 1)) (k : Go l G d mc ms M kc ks npc L (.int (x &&& y) :: st) h r h') : Go l G d mc ms M kc ks pc L (.int y :: .int x :: st) h r h' := by
  intro p e s m args below meth c ls H locs C hL hH hlc
  obtain ⟨hd, rfl⟩ := C.dec hc
  have hx := C.1
  have hb := C.2.1
  exact lv_iand hx hb hd (k p e s m args below meth c ls H locs C hL hH hlc)
theorem go_ior {x y : Int32} (hc : lk M pc = some (.ior, npc, 1)) (k : Go l G d mc ms M kc ks npc L (.int (x ||| y) :: st) h r h') : Go l G d mc ms M kc ks pc L (.int y :: .int x :: st) h r h' := by
  intro p e s m args below meth c ls H locs C hL hH hlc
  obtain ⟨hd, rfl⟩ := C.dec hc
  have hx := C.1
  have hb := C.2.1
  exact lv_ior hx hb hd (k p e s m args below meth c ls H locs C hL hH hlc)
theorem go_ixor {x y : Int32} (hc : lk M pc = some (.ixor, npc, 1)) (k : Go l G d mc ms M kc ks npc L (.int (x ^^^ y) :: st) h r h') : Go l G d mc ms M kc ks pc L (.int y :: .int x :: st) h r h' := by
  intro p e s m args below meth c ls H locs C hL hH hlc
  obtain ⟨hd, rfl⟩ := C.dec hc
  have hx := C.1
  have hb := C.2.1
  exact lv_ixor hx hb hd (k p e s m args below meth c ls H locs C hL hH hlc)
theorem go_ishl {x y : Int32} (hc : lk M pc = some (.ishl, npc, 1)) (k : Go l G d mc ms M kc ks npc L (.int (x <<< (y &&& 31)) :: st) h r h') : Go l G d mc ms M kc ks pc L (.int y :: .int x :: st) h r h' := by
  intro p e s m args below meth c ls H locs C hL hH hlc
  obtain ⟨hd, rfl⟩ := C.dec hc
  have hx := C.1
  have hb := C.2.1
  exact lv_ishl hx hb hd (k p e s m args below meth c ls H locs C hL hH hlc)
theorem go_ishr {x y : Int32} (hc : lk M pc = some (.ishr, npc, 1)) (k : Go l G d mc ms M kc ks npc L (.int (x >>> (y &&& 31)) :: st) h r h') : Go l G d mc ms M kc ks pc L (.int y :: .int x :: st) h r h' := by
  intro p e s m args below meth c ls H locs C hL hH hlc
  obtain ⟨hd, rfl⟩ := C.dec hc
  have hx := C.1
  have hb := C.2.1
  exact lv_ishr hx hb hd (k p e s m args below meth c ls H locs C hL hH hlc)
theorem go_ladd {x y : Int64} (hc : lk M pc = some (.ladd, npc, 1)) (k : Go l G d mc ms M kc ks npc L (.long (x + y) :: st) h r h') : Go l G d mc ms M kc ks pc L (.long y :: .long x :: st) h r h' := by
  intro p e s m args below meth c ls H locs C hL hH hlc
  obtain ⟨hd, rfl⟩ := C.dec hc
  have hx := C.1
  have hb := C.2.1
  exact lv_ladd hx hb hd (k p e s m args below meth c ls H locs C hL hH hlc)
theorem go_lsub {x y : Int64} (hc : lk M pc = some (.lsub, npc, 1)) (k : Go l G d mc ms M kc ks npc L (.long (x - y) :: st) h r h') : Go l G d mc ms M kc ks pc L (.long y :: .long x :: st) h r h' := by
  intro p e s m args below meth c ls H locs C hL hH hlc
  obtain ⟨hd, rfl⟩ := C.dec hc
  have hx := C.1
  have hb := C.2.1
  exact lv_lsub hx hb hd (k p e s m args below meth c ls H locs C hL hH hlc)
theorem go_lmul {x y : Int64} (hc : lk M pc = some (.lmul, npc, 1)) (k : Go l G d mc ms M kc ks npc L (.long (x * y) :: st) h r h') : Go l G d mc ms M kc ks pc L (.long y :: .long x :: st) h r h' := by
  intro p e s m args below meth c ls H locs C hL hH hlc
  obtain ⟨hd, rfl⟩ := C.dec hc
  have hx := C.1
  have hb := C.2.1
  exact lv_lmul hx hb hd (k p e s m args below meth c ls H locs C hL hH hlc)
theorem go_land {x y : Int64} (hc : lk M pc = some (.land, npc, 1)) (k : Go l G d mc ms M kc ks npc L (.long (x &&& y) :: st) h r h') : Go l G d mc ms M kc ks pc L (.long y :: .long x :: st) h r h' := by
  intro p e s m args below meth c ls H locs C hL hH hlc
  obtain ⟨hd, rfl⟩ := C.dec hc
  have hx := C.1
  have hb := C.2.1
  exact lv_land hx hb hd (k p e s m args below meth c ls H locs C hL hH hlc)
theorem go_idiv {x y : Int32} (hc : lk M pc = some (.idiv, npc, 1)) (hne : ¬ y = 0) (k : Go l G d mc ms M kc ks npc L (.int (x / y) :: st) h r h') : Go l G d mc ms M kc ks pc L (.int y :: .int x :: st) h r h' := by
  intro p e s m args below meth c ls H locs C hL hH hlc
  obtain ⟨hd, rfl⟩ := C.dec hc
  have hx := C.1
  have hb := C.2.1
  exact lv_idiv hx hb hd hne (k p e s m args below meth c ls H locs C hL hH hlc)
theorem go_irem {x y : Int32} (hc : lk M pc = some (.irem, npc, 1)) (hne : ¬ y = 0) (k : Go l G d mc ms M kc ks npc L (.int (x - x / y * y) :: st) h r h') : Go l G d mc ms M kc ks pc L (.int y :: .int x :: st) h r h' := by
  intro p e s m args below meth c ls H locs C hL hH hlc
  obtain ⟨hd, rfl⟩ := C.dec hc
  have hx := C.1
  have hb := C.2.1
  exact lv_irem hx hb hd hne (k p e s m args below meth c ls H locs C hL hH hlc)
theorem go_ldiv {x y : Int64} (hc : lk M pc = some (.ldiv, npc, 1)) (hne : ¬ y = 0) (k : Go l G d mc ms M kc ks npc L (.long (x / y) :: st) h r h') : Go l G d mc ms M kc ks pc L (.long y :: .long x :: st) h r h' := by
  intro p e s m args below meth c ls H locs C hL hH hlc
  obtain ⟨hd, rfl⟩ := C.dec hc
  have hx := C.1
  have hb := C.2.1
  exact lv_ldiv hx hb hd hne (k p e s m args below meth c ls H locs C hL hH hlc)
theorem go_lrem {x y : Int64} (hc : lk M pc = some (.lrem, npc, 1)) (hne : ¬ y = 0) (k : Go l G d mc ms M kc ks npc L (.long (x - x / y * y) :: st) h r h') : Go l G d mc ms M kc ks pc L (.long y :: .long x :: st) h r h' := by
  intro p e s m args below meth c ls H locs C hL hH hlc
  obtain ⟨hd, rfl⟩ := C.dec hc
  have hx := C.1
  have hb := C.2.1
  exact lv_lrem hx hb hd hne (k p e s m args below meth c ls H locs C hL hH hlc)
theorem go_ineg {x : Int32} (hc : lk M pc = some (.ineg, npc, 1)) (k : Go l G d mc ms M kc ks npc L (.int (-x) :: st) h r h') : Go l G d mc ms M kc ks pc L (.int x :: st) h r h' := by
  intro p e s m args below meth c ls H locs C hL hH hlc
  obtain ⟨hd, rfl⟩ := C.dec hc
  have hx := C.1
  have hb := C.2.1
  exact lv_ineg hx hb hd (k p e s m args below meth c ls H locs C hL hH hlc)
theorem go_lneg {x : Int64} (hc : lk M pc = some (.lneg, npc, 1)) (k : Go l G d mc ms M kc ks npc L (.long (-x) :: st) h r h') : Go l G d mc ms M kc ks pc L (.long x :: st) h r h' := by
  intro p e s m args below meth c ls H locs C hL hH hlc
  obtain ⟨hd, rfl⟩ := C.dec hc
  have hx := C.1
  have hb := C.2.1
  exact lv_lneg hx hb hd (k p e s m args below meth c ls H locs C hL hH hlc)
theorem go_i2l {x : Int32} (hc : lk M pc = some (.i2l, npc, 1)) (k : Go l G d mc ms M kc ks npc L (.long x.toInt64 :: st) h r h') : Go l G d mc ms M kc ks pc L (.int x :: st) h r h' := by
  intro p e s m args below meth c ls H locs C hL hH hlc
  obtain ⟨hd, rfl⟩ := C.dec hc
  have hx := C.1
  have hb := C.2.1
  exact lv_i2l hx hb hd rfl (k p e s m args below meth c ls H locs C hL hH hlc)
theorem go_l2i {x : Int64} (hc : lk M pc = some (.l2i, npc, 1)) (k : Go l G d mc ms M kc ks npc L (.int x.toInt32 :: st) h r h') : Go l G d mc ms M kc ks pc L (.long x :: st) h r h' := by
  intro p e s m args below meth c ls H locs C hL hH hlc
  obtain ⟨hd, rfl⟩ := C.dec hc
  have hx := C.1
  have hb := C.2.1
  exact lv_l2i hx hb hd rfl (k p e s m args below meth c ls H locs C hL hH hlc)
theorem go_i2b {x : Int32} (hc : lk M pc = some (.i2b, npc, 1)) (k : Go l G d mc ms M kc ks npc L (.int x.toInt8.toInt32 :: st) h r h') : Go l G d mc ms M kc ks pc L (.int x :: st) h r h' := by
  intro p e s m args below meth c ls H locs C hL hH hlc
  obtain ⟨hd, rfl⟩ := C.dec hc
  have hx := C.1
  have hb := C.2.1
  exact lv_i2b hx hb hd rfl (k p e s m args below meth c ls H locs C hL hH hlc)
theorem go_i2c {x : Int32} (hc : lk M pc = some (.i2c, npc, 1)) (k : Go l G d mc ms M kc ks npc L (.int (x.toUInt32 % 65536).toInt32 :: st) h r h') : Go l G d mc ms M kc ks pc L (.int x :: st) h r h' := by
  intro p e s m args below meth c ls H locs C hL hH hlc
  obtain ⟨hd, rfl⟩ := C.dec hc
  have hx := C.1
  have hb := C.2.1
  exact lv_i2c hx hb hd rfl (k p e s m args below meth c ls H locs C hL hH hlc)
theorem go_iushr {x y : Int32} (hc : lk M pc = some (.iushr, npc, 1)) (k : Go l G d mc ms M kc ks npc L (.int (x.toUInt32 >>> (y.toUInt32 &&& Int32.toUInt32 31)).toInt32 :: st) h r h') : Go l G d mc ms M kc ks pc L (.int y :: .int x :: st) h r h' := by
  intro p e s m args below meth c ls H locs C hL hH hlc
  obtain ⟨hd, rfl⟩ := C.dec hc
  have hx := C.1
  have hb := C.2.1
  exact lv_iushr hx hb hd rfl (k p e s m args below meth c ls H locs C hL hH hlc)
theorem go_lcmp {x y : Int64} (hc : lk M pc = some (.lcmp, npc, 1)) (k : Go l G d mc ms M kc ks npc L (.int (lg_cmp x y) :: st) h r h') : Go l G d mc ms M kc ks pc L (.long y :: .long x :: st) h r h' := by
  intro p e s m args below meth c ls H locs C hL hH hlc
  obtain ⟨hd, rfl⟩ := C.dec hc
  have hx := C.1
  have hb := C.2.1
  exact W.lcmp hx hb hd (k p e s m args below meth c ls H locs C hL hH hlc)
theorem tv_cat (G : GG) (v : Value) : (tv G v).category = v.category := by cases v <;> rfl
theorem go_dup {v : Value} (hc : lk M pc = some (.dup, npc, 1)) (hv : v.category = 1) (k : Go l G d mc ms M kc ks npc L (v :: v :: st) h r h') : Go l G d mc ms M kc ks pc L (v :: st) h r h' := by
  intro p e s m args below meth c ls H locs C hL hH hlc
  obtain ⟨hd, rfl⟩ := C.dec hc
  have hx := C.1
  have hb := C.2.1
  exact lv_dup hx hb hd (by rw [tv_cat]; exact hv) (k p e s m args below meth c ls H locs C hL hH hlc)
theorem go_dup2 {v w : Value} (hc : lk M pc = some (.dup2, npc, 1)) (hv : v.category = 1) (hw : w.category = 1) (k : Go l G d mc ms M kc ks npc L (v :: w :: v :: w :: st) h r h') : Go l G d mc ms M kc ks pc L (v :: w :: st) h r h' := by
  intro p e s m args below meth c ls H locs C hL hH hlc
  obtain ⟨hd, rfl⟩ := C.dec hc
  have hx := C.1
  have hb := C.2.1
  exact lv_dup2_11 hx hb hd (by rw [tv_cat]; exact hv) (by rw [tv_cat]; exact hw) (k p e s m args below meth c ls H locs C hL hH hlc)
theorem go_iload {i : Nat} {x : Int32} (hc : lk M pc = some (.iload i, npc, 2)) (hl : L[i]? = some (.int x)) (k : Go l G d mc ms M kc ks npc L (.int x :: st) h r h') : Go l G d mc ms M kc ks pc L st h r h' := by
  intro p e s m args below meth c ls H locs C hL hH hlc
  obtain ⟨hd, rfl⟩ := C.dec hc
  have hx := C.1
  have hb := C.2.1
  exact lv_iload hx hb hd (hL.2.2 i _ hl (fun q => by cases q)) (k p e s m args below meth c ls H locs C hL hH hlc)
theorem go_iload_n {i : Fin 4} {x : Int32} (hc : lk M pc = some (.iload_n i, npc, 1)) (hl : L[(i : Nat)]? = some (.int x)) (k : Go l G d mc ms M kc ks npc L (.int x :: st) h r h') : Go l G d mc ms M kc ks pc L st h r h' := by
  intro p e s m args below meth c ls H locs C hL hH hlc
  obtain ⟨hd, rfl⟩ := C.dec hc
  have hx := C.1
  have hb := C.2.1
  exact lv_iload_n hx hb hd rfl (hL.2.2 (i : Nat) _ hl (fun q => by cases q)) (k p e s m args below meth c ls H locs C hL hH hlc)
theorem go_lload {i : Nat} {x : Int64} (hc : lk M pc = some (.lload i, npc, 2)) (hl : L[i]? = some (.long x)) (k : Go l G d mc ms M kc ks npc L (.long x :: st) h r h') : Go l G d mc ms M kc ks pc L st h r h' := by
  intro p e s m args below meth c ls H locs C hL hH hlc
  obtain ⟨hd, rfl⟩ := C.dec hc
  have hx := C.1
  have hb := C.2.1
  exact lv_lload hx hb hd (hL.2.2 i _ hl (fun q => by cases q)) (k p e s m args below meth c ls H locs C hL hH hlc)
theorem go_lload_n {i : Fin 4} {x : Int64} (hc : lk M pc = some (.lload_n i, npc, 1)) (hl : L[(i : Nat)]? = some (.long x)) (k : Go l G d mc ms M kc ks npc L (.long x :: st) h r h') : Go l G d mc ms M kc ks pc L st h r h' := by
  intro p e s m args below meth c ls H locs C hL hH hlc
  obtain ⟨hd, rfl⟩ := C.dec hc
  have hx := C.1
  have hb := C.2.1
  exact lv_lload_n hx hb hd rfl (hL.2.2 (i : Nat) _ hl (fun q => by cases q)) (k p e s m args below meth c ls H locs C hL hH hlc)
theorem go_aload {i : Nat} {x : Nat} (hc : lk M pc = some (.aload i, npc, 2)) (hl : L[i]? = some (.ref x)) (k : Go l G d mc ms M kc ks npc L (.ref x :: st) h r h') : Go l G d mc ms M kc ks pc L st h r h' := by
  intro p e s m args below meth c ls H locs C hL hH hlc
  obtain ⟨hd, rfl⟩ := C.dec hc
  have hx := C.1
  have hb := C.2.1
  exact lv_aload hx hb hd (hL.2.2 i _ hl (fun q => by cases q)) (k p e s m args below meth c ls H locs C hL hH hlc)
theorem go_aload_n {i : Fin 4} {x : Nat} (hc : lk M pc = some (.aload_n i, npc, 1)) (hl : L[(i : Nat)]? = some (.ref x)) (k : Go l G d mc ms M kc ks npc L (.ref x :: st) h r h') : Go l G d mc ms M kc ks pc L st h r h' := by
  intro p e s m args below meth c ls H locs C hL hH hlc
  obtain ⟨hd, rfl⟩ := C.dec hc
  have hx := C.1
  have hb := C.2.1
  exact lv_aload_n hx hb hd rfl (hL.2.2 (i : Nat) _ hl (fun q => by cases q)) (k p e s m args below meth c ls H locs C hL hH hlc)
end RowsA
section RowsB
variable {l : Launch} {G : GG} {d mc ms kc ks pc npc : Nat} {M : MD} {L st : List Value} {h h' : Hp} {r : Option Value}
theorem go_if_eq {x : Int32} {off : Int} {tgt : Nat} (hc : lk M pc = some (.ifCond .eq off, npc, 3)) (ht : (pc : Int) + off = (tgt : Int)) (kt : x = 0 → Go l G d mc ms M kc ks tgt L st h r h') (kf : ¬ x = 0 → Go l G d mc ms M kc ks npc L st h r h') : Go l G d mc ms M kc ks pc L (.int x :: st) h r h' := by
  intro p e s m args below meth c ls H locs C hL hH hlc
  obtain ⟨hd, rfl⟩ := C.dec hc
  have hx := C.1
  have hb := C.2.1
  exact lv_if_eq hx hb hd ht (fun z => kt z p e s m args below meth c ls H locs C hL hH hlc) (fun z => kf z p e s m args below meth c ls H locs C hL hH hlc)
theorem go_if_ne {x : Int32} {off : Int} {tgt : Nat} (hc : lk M pc = some (.ifCond .ne off, npc, 3)) (ht : (pc : Int) + off = (tgt : Int)) (kt : ¬ x = 0 → Go l G d mc ms M kc ks tgt L st h r h') (kf : x = 0 → Go l G d mc ms M kc ks npc L st h r h') : Go l G d mc ms M kc ks pc L (.int x :: st) h r h' := by
  intro p e s m args below meth c ls H locs C hL hH hlc
  obtain ⟨hd, rfl⟩ := C.dec hc
  have hx := C.1
  have hb := C.2.1
  exact lv_if_ne hx hb hd ht (fun z => kt z p e s m args below meth c ls H locs C hL hH hlc) (fun z => kf z p e s m args below meth c ls H locs C hL hH hlc)
theorem go_if_lt {x : Int32} {off : Int} {tgt : Nat} (hc : lk M pc = some (.ifCond .lt off, npc, 3)) (ht : (pc : Int) + off = (tgt : Int)) (kt : x < 0 → Go l G d mc ms M kc ks tgt L st h r h') (kf : ¬ x < 0 → Go l G d mc ms M kc ks npc L st h r h') : Go l G d mc ms M kc ks pc L (.int x :: st) h r h' := by
  intro p e s m args below meth c ls H locs C hL hH hlc
  obtain ⟨hd, rfl⟩ := C.dec hc
  have hx := C.1
  have hb := C.2.1
  exact lv_if_lt hx hb hd ht (fun z => kt z p e s m args below meth c ls H locs C hL hH hlc) (fun z => kf z p e s m args below meth c ls H locs C hL hH hlc)
theorem go_if_ge {x : Int32} {off : Int} {tgt : Nat} (hc : lk M pc = some (.ifCond .ge off, npc, 3)) (ht : (pc : Int) + off = (tgt : Int)) (kt : 0 ≤ x → Go l G d mc ms M kc ks tgt L st h r h') (kf : ¬ 0 ≤ x → Go l G d mc ms M kc ks npc L st h r h') : Go l G d mc ms M kc ks pc L (.int x :: st) h r h' := by
  intro p e s m args below meth c ls H locs C hL hH hlc
  obtain ⟨hd, rfl⟩ := C.dec hc
  have hx := C.1
  have hb := C.2.1
  exact lv_if_ge hx hb hd ht (fun z => kt z p e s m args below meth c ls H locs C hL hH hlc) (fun z => kf z p e s m args below meth c ls H locs C hL hH hlc)
theorem go_if_gt {x : Int32} {off : Int} {tgt : Nat} (hc : lk M pc = some (.ifCond .gt off, npc, 3)) (ht : (pc : Int) + off = (tgt : Int)) (kt : 0 < x → Go l G d mc ms M kc ks tgt L st h r h') (kf : ¬ 0 < x → Go l G d mc ms M kc ks npc L st h r h') : Go l G d mc ms M kc ks pc L (.int x :: st) h r h' := by
  intro p e s m args below meth c ls H locs C hL hH hlc
  obtain ⟨hd, rfl⟩ := C.dec hc
  have hx := C.1
  have hb := C.2.1
  exact lv_if_gt hx hb hd ht (fun z => kt z p e s m args below meth c ls H locs C hL hH hlc) (fun z => kf z p e s m args below meth c ls H locs C hL hH hlc)
theorem go_if_le {x : Int32} {off : Int} {tgt : Nat} (hc : lk M pc = some (.ifCond .le off, npc, 3)) (ht : (pc : Int) + off = (tgt : Int)) (kt : x ≤ 0 → Go l G d mc ms M kc ks tgt L st h r h') (kf : ¬ x ≤ 0 → Go l G d mc ms M kc ks npc L st h r h') : Go l G d mc ms M kc ks pc L (.int x :: st) h r h' := by
  intro p e s m args below meth c ls H locs C hL hH hlc
  obtain ⟨hd, rfl⟩ := C.dec hc
  have hx := C.1
  have hb := C.2.1
  exact lv_if_le hx hb hd ht (fun z => kt z p e s m args below meth c ls H locs C hL hH hlc) (fun z => kf z p e s m args below meth c ls H locs C hL hH hlc)
theorem go_icmp_eq {x y : Int32} {off : Int} {tgt : Nat} (hc : lk M pc = some (.if_icmp .eq off, npc, 3)) (ht : (pc : Int) + off = (tgt : Int)) (kt : x = y → Go l G d mc ms M kc ks tgt L st h r h') (kf : ¬ x = y → Go l G d mc ms M kc ks npc L st h r h') : Go l G d mc ms M kc ks pc L (.int y :: .int x :: st) h r h' := by
  intro p e s m args below meth c ls H locs C hL hH hlc
  obtain ⟨hd, rfl⟩ := C.dec hc
  have hx := C.1
  have hb := C.2.1
  exact lv_icmp_eq hx hb hd ht (fun z => kt z p e s m args below meth c ls H locs C hL hH hlc) (fun z => kf z p e s m args below meth c ls H locs C hL hH hlc)
theorem go_icmp_ne {x y : Int32} {off : Int} {tgt : Nat} (hc : lk M pc = some (.if_icmp .ne off, npc, 3)) (ht : (pc : Int) + off = (tgt : Int)) (kt : ¬ x = y → Go l G d mc ms M kc ks tgt L st h r h') (kf : x = y → Go l G d mc ms M kc ks npc L st h r h') : Go l G d mc ms M kc ks pc L (.int y :: .int x :: st) h r h' := by
  intro p e s m args below meth c ls H locs C hL hH hlc
  obtain ⟨hd, rfl⟩ := C.dec hc
  have hx := C.1
  have hb := C.2.1
  exact lv_icmp_ne hx hb hd ht (fun z => kt z p e s m args below meth c ls H locs C hL hH hlc) (fun z => kf z p e s m args below meth c ls H locs C hL hH hlc)
theorem go_icmp_lt {x y : Int32} {off : Int} {tgt : Nat} (hc : lk M pc = some (.if_icmp .lt off, npc, 3)) (ht : (pc : Int) + off = (tgt : Int)) (kt : x < y → Go l G d mc ms M kc ks tgt L st h r h') (kf : ¬ x < y → Go l G d mc ms M kc ks npc L st h r h') : Go l G d mc ms M kc ks pc L (.int y :: .int x :: st) h r h' := by
  intro p e s m args below meth c ls H locs C hL hH hlc
  obtain ⟨hd, rfl⟩ := C.dec hc
  have hx := C.1
  have hb := C.2.1
  exact lv_icmp_lt hx hb hd ht (fun z => kt z p e s m args below meth c ls H locs C hL hH hlc) (fun z => kf z p e s m args below meth c ls H locs C hL hH hlc)
theorem go_icmp_ge {x y : Int32} {off : Int} {tgt : Nat} (hc : lk M pc = some (.if_icmp .ge off, npc, 3)) (ht : (pc : Int) + off = (tgt : Int)) (kt : y ≤ x → Go l G d mc ms M kc ks tgt L st h r h') (kf : ¬ y ≤ x → Go l G d mc ms M kc ks npc L st h r h') : Go l G d mc ms M kc ks pc L (.int y :: .int x :: st) h r h' := by
  intro p e s m args below meth c ls H locs C hL hH hlc
  obtain ⟨hd, rfl⟩ := C.dec hc
  have hx := C.1
  have hb := C.2.1
  exact lv_icmp_ge hx hb hd ht (fun z => kt z p e s m args below meth c ls H locs C hL hH hlc) (fun z => kf z p e s m args below meth c ls H locs C hL hH hlc)
theorem go_icmp_gt {x y : Int32} {off : Int} {tgt : Nat} (hc : lk M pc = some (.if_icmp .gt off, npc, 3)) (ht : (pc : Int) + off = (tgt : Int)) (kt : y < x → Go l G d mc ms M kc ks tgt L st h r h') (kf : ¬ y < x → Go l G d mc ms M kc ks npc L st h r h') : Go l G d mc ms M kc ks pc L (.int y :: .int x :: st) h r h' := by
  intro p e s m args below meth c ls H locs C hL hH hlc
  obtain ⟨hd, rfl⟩ := C.dec hc
  have hx := C.1
  have hb := C.2.1
  exact lv_icmp_gt hx hb hd ht (fun z => kt z p e s m args below meth c ls H locs C hL hH hlc) (fun z => kf z p e s m args below meth c ls H locs C hL hH hlc)
theorem go_icmp_le {x y : Int32} {off : Int} {tgt : Nat} (hc : lk M pc = some (.if_icmp .le off, npc, 3)) (ht : (pc : Int) + off = (tgt : Int)) (kt : x ≤ y → Go l G d mc ms M kc ks tgt L st h r h') (kf : ¬ x ≤ y → Go l G d mc ms M kc ks npc L st h r h') : Go l G d mc ms M kc ks pc L (.int y :: .int x :: st) h r h' := by
  intro p e s m args below meth c ls H locs C hL hH hlc
  obtain ⟨hd, rfl⟩ := C.dec hc
  have hx := C.1
  have hb := C.2.1
  exact lv_icmp_le hx hb hd ht (fun z => kt z p e s m args below meth c ls H locs C hL hH hlc) (fun z => kf z p e s m args below meth c ls H locs C hL hH hlc)
theorem go_goto {off : Int} {tgt : Nat} (hc : lk M pc = some (.goto off, npc, 3)) (ht : (pc : Int) + off = (tgt : Int)) (k : Go l G d mc ms M kc ks tgt L st h r h') : Go l G d mc ms M kc ks pc L st h r h' := by
  intro p e s m args below meth c ls H locs C hL hH hlc
  obtain ⟨hd, rfl⟩ := C.dec hc
  have hx := C.1
  have hb := C.2.1
  exact lv_goto hx hb hd ht (k p e s m args below meth c ls H locs C hL hH hlc)
theorem go_tableOut {dflt lo hi : Int} {offs : Array Int} {len : Nat} {x : Int32} {tgt : Nat} (hc : lk M pc = some (.tableswitch dflt lo hi offs, npc, len)) (hh : x.toInt < lo ∨ hi < x.toInt) (ht : (pc : Int) + dflt = (tgt : Int)) (k : Go l G d mc ms M kc ks tgt L st h r h') : Go l G d mc ms M kc ks pc L (.int x :: st) h r h' := by
  intro p e s m args below meth c ls H locs C hL hH hlc
  obtain ⟨hd, rfl⟩ := C.dec hc
  have hx := C.1
  have hb := C.2.1
  exact lv_tableOut hx hb hd hh ht (k p e s m args below meth c ls H locs C hL hH hlc)
theorem go_tableIn {dflt lo hi : Int} {offs : Array Int} {len : Nat} {x : Int32} {off : Int} {tgt : Nat} (hc : lk M pc = some (.tableswitch dflt lo hi offs, npc, len)) (h1 : ¬ x.toInt < lo) (h2 : ¬ hi < x.toInt) (ho : offs[(x.toInt - lo).toNat]? = some off) (ht : (pc : Int) + off = (tgt : Int)) (k : Go l G d mc ms M kc ks tgt L st h r h') : Go l G d mc ms M kc ks pc L (.int x :: st) h r h' := by
  intro p e s m args below meth c ls H locs C hL hH hlc
  obtain ⟨hd, rfl⟩ := C.dec hc
  have hx := C.1
  have hb := C.2.1
  exact lv_tableIn hx hb hd h1 h2 ho ht (k p e s m args below meth c ls H locs C hL hH hlc)
theorem go_lookup {dflt : Int} {ps : Array (Int × Int)} {len : Nat} {x : Int32} {off : Int} {tgt : Nat} (hc : lk M pc = some (.lookupswitch dflt ps, npc, len)) (hp : (ps.toList.zip (ps.toList.drop 1)).all (fun (a, next) => a.1 < next.1) = true) (ho : Op.lookupswitch.offset ps.toList dflt x.toInt = off) (ht : (pc : Int) + off = (tgt : Int)) (k : Go l G d mc ms M kc ks tgt L st h r h') : Go l G d mc ms M kc ks pc L (.int x :: st) h r h' := by
  intro p e s m args below meth c ls H locs C hL hH hlc
  obtain ⟨hd, rfl⟩ := C.dec hc
  have hx := C.1
  have hb := C.2.1
  exact lv_lookup hx hb hd hp ho ht (k p e s m args below meth c ls H locs C hL hH hlc)
end RowsB
section RowsC
variable {l : Launch} {G : GG} {d mc ms kc ks pc npc : Nat} {M : MD} {L st : List Value} {h h' : Hp} {r : Option Value}
/-- the listed values, by places -/
def prs (G : GG) : Nat → List Value → List (Nat × Value)
  | _, [] => []
  | i, v :: t => if v = .null then prs G (i + 1) t else (i, tv G v) :: prs G (i + 1) t
theorem prs_mem {G : GG} : ∀ {L : List Value} {b i : Nat} {v : Value}, L[i]? = some v → v ≠ .null → (b + i, tv G v) ∈ prs G b L
  | [], b, i, v, h, _ => by simp at h
  | w :: t, b, 0, v, h, hv => by
    rw [List.getElem?_cons_zero] at h
    cases h
    simp [prs, hv]
  | w :: t, b, i + 1, v, h, hv => by
    rw [List.getElem?_cons_succ] at h
    have h1 := prs_mem (G := G) (b := b + 1) h hv
    rw [show b + (i + 1) = b + 1 + i by omega]
    unfold prs
    split
    · exact h1
    · exact List.mem_cons_of_mem _ h1
theorem prs_in {G : GG} : ∀ {L : List Value} {b : Nat} {q : Nat × Value}, q ∈ prs G b L → ∃ i v, q.1 = b + i ∧ L[i]? = some v ∧ v ≠ .null ∧ q.2 = tv G v
  | [], b, q, h => by cases h
  | w :: t, b, q, h => by
    unfold prs at h
    split at h
    · obtain ⟨i, v, h1, h2, h3⟩ := prs_in h
      exact ⟨i + 1, v, by omega, by rw [List.getElem?_cons_succ]; exact h2, h3⟩
    · next hw =>
      rcases List.mem_cons.mp h with rfl | h
      · exact ⟨0, w, rfl, rfl, hw, rfl⟩
      · obtain ⟨i, v, h1, h2, h3⟩ := prs_in h
        exact ⟨i + 1, v, by omega, by rw [List.getElem?_cons_succ]; exact h2, h3⟩
theorem LR.has {ls : Array Slot} {n : Nat} (h : LR G L ls n) : lv_has ls n (prs G 0 L) := by
  refine ⟨h.1, h.2.1, fun q hq => ?_⟩
  obtain ⟨i, v, h1, h2, h3, h4⟩ := prs_in hq
  rw [h1, h4, Nat.zero_add]
  exact h.2.2 i v h2 h3
theorem LR.st1 {ls : Array Slot} {n i : Nat} {v : Value} (h : LR G L ls n) (hi : i < n) (hc : v.category = 1) (hp : ∀ w, L[i - 1]? = some w → 0 < i → w.category = 1) : ∃ ls', storeLocals ls i (tv G v) = some ls' ∧ LR G (L.set i v) ls' n := by
  obtain ⟨ls', h1, h2⟩ := lv_store1 (v := tv G v) h.has hi (by rw [tv_cat]; exact hc)
  refine ⟨ls', h1, h2.1, h2.2.1, fun j w hj hw => ?_⟩
  by_cases hij : j = i
  · subst hij
    rw [List.getElem?_set] at hj
    simp only [if_true] at hj
    split at hj
    · cases hj
      exact h2.2.2 (j, tv G v) List.mem_cons_self
    · cases hj
  · rw [List.getElem?_set_ne (Ne.symm hij)] at hj
    have h5 := prs_mem (G := G) (b := 0) hj hw
    rw [Nat.zero_add] at h5
    refine h2.2.2 (j, tv G w) (List.mem_cons_of_mem _ (List.mem_filter.mpr ⟨h5, ?_⟩))
    simp only [Bool.and_eq_true, Bool.not_eq_true', beq_eq_false_iff_ne, ne_eq, Bool.and_eq_false_iff]
    refine ⟨hij, ?_⟩
    by_cases hji : j + 1 = i
    · right
      rw [tv_cat, hp w (by rw [show i - 1 = j by omega]; exact hj) (by omega)]
      decide
    · exact Or.inl hji
theorem LR.st2 {ls : Array Slot} {n i : Nat} {x : Int64} (h : LR G L ls n) (hi : i + 1 < n) (hp : ∀ w, L[i - 1]? = some w → 0 < i → w.category = 1) : ∃ ls', storeLocals ls i (.long x) = some ls' ∧ LR G ((L.set i (.long x)).set (i + 1) .null) ls' n := by
  obtain ⟨ls', h1, h2⟩ := lv_store2 (v := .long x) h.has hi rfl
  refine ⟨ls', h1, h2.1, h2.2.1, fun j w hj hw => ?_⟩
  by_cases hi1 : j = i + 1
  · subst hi1
    rw [List.getElem?_set] at hj
    simp only [if_true] at hj
    split at hj
    · cases hj
      exact absurd rfl hw
    · cases hj
  rw [List.getElem?_set_ne (Ne.symm hi1)] at hj
  by_cases hij : j = i
  · subst hij
    rw [List.getElem?_set] at hj
    simp only [if_true] at hj
    split at hj
    · cases hj
      exact h2.2.2 (j, .long x) List.mem_cons_self
    · cases hj
  · rw [List.getElem?_set_ne (Ne.symm hij)] at hj
    have h5 := prs_mem (G := G) (b := 0) hj hw
    rw [Nat.zero_add] at h5
    refine h2.2.2 (j, tv G w) (List.mem_cons_of_mem _ (List.mem_filter.mpr ⟨h5, ?_⟩))
    simp only [Bool.and_eq_true, Bool.not_eq_true', beq_eq_false_iff_ne, ne_eq, Bool.and_eq_false_iff]
    refine ⟨hij, hi1, ?_⟩
    by_cases hji : j + 1 = i
    · right
      rw [tv_cat, hp w (by rw [show i - 1 = j by omega]; exact hj) (by omega)]
      decide
    · exact Or.inl hji
/-- the place ahead holds no long -/
def okL (L : List Value) (i : Nat) : Bool := match i with
  | 0 => true
  | i + 1 => match L[i]? with
    | some v => v.category == 1
    | none => true
theorem okL_spec {L : List Value} {i : Nat} (h : okL L i = true) : ∀ w, L[i - 1]? = some w → 0 < i → w.category = 1 := by
  intro w hw hi
  cases i with
  | zero => omega
  | succ i =>
    rw [show i + 1 - 1 = i by omega] at hw
    have h2 : (match L[i]? with
      | some v => v.category == 1
      | none => true) = true := h
    rw [hw] at h2
    simpa using h2

theorem go_istore {i : Nat} {x : Int32} {L' : List Value} (hc : lk M pc = some (.istore i, npc, 2)) (hi : Nat.blt i M.2.2.1 = true) (ho : okL L i = true) (hl : L.set i (.int x) = L') (k : Go l G d mc ms M kc ks npc L' st h r h') : Go l G d mc ms M kc ks pc L (.int x :: st) h r h' := by
  subst hl
  intro p e s m args below meth c ls H locs C hL hH hlc
  obtain ⟨hd, rfl⟩ := C.dec hc
  have hx := C.1
  have hb := C.2.1
  obtain ⟨ls', e', h'⟩ := hL.st1 (v := .int x) (Nat.blt_eq.mp hi) rfl (okL_spec ho)
  have e' : storeLocals ls i (tv G (.int x)) = some ls' := e'
  simp only [tv] at e'
  intro T hT X
  obtain ⟨t, a, b⟩ := k p e s m args below meth c ls' H locs C h' hH hlc T hT X
  refine ⟨t, ?_, b⟩
  jvm_step X.here [X.here.top, ↓top_set X.here.top, hx, hb, hd, e', tv, Value.isRef]
  exact a
theorem go_istore_n {i : Fin 4} {x : Int32} {L' : List Value} (hc : lk M pc = some (.istore_n i, npc, 1)) (hi : Nat.blt (i : Nat) M.2.2.1 = true) (ho : okL L (i : Nat) = true) (hl : L.set (i : Nat) (.int x) = L') (k : Go l G d mc ms M kc ks npc L' st h r h') : Go l G d mc ms M kc ks pc L (.int x :: st) h r h' := by
  subst hl
  intro p e s m args below meth c ls H locs C hL hH hlc
  obtain ⟨hd, rfl⟩ := C.dec hc
  have hx := C.1
  have hb := C.2.1
  obtain ⟨ls', e', h'⟩ := hL.st1 (v := .int x) (Nat.blt_eq.mp hi) rfl (okL_spec ho)
  have e' : storeLocals ls (i : Nat) (tv G (.int x)) = some ls' := e'
  simp only [tv] at e'
  intro T hT X
  obtain ⟨t, a, b⟩ := k p e s m args below meth c ls' H locs C h' hH hlc T hT X
  refine ⟨t, ?_, b⟩
  jvm_step X.here [X.here.top, ↓top_set X.here.top, hx, hb, hd, e', tv, Value.isRef]
  exact a
theorem go_astore {i : Nat} {x : Nat} {L' : List Value} (hc : lk M pc = some (.astore i, npc, 2)) (hi : Nat.blt i M.2.2.1 = true) (ho : okL L i = true) (hl : L.set i (.ref x) = L') (k : Go l G d mc ms M kc ks npc L' st h r h') : Go l G d mc ms M kc ks pc L (.ref x :: st) h r h' := by
  subst hl
  intro p e s m args below meth c ls H locs C hL hH hlc
  obtain ⟨hd, rfl⟩ := C.dec hc
  have hx := C.1
  have hb := C.2.1
  obtain ⟨ls', e', h'⟩ := hL.st1 (v := .ref x) (Nat.blt_eq.mp hi) rfl (okL_spec ho)
  have e' : storeLocals ls i (tv G (.ref x)) = some ls' := e'
  simp only [tv] at e'
  intro T hT X
  obtain ⟨t, a, b⟩ := k p e s m args below meth c ls' H locs C h' hH hlc T hT X
  refine ⟨t, ?_, b⟩
  jvm_step X.here [X.here.top, ↓top_set X.here.top, hx, hb, hd, e', tv, Value.isRef]
  exact a
theorem go_astore_n {i : Fin 4} {x : Nat} {L' : List Value} (hc : lk M pc = some (.astore_n i, npc, 1)) (hi : Nat.blt (i : Nat) M.2.2.1 = true) (ho : okL L (i : Nat) = true) (hl : L.set (i : Nat) (.ref x) = L') (k : Go l G d mc ms M kc ks npc L' st h r h') : Go l G d mc ms M kc ks pc L (.ref x :: st) h r h' := by
  subst hl
  intro p e s m args below meth c ls H locs C hL hH hlc
  obtain ⟨hd, rfl⟩ := C.dec hc
  have hx := C.1
  have hb := C.2.1
  obtain ⟨ls', e', h'⟩ := hL.st1 (v := .ref x) (Nat.blt_eq.mp hi) rfl (okL_spec ho)
  have e' : storeLocals ls (i : Nat) (tv G (.ref x)) = some ls' := e'
  simp only [tv] at e'
  intro T hT X
  obtain ⟨t, a, b⟩ := k p e s m args below meth c ls' H locs C h' hH hlc T hT X
  refine ⟨t, ?_, b⟩
  jvm_step X.here [X.here.top, ↓top_set X.here.top, hx, hb, hd, e', tv, Value.isRef]
  exact a
theorem go_lstore {i : Nat} {x : Int64} {L' : List Value} (hc : lk M pc = some (.lstore i, npc, 2)) (hi : Nat.blt (i + 1) M.2.2.1 = true) (ho : okL L i = true) (hl : (L.set i (.long x)).set (i + 1) .null = L') (k : Go l G d mc ms M kc ks npc L' st h r h') : Go l G d mc ms M kc ks pc L (.long x :: st) h r h' := by
  subst hl
  intro p e s m args below meth c ls H locs C hL hH hlc
  obtain ⟨hd, rfl⟩ := C.dec hc
  have hx := C.1
  have hb := C.2.1
  obtain ⟨ls', e', h'⟩ := hL.st2 (x := x) (Nat.blt_eq.mp hi) (okL_spec ho)
  intro T hT X
  obtain ⟨t, a, b⟩ := k p e s m args below meth c ls' H locs C h' hH hlc T hT X
  refine ⟨t, ?_, b⟩
  jvm_step X.here [X.here.top, ↓top_set X.here.top, hx, hb, hd, e', tv]
  exact a
theorem go_lstore_n {i : Fin 4} {x : Int64} {L' : List Value} (hc : lk M pc = some (.lstore_n i, npc, 1)) (hi : Nat.blt ((i : Nat) + 1) M.2.2.1 = true) (ho : okL L (i : Nat) = true) (hl : (L.set (i : Nat) (.long x)).set ((i : Nat) + 1) .null = L') (k : Go l G d mc ms M kc ks npc L' st h r h') : Go l G d mc ms M kc ks pc L (.long x :: st) h r h' := by
  subst hl
  intro p e s m args below meth c ls H locs C hL hH hlc
  obtain ⟨hd, rfl⟩ := C.dec hc
  have hx := C.1
  have hb := C.2.1
  obtain ⟨ls', e', h'⟩ := hL.st2 (x := x) (Nat.blt_eq.mp hi) (okL_spec ho)
  intro T hT X
  obtain ⟨t, a, b⟩ := k p e s m args below meth c ls' H locs C h' hH hlc T hT X
  refine ⟨t, ?_, b⟩
  jvm_step X.here [X.here.top, ↓top_set X.here.top, hx, hb, hd, e', tv]
  exact a
theorem go_iinc {i : Nat} {n : Int} {x : Int32} {L' : List Value} (hc : lk M pc = some (.iinc i n, npc, 3)) (hg : L[i]? = some (.int x)) (hi : Nat.blt i M.2.2.1 = true) (ho : okL L i = true) (hl : L.set i (.int (x + Int32.ofInt n)) = L') (k : Go l G d mc ms M kc ks npc L' st h r h') : Go l G d mc ms M kc ks pc L st h r h' := by
  subst hl
  intro p e s m args below meth c ls H locs C hL hH hlc
  obtain ⟨hd, rfl⟩ := C.dec hc
  have hx := C.1
  have hb := C.2.1
  obtain ⟨ls', e', h'⟩ := hL.st1 (v := .int (x + Int32.ofInt n)) (Nat.blt_eq.mp hi) rfl (okL_spec ho)
  have hg' := hL.2.2 i _ hg (fun q => by cases q)
  have e' : storeLocals ls i (.int (x + Int32.ofInt n)) = some ls' := e'
  have hg' : ls[i]? = some (.val (.int x)) := hg'
  intro T hT X
  obtain ⟨t, a, b⟩ := k p e s m args below meth c ls' H locs C h' hH hlc T hT X
  refine ⟨t, ?_, b⟩
  jvm_step X.here [X.here.top, ↓top_set X.here.top, hx, hb, hd, hg', e']
  exact a
end RowsC
end
section
section RowsD
variable {l : Launch} {G : GG} {d mc ms kc ks pc npc : Nat} {M : MD} {L st : List Value} {h h2 h' : Hp} {r : Option Value} {a k kd n i : Nat} {H H1 : Heap}
/-- a field's link: class, entry, the kind of the object, the place -/
def Fl (own : String) (i kd k : Nat) : Prop := kd < 11 ∧ k < kN kd ∧ Cond.fieldLink own i (kC kd) (kT kd k).2.1 (kT kd k).2.2.1 ∈ gtbl ∧ (kT kd k).1 = kC kd
theorem HR.lt (hH : HR G h H) (hk : (mS h a).1 < 30) : a < mN h := by
  obtain ⟨-, -, -, h4⟩ := hH
  by_cases q : a < mN h
  · exact q
  · have := h4 a (Nat.not_lt.mp q)
    omega
theorem HR.obj (hH : HR G h H) (hs : (mS h a).1 = kd) (hkd : kd < 11) : t_OB (gB G + a) ((gD G).1 kd) (kN kd) ((gD G).2 kd) H (cv G h kd a) := by
  have hlt := hH.lt (a := a) (by omega)
  have h3 := hH.2.2.1 a hlt
  unfold cAt at h3
  rw [if_pos (by omega), hs] at h3
  exact h3
theorem HR.arr (hH : HR G h H) (hs : mS h a = (kd, n)) (h1 : 11 ≤ kd) (h2 : kd < 30) : H[gB G + a]? = some (arrV (gC G kd) n (cv G h kd a)) := by
  have e1 : (mS h a).1 = kd := by rw [hs]
  have e2 : (mS h a).2 = n := by rw [hs]
  have hlt := hH.lt (a := a) (by omega)
  have h3 := hH.2.2.1 a hlt
  unfold cAt at h3
  rw [if_neg (by omega), if_pos (by omega), e1, e2] at h3
  exact h3
theorem cAt.kept (hS : mS h2 = mS h) (hv : ∀ kd, cv G h2 kd a = cv G h kd a) (hq : H1[gB G + a]? = H[gB G + a]?) (hc : cAt G h a H) : cAt G h2 a H1 := by
  unfold cAt at hc ⊢
  rw [hS, hv]
  split
  · next q =>
    rw [if_pos q] at hc
    exact hc.kept hq
  · next q =>
    rw [if_neg q] at hc
    split
    · next q2 =>
      rw [if_pos q2] at hc
      rw [hq]
      exact hc
    · trivial
theorem HR.upd (hH : HR G h H) (z : H1.size = H.size) (oq : ∀ q : Nat, q ≠ gB G + a → H1[q]? = H[q]?) (hS : mS h2 = mS h) (hN : mN h2 = mN h) (hv : ∀ a' kd, a' ≠ a → cv G h2 kd a' = cv G h kd a') (ha : cAt G h2 a H1) : HR G h2 H1 := by
  obtain ⟨h1, h3, h4, h5⟩ := hH
  refine ⟨by rw [z, h1, hN], fun q hq => (oq q (by omega)).trans (h3 q hq), fun a' ha' => ?_, fun a' ha' => by rw [hS]; exact h5 a' (by rw [hN] at ha'; exact ha')⟩
  by_cases e : a' = a
  · subst e; exact ha
  · exact cAt.kept hS (fun kd => hv a' kd e) (oq _ (by omega)) (h4 a' (by rw [hN] at ha'; exact ha'))
theorem cv_wI (hk : sty kd k = 0) (v : Int32) : updV (cv G h kd a) k (.int v) = cv G (wI h a k v) kd a := by
  funext j
  unfold updV cv
  by_cases e : j = k
  · subst e
    simp [hk, mI_wI]
  · simp [e, mI_wI, mJ_wI, mP_wI]
theorem cv_wI_ne {a' : Nat} (e : a' ≠ a) (v : Int32) : cv G (wI h a k v) kd a' = cv G h kd a' := by
  funext j
  unfold cv
  simp [e, mI_wI, mJ_wI, mP_wI]
theorem cv_wJ (hk : sty kd k = 1) (v : Int64) : updV (cv G h kd a) k (.long v) = cv G (wJ h a k v) kd a := by
  funext j
  unfold updV cv
  by_cases e : j = k
  · subst e
    simp [hk, mJ_wJ]
  · simp [e, mJ_wJ, mI_wJ, mP_wJ]
theorem cv_wJ_ne {a' : Nat} (e : a' ≠ a) (v : Int64) : cv G (wJ h a k v) kd a' = cv G h kd a' := by
  funext j
  unfold cv
  simp [e, mJ_wJ, mI_wJ, mP_wJ]
theorem mJ_wP (h : Hp) (a k : Nat) (v : Option Nat) : mJ (wP h a k v) = mJ h := rfl
theorem cv_wP (hk : sty kd k = 2) (b : Nat) : updV (cv G h kd a) k (.ref (gB G + b)) = cv G (wP h a k (some b)) kd a := by
  funext j
  unfold updV cv
  by_cases e : j = k
  · subst e
    simp [hk, mP_wP, va_rf]
  · simp [e, mP_wP, mI_wP, mJ_wP]
theorem cv_wP_ne {a' : Nat} (e : a' ≠ a) (b : Option Nat) : cv G (wP h a k b) kd a' = cv G h kd a' := by
  funext j
  unfold cv
  simp [e, mP_wP, mI_wP, mJ_wP]
theorem cv_wR (hk : ∀ j, sty kd j = 0) (f : Nat → Int32) : cv G (wR h a f) kd a = fun j => .int (f j) := by
  funext j
  unfold cv
  simp [hk j, mI_wR]
theorem cv_wR_ne {a' : Nat} (e : a' ≠ a) (f : Nat → Int32) : cv G (wR h a f) kd a' = cv G h kd a' := by
  funext j
  unfold cv
  simp [e, mI_wR, mJ_wR, mP_wR]

theorem go_getV {w : Value} (hc : lk M pc = some (.getfield i, npc, 3)) (hf : Fl M.1.cls i kd k) (hs : (mS h a).1 = kd) (hw : cv G h kd a k = tv G w) (kk : Go l G d mc ms M kc ks npc L (w :: st) h r h') : Go l G d mc ms M kc ks pc L (.ref a :: st) h r h' := by
  intro p e s m args below meth c ls H locs C hL hH hlc
  obtain ⟨hd, rfl⟩ := C.dec hc
  have hx := C.1
  have hb := C.2.1
  have hts : ∀ w ∈ gtbl, w.before args s = true := fun w hw => C.word hw
  have hown : s.vm.findClass M.1.cls = some m.cls := C.2.2.2.2.2.1
  have hK : KX G s := C.2.2.2.2.2.2.2.1
  obtain ⟨hkd, hk, hlk, hde⟩ := hf
  obtain ⟨cell, q1, q2, q3, q4⟩ := hH.obj hs hkd
  obtain ⟨hS, hfc, kC1, hkC, hkind⟩ := hK.1.1 kd _ (k_cl kd hkd)
  dsimp only at hS
  obtain ⟨cf, kf, fi, f, hi, hsl⟩ := hS k hk
  have hst := (u_facts hfc hkC (u_lays hts (k_in kd hkd) hk) hi).1
  rw [hde] at hi
  exact W.getf hx hb hown (hts _ hlk) hi hst q1 (by rw [q3]; exact fun z => by cases z) (v := tv G w) (by rw [hsl, q4 k hk, hw]) rfl rfl hd (kk p e s m args below meth c ls H locs C hL hH hlc)

theorem go_getI (hc : lk M pc = some (.getfield i, npc, 3)) (hf : Fl M.1.cls i kd k) (hs : (mS h a).1 = kd) (ht : sty kd k = 0) (kk : Go l G d mc ms M kc ks npc L (.int (mI h a k) :: st) h r h') : Go l G d mc ms M kc ks pc L (.ref a :: st) h r h' := go_getV hc hf hs (by simp [cv, ht, tv]) kk
theorem go_getJ (hc : lk M pc = some (.getfield i, npc, 3)) (hf : Fl M.1.cls i kd k) (hs : (mS h a).1 = kd) (ht : sty kd k = 1) (kk : Go l G d mc ms M kc ks npc L (.long (mJ h a k) :: st) h r h') : Go l G d mc ms M kc ks pc L (.ref a :: st) h r h' := go_getV hc hf hs (by simp [cv, ht, tv]) kk
theorem go_getP {b : Nat} (hc : lk M pc = some (.getfield i, npc, 3)) (hf : Fl M.1.cls i kd k) (hs : (mS h a).1 = kd) (ht : sty kd k = 2) (hp : mP h a k = some b) (kk : Go l G d mc ms M kc ks npc L (.ref b :: st) h r h') : Go l G d mc ms M kc ks pc L (.ref a :: st) h r h' := go_getV hc hf hs (by simp [cv, ht, tv, hp, va_rf]) kk
theorem go_putV {w : Value} (hc : lk M pc = some (.putfield i, npc, 3)) (hf : Fl M.1.cls i kd k) (hs : (mS h a).1 = kd) (hfin : (kT kd k).2.2.2 = false) (hn : narrow (kTy kd k) (tv G w) = tv G w) (hfit : fits (kTy kd k) (tv G w) = true) (hS2 : mS h2 = mS h) (hN2 : mN h2 = mN h) (hv2 : ∀ a' kd, a' ≠ a → cv G h2 kd a' = cv G h kd a') (hu : updV (cv G h kd a) k (tv G w) = cv G h2 kd a) (kk : Go l G d mc ms M kc ks npc L st h2 r h') : Go l G d mc ms M kc ks pc L (w :: .ref a :: st) h r h' := by
  intro p e s m args below meth c ls H locs C hL hH hlc
  obtain ⟨hd, rfl⟩ := C.dec hc
  have hx := C.1
  have hb := C.2.1
  have hts : ∀ w ∈ gtbl, w.before args s = true := fun w hw => C.word hw
  have hown : s.vm.findClass M.1.cls = some m.cls := C.2.2.2.2.2.1
  have hK : KX G s := C.2.2.2.2.2.2.2.1
  obtain ⟨hkd, hk, hlk, hde⟩ := hf
  obtain ⟨cell, q1, q2, q3, q4⟩ := hH.obj hs hkd
  have hKn := hK.1.1 kd _ (k_cl kd hkd)
  have hap := va_apart (own := M.1.cls) hts (k_in kd hkd) (kTy kd) (k_ty kd hkd) (k_nm kd hkd) hK.1 (k_cl kd hkd)
  obtain ⟨hS, hfc, kC1, hkC, hkind⟩ := hKn
  dsimp only at hS
  obtain ⟨cf, kf, fi, f, hi, hsl⟩ := hS k hk
  have hlay := hts _ (k_in kd hkd _ (u_in_lay hk))
  unfold u_lay at hlay
  rw [if_neg (by rw [hfin]; decide)] at hlay
  have hst := (u_facts hfc hkC (u_lays hts (k_in kd hkd) hk) hi).1
  have h6 := u_store hfc hkC hkind hlay hi (k_ty kd hkd k hk) hn hfit
  rw [hde] at hi
  refine W.putK hx hb (f := f) ⟨hown, hts _ hlk, ⟨_, _, _, hi⟩, hst⟩ (by rw [q2]; exact h6) q1 q3 (by rw [hsl]; exact k2_hasslot (q4 k hk)) rfl rfl hd fun H' e1 e2 e3 => ?_
  rw [hsl] at e1 ⊢
  refine kk p e s m args below meth c ls H' _ C hL (hH.upd e2 e3 hS2 hN2 hv2 ?_) (fun q hq => ?_)
  · unfold cAt
    rw [hS2, hs, if_pos hkd]
    exact t_OB.to (V := updV (cv G h kd a) k (tv G w)) ⟨_, e1, q2, q3, t_set q4 hap hk _⟩ (fun j _ => by rw [hu])
  · rcases List.mem_append.mp hq with z | z
    · exact hlc q z
    · rw [List.mem_singleton.mp z]
      exact Nat.le_add_right _ _

theorem go_putF {w : Value} (hc : lk M pc = some (.putfield i, npc, 3)) (hf : Fl M.1.cls i kd k) (hs : (mS h a).1 = kd) (hfin : (kT kd k).2.2.2 = true) (hnm : M.1.name = "<init>") (hcl : kC kd = M.1.cls) (hn : narrow (kTy kd k) (tv G w) = tv G w) (hfit : fits (kTy kd k) (tv G w) = true) (hS2 : mS h2 = mS h) (hN2 : mN h2 = mN h) (hv2 : ∀ a' kd, a' ≠ a → cv G h2 kd a' = cv G h kd a') (hu : updV (cv G h kd a) k (tv G w) = cv G h2 kd a) (kk : Go l G d mc ms M kc ks npc L st h2 r h') : Go l G d mc ms M kc ks pc L (w :: .ref a :: st) h r h' := by
  intro p e s m args below meth c ls H locs C hL hH hlc
  obtain ⟨hd, rfl⟩ := C.dec hc
  have hx := C.1
  have hb := C.2.1
  have hts : ∀ w ∈ gtbl, w.before args s = true := fun w hw => C.word hw
  have hown : s.vm.findClass M.1.cls = some m.cls := C.2.2.2.2.2.1
  have hK : KX G s := C.2.2.2.2.2.2.2.1
  obtain ⟨hkd, hk, hlk, hde⟩ := hf
  obtain ⟨cell, q1, q2, q3, q4⟩ := hH.obj hs hkd
  have hKn := hK.1.1 kd _ (k_cl kd hkd)
  have hap := va_apart (own := M.1.cls) hts (k_in kd hkd) (kTy kd) (k_ty kd hkd) (k_nm kd hkd) hK.1 (k_cl kd hkd)
  obtain ⟨hS, hfc, kC1, hkC, hkind⟩ := hKn
  dsimp only at hS
  obtain ⟨cf, kf, fi, f, hi, hsl⟩ := hS k hk
  have hlay := hts _ (k_in kd hkd _ (u_in_lay hk))
  unfold u_lay at hlay
  rw [if_pos hfin] at hlay
  have hst := (u_facts hfc hkC (u_lays hts (k_in kd hkd) hk) hi).1
  have hcf : m.cls = cf := by
    obtain ⟨_, _, c', _, _, _, -, -, hf', -, -, -, hown2, -⟩ := Cond.laysFinal_spec hlay
    have e1 : c' = cf := by have := hi.symm.trans hf'; simp at this; exact this.1.symm
    rw [hde, hcl] at hown2
    rw [← e1]; exact Option.some.inj (hown.symm.trans hown2)
  have h6 := u_fits hfc hkC hkind (Or.inr hlay) hi (k_ty kd hkd k hk) hn hfit
  rw [hde] at hi
  refine W.putFinK hx hb hown (hts _ hlk) hi hst hcf (C.2.2.2.2.2.2.2.2.2.trans hnm) (by rw [q2]; exact h6) q1 q3 (by rw [hsl]; exact k2_hasslot (q4 k hk)) rfl rfl hd fun H' e1 e2 e3 => ?_
  rw [hsl] at e1 ⊢
  refine kk p e s m args below meth c ls H' _ C hL (hH.upd e2 e3 hS2 hN2 hv2 ?_) (fun q hq => ?_)
  · unfold cAt
    rw [hS2, hs, if_pos hkd]
    exact t_OB.to (V := updV (cv G h kd a) k (tv G w)) ⟨_, e1, q2, q3, t_set q4 hap hk _⟩ (fun j _ => by rw [hu])
  · rcases List.mem_append.mp hq with z | z
    · exact hlc q z
    · rw [List.mem_singleton.mp z]
      exact Nat.le_add_right _ _

theorem sty_of_int (hkd : kd < 11) (ht : kTy kd k = .int) : sty kd k = 0 := by unfold sty; rw [if_pos hkd, ht]
theorem sty_of_bool (hkd : kd < 11) (ht : kTy kd k = .boolean) : sty kd k = 0 := by unfold sty; rw [if_pos hkd, ht]
theorem sty_of_long (hkd : kd < 11) (ht : kTy kd k = .long) : sty kd k = 1 := by unfold sty; rw [if_pos hkd, ht]
theorem nar_bool {v : Int32} (hv : v = 0 ∨ v = 1) : narrow .boolean (.int v) = .int v ∧ fits .boolean (.int v) = true := by
  rcases hv with rfl | rfl <;> exact ⟨by decide, by decide⟩

theorem go_putI {v : Int32} (hc : lk M pc = some (.putfield i, npc, 3)) (hf : Fl M.1.cls i kd k) (hs : (mS h a).1 = kd) (hfin : (kT kd k).2.2.2 = false) (ht : kTy kd k = .int) (kk : Go l G d mc ms M kc ks npc L st (wI h a k v) r h') : Go l G d mc ms M kc ks pc L (.int v :: .ref a :: st) h r h' := go_putV (w := .int v) (h2 := wI h a k v) hc hf hs hfin (by rw [ht]; rfl) (by rw [ht]; rfl) rfl rfl (fun a' kd e => cv_wI_ne e v) (cv_wI (sty_of_int hf.1 ht) v) kk
theorem go_putZ {v : Int32} (hc : lk M pc = some (.putfield i, npc, 3)) (hf : Fl M.1.cls i kd k) (hs : (mS h a).1 = kd) (hfin : (kT kd k).2.2.2 = false) (ht : kTy kd k = .boolean) (hv : v = 0 ∨ v = 1) (kk : Go l G d mc ms M kc ks npc L st (wI h a k v) r h') : Go l G d mc ms M kc ks pc L (.int v :: .ref a :: st) h r h' := go_putV (w := .int v) (h2 := wI h a k v) hc hf hs hfin (by rw [ht]; exact (nar_bool hv).1) (by rw [ht]; exact (nar_bool hv).2) rfl rfl (fun a' kd e => cv_wI_ne e v) (cv_wI (sty_of_bool hf.1 ht) v) kk
theorem go_putJ {v : Int64} (hc : lk M pc = some (.putfield i, npc, 3)) (hf : Fl M.1.cls i kd k) (hs : (mS h a).1 = kd) (hfin : (kT kd k).2.2.2 = false) (ht : kTy kd k = .long) (kk : Go l G d mc ms M kc ks npc L st (wJ h a k v) r h') : Go l G d mc ms M kc ks pc L (.long v :: .ref a :: st) h r h' := go_putV (w := .long v) (h2 := wJ h a k v) hc hf hs hfin (by rw [ht]; rfl) (by rw [ht]; rfl) rfl rfl (fun a' kd e => cv_wJ_ne e v) (cv_wJ (sty_of_long hf.1 ht) v) kk
end RowsD
section RowsE
variable {l : Launch} {G : GG} {d mc ms kc ks pc npc : Nat} {M : MD} {L st : List Value} {h h2 h' : Hp} {r : Option Value} {a k kd n i : Nat} {H H1 : Heap}
theorem sty_arr (h1 : 11 ≤ kd) (h2 : kd ≠ 23) (h3 : kd ≠ 24) (k : Nat) : sty kd k = 0 := by unfold sty; rw [if_neg (by omega), if_neg h2, if_neg h3]
theorem sty_23 (k : Nat) : sty 23 k = 1 := rfl
theorem sty_24 (k : Nat) : sty 24 k = 2 := rfl

theorem go_iaload {x : Int32} (hc : lk M pc = some (.iaload, npc, 1)) (hs : mS h a = (20, n)) (hin : vp_in x n) (kk : Go l G d mc ms M kc ks npc L (.int (mI h a x.toNatClampNeg) :: st) h r h') : Go l G d mc ms M kc ks pc L (.int x :: .ref a :: st) h r h' := by
  intro p e s m args below meth c ls H locs C hL hH hlc
  obtain ⟨hd, rfl⟩ := C.dec hc
  have hx := C.1
  have hb := C.2.1
  have hts : ∀ w ∈ gtbl, w.before args s = true := fun w hw => C.word hw
  have hown : s.vm.findClass M.1.cls = some m.cls := C.2.2.2.2.2.1
  have hK : KX G s := C.2.2.2.2.2.2.2.1
  have hlt : x.toNatClampNeg < n := Nat.not_le.mp fun q => hin (Or.inr q)
  exact W.iald (v := .int (mI h a x.toNatClampNeg)) hx hb (hH.arr hs (by omega) (by omega)) ((hK.2.1 20 (by omega) (by omega)).1 n _) (fun q => by cases q) (by rw [arrV_size]; exact hin) (by rw [arrV_read _ _ hlt]; rfl) rfl rfl hd (kk p e s m args below meth c ls H locs C hL hH hlc)

theorem go_baload {x : Int32} (hc : lk M pc = some (.baload, npc, 1)) (hs : mS h a = (21, n)) (hin : vp_in x n) (kk : Go l G d mc ms M kc ks npc L (.int (mI h a x.toNatClampNeg) :: st) h r h') : Go l G d mc ms M kc ks pc L (.int x :: .ref a :: st) h r h' := by
  intro p e s m args below meth c ls H locs C hL hH hlc
  obtain ⟨hd, rfl⟩ := C.dec hc
  have hx := C.1
  have hb := C.2.1
  have hts : ∀ w ∈ gtbl, w.before args s = true := fun w hw => C.word hw
  have hown : s.vm.findClass M.1.cls = some m.cls := C.2.2.2.2.2.1
  have hK : KX G s := C.2.2.2.2.2.2.2.1
  have hlt : x.toNatClampNeg < n := Nat.not_le.mp fun q => hin (Or.inr q)
  exact W.bald (v := .int (mI h a x.toNatClampNeg)) hx hb (hH.arr hs (by omega) (by omega)) ((hK.2.1 21 (by omega) (by omega)).1 n _) (fun q => by cases q) (by rw [arrV_size]; exact hin) (by rw [arrV_read _ _ hlt]; rfl) rfl rfl hd (kk p e s m args below meth c ls H locs C hL hH hlc)

theorem go_zaload {x : Int32} (hc : lk M pc = some (.baload, npc, 1)) (hs : mS h a = (22, n)) (hin : vp_in x n) (kk : Go l G d mc ms M kc ks npc L (.int (mI h a x.toNatClampNeg) :: st) h r h') : Go l G d mc ms M kc ks pc L (.int x :: .ref a :: st) h r h' := by
  intro p e s m args below meth c ls H locs C hL hH hlc
  obtain ⟨hd, rfl⟩ := C.dec hc
  have hx := C.1
  have hb := C.2.1
  have hts : ∀ w ∈ gtbl, w.before args s = true := fun w hw => C.word hw
  have hown : s.vm.findClass M.1.cls = some m.cls := C.2.2.2.2.2.1
  have hK : KX G s := C.2.2.2.2.2.2.2.1
  have hlt : x.toNatClampNeg < n := Nat.not_le.mp fun q => hin (Or.inr q)
  exact W.zald (v := .int (mI h a x.toNatClampNeg)) hx hb (hH.arr hs (by omega) (by omega)) ((hK.2.1 22 (by omega) (by omega)).1 n _) (fun q => by cases q) (by rw [arrV_size]; exact hin) (by rw [arrV_read _ _ hlt]; rfl) rfl rfl hd (kk p e s m args below meth c ls H locs C hL hH hlc)

theorem go_laload {x : Int32} (hc : lk M pc = some (.laload, npc, 1)) (hs : mS h a = (23, n)) (hin : vp_in x n) (kk : Go l G d mc ms M kc ks npc L (.long (mJ h a x.toNatClampNeg) :: st) h r h') : Go l G d mc ms M kc ks pc L (.int x :: .ref a :: st) h r h' := by
  intro p e s m args below meth c ls H locs C hL hH hlc
  obtain ⟨hd, rfl⟩ := C.dec hc
  have hx := C.1
  have hb := C.2.1
  have hts : ∀ w ∈ gtbl, w.before args s = true := fun w hw => C.word hw
  have hown : s.vm.findClass M.1.cls = some m.cls := C.2.2.2.2.2.1
  have hK : KX G s := C.2.2.2.2.2.2.2.1
  have hlt : x.toNatClampNeg < n := Nat.not_le.mp fun q => hin (Or.inr q)
  exact W.lald (v := .long (mJ h a x.toNatClampNeg)) hx hb (hH.arr hs (by omega) (by omega)) ((hK.2.1 23 (by omega) (by omega)).1 n _) (fun q => by cases q) (by rw [arrV_size]; exact hin) (by rw [arrV_read _ _ hlt]; rfl) rfl rfl hd (kk p e s m args below meth c ls H locs C hL hH hlc)

theorem go_aaload {x : Int32} {b : Nat} (hc : lk M pc = some (.aaload, npc, 1)) (hs : mS h a = (24, n)) (hin : vp_in x n) (hp : mP h a x.toNatClampNeg = some b) (kk : Go l G d mc ms M kc ks npc L (.ref b :: st) h r h') : Go l G d mc ms M kc ks pc L (.int x :: .ref a :: st) h r h' := by
  intro p e s m args below meth c ls H locs C hL hH hlc
  obtain ⟨hd, rfl⟩ := C.dec hc
  have hx := C.1
  have hb := C.2.1
  have hts : ∀ w ∈ gtbl, w.before args s = true := fun w hw => C.word hw
  have hown : s.vm.findClass M.1.cls = some m.cls := C.2.2.2.2.2.1
  have hK : KX G s := C.2.2.2.2.2.2.2.1
  have hlt : x.toNatClampNeg < n := Nat.not_le.mp fun q => hin (Or.inr q)
  exact W.aald (v := .ref (gB G + b)) (ty := .array .int) hx hb (hH.arr hs (by omega) (by omega)) ((hK.2.1 24 (by omega) (by omega)).1 n _) rfl (fun q => by cases q) (by rw [arrV_size]; exact hin) (by rw [arrV_read _ _ hlt]; simp [cv, sty_24, hp, va_rf]) rfl rfl hd (kk p e s m args below meth c ls H locs C hL hH hlc)

theorem go_alen {v : Int32} (hc : lk M pc = some (.arraylength, npc, 1)) (hs : mS h a = (kd, n)) (h20 : 20 ≤ kd) (h25 : kd < 25) (hv : Int32.ofNat n = v) (kk : Go l G d mc ms M kc ks npc L (.int v :: st) h r h') : Go l G d mc ms M kc ks pc L (.ref a :: st) h r h' := by
  intro p e s m args below meth c ls H locs C hL hH hlc
  obtain ⟨hd, rfl⟩ := C.dec hc
  have hx := C.1
  have hb := C.2.1
  have hts : ∀ w ∈ gtbl, w.before args s = true := fun w hw => C.word hw
  have hown : s.vm.findClass M.1.cls = some m.cls := C.2.2.2.2.2.1
  have hK : KX G s := C.2.2.2.2.2.2.2.1
  exact W.alen (n := v) hx hb (hH.arr hs (by omega) (by omega)) ((hK.2.1 kd h20 h25).1 n _) (by rw [arrV_size]; exact hv) rfl rfl hd (kk p e s m args below meth c ls H locs C hL hH hlc)

theorem go_iastore {x y : Int32} (hc : lk M pc = some (.iastore, npc, 1)) (hs : mS h a = (20, n)) (hin : vp_in x n) (kk : Go l G d mc ms M kc ks npc L st (wI h a x.toNatClampNeg y) r h') : Go l G d mc ms M kc ks pc L (.int y :: .int x :: .ref a :: st) h r h' := by
  intro p e s m args below meth c ls H locs C hL hH hlc
  obtain ⟨hd, rfl⟩ := C.dec hc
  have hx := C.1
  have hb := C.2.1
  have hts : ∀ w ∈ gtbl, w.before args s = true := fun w hw => C.word hw
  have hown : s.vm.findClass M.1.cls = some m.cls := C.2.2.2.2.2.1
  have hK : KX G s := C.2.2.2.2.2.2.2.1
  refine W.iast hx hb (hH.arr hs (by omega) (by omega)) ((hK.2.1 20 (by omega) (by omega)).1 n _) (fun q => by cases q) (by rw [arrV_size]; exact hin) rfl rfl hd fun H' e1 e2 e3 => ?_
  refine kk p e s m args below meth c ls H' _ C hL (hH.upd e2 e3 rfl rfl (fun a' kd e => cv_wI_ne e y) ?_) (fun q hq => ?_)
  · unfold cAt
    have e4 : mS (wI h a x.toNatClampNeg y) a = (20, n) := hs
    rw [e4, if_neg (by omega), if_pos (by omega), e1, arrV_store]
    exact congrArg (fun z => some (arrV (gC G 20) n z)) (cv_wI (sty_arr (by omega) (by omega) (by omega) _) y)
  · rcases List.mem_append.mp hq with z | z
    · exact hlc q z
    · rw [List.mem_singleton.mp z]
      exact Nat.le_add_right _ _

theorem go_lastore {x : Int32} {y : Int64} (hc : lk M pc = some (.lastore, npc, 1)) (hs : mS h a = (23, n)) (hin : vp_in x n) (kk : Go l G d mc ms M kc ks npc L st (wJ h a x.toNatClampNeg y) r h') : Go l G d mc ms M kc ks pc L (.long y :: .int x :: .ref a :: st) h r h' := by
  intro p e s m args below meth c ls H locs C hL hH hlc
  obtain ⟨hd, rfl⟩ := C.dec hc
  have hx := C.1
  have hb := C.2.1
  have hts : ∀ w ∈ gtbl, w.before args s = true := fun w hw => C.word hw
  have hown : s.vm.findClass M.1.cls = some m.cls := C.2.2.2.2.2.1
  have hK : KX G s := C.2.2.2.2.2.2.2.1
  refine W.last hx hb (hH.arr hs (by omega) (by omega)) ((hK.2.1 23 (by omega) (by omega)).1 n _) (fun q => by cases q) (by rw [arrV_size]; exact hin) rfl rfl hd fun H' e1 e2 e3 => ?_
  refine kk p e s m args below meth c ls H' _ C hL (hH.upd e2 e3 rfl rfl (fun a' kd e => cv_wJ_ne e y) ?_) (fun q hq => ?_)
  · unfold cAt
    have e4 : mS (wJ h a x.toNatClampNeg y) a = (23, n) := hs
    rw [e4, if_neg (by omega), if_pos (by omega), e1, arrV_store]
    exact congrArg (fun z => some (arrV (gC G 23) n z)) (cv_wJ (sty_23 _) y)
  · rcases List.mem_append.mp hq with z | z
    · exact hlc q z
    · rw [List.mem_singleton.mp z]
      exact Nat.le_add_right _ _

theorem go_bastore {x y : Int32} (hc : lk M pc = some (.bastore, npc, 1)) (hs : mS h a = (21, n)) (hin : vp_in x n) (kk : Go l G d mc ms M kc ks npc L st (wI h a x.toNatClampNeg (vp_nar .byte y)) r h') : Go l G d mc ms M kc ks pc L (.int y :: .int x :: .ref a :: st) h r h' := by
  intro p e s m args below meth c ls H locs C hL hH hlc
  obtain ⟨hd, rfl⟩ := C.dec hc
  have hx := C.1
  have hb := C.2.1
  have hts : ∀ w ∈ gtbl, w.before args s = true := fun w hw => C.word hw
  have hown : s.vm.findClass M.1.cls = some m.cls := C.2.2.2.2.2.1
  have hK : KX G s := C.2.2.2.2.2.2.2.1
  refine W.bast hx hb (hH.arr hs (by omega) (by omega)) ((hK.2.1 21 (by omega) (by omega)).1 n _) (fun q => by cases q) (by rw [arrV_size]; exact hin) rfl rfl hd fun H' e1 e2 e3 => ?_
  refine kk p e s m args below meth c ls H' _ C hL (hH.upd e2 e3 rfl rfl (fun a' kd e => cv_wI_ne e _) ?_) (fun q hq => ?_)
  · unfold cAt
    have e4 : mS (wI h a x.toNatClampNeg (vp_nar .byte y)) a = (21, n) := hs
    rw [e4, if_neg (by omega), if_pos (by omega), e1, arrV_store]
    exact congrArg (fun z => some (arrV (gC G 21) n z)) (cv_wI (sty_arr (by omega) (by omega) (by omega) _) _)
  · rcases List.mem_append.mp hq with z | z
    · exact hlc q z
    · rw [List.mem_singleton.mp z]
      exact Nat.le_add_right _ _

theorem go_zastore {x y : Int32} (hc : lk M pc = some (.bastore, npc, 1)) (hs : mS h a = (22, n)) (hin : vp_in x n) (kk : Go l G d mc ms M kc ks npc L st (wI h a x.toNatClampNeg (vp_nar .boolean y)) r h') : Go l G d mc ms M kc ks pc L (.int y :: .int x :: .ref a :: st) h r h' := by
  intro p e s m args below meth c ls H locs C hL hH hlc
  obtain ⟨hd, rfl⟩ := C.dec hc
  have hx := C.1
  have hb := C.2.1
  have hts : ∀ w ∈ gtbl, w.before args s = true := fun w hw => C.word hw
  have hown : s.vm.findClass M.1.cls = some m.cls := C.2.2.2.2.2.1
  have hK : KX G s := C.2.2.2.2.2.2.2.1
  refine W.zast hx hb (hH.arr hs (by omega) (by omega)) ((hK.2.1 22 (by omega) (by omega)).1 n _) (fun q => by cases q) (by rw [arrV_size]; exact hin) rfl rfl hd fun H' e1 e2 e3 => ?_
  refine kk p e s m args below meth c ls H' _ C hL (hH.upd e2 e3 rfl rfl (fun a' kd e => cv_wI_ne e _) ?_) (fun q hq => ?_)
  · unfold cAt
    have e4 : mS (wI h a x.toNatClampNeg (vp_nar .boolean y)) a = (22, n) := hs
    rw [e4, if_neg (by omega), if_pos (by omega), e1, arrV_store]
    exact congrArg (fun z => some (arrV (gC G 22) n z)) (cv_wI (sty_arr (by omega) (by omega) (by omega) _) _)
  · rcases List.mem_append.mp hq with z | z
    · exact hlc q z
    · rw [List.mem_singleton.mp z]
      exact Nat.le_add_right _ _

end RowsE
end
section
section RowsF
variable {l : Launch} {G : GG} {d mc ms kc ks pc npc : Nat} {M : MD} {L st : List Value} {h h1 h' : Hp} {r r1 : Option Value} {kd n i : Nat}
def argF (as : List Value) : List Value := as.flatMap fun v => if v.category = 2 then [v, .null] else [v]
def argL (as : List Value) (n : Nat) : List Value := argF as ++ List.replicate (n - (argF as).length) .null
theorem argF_in {G : GG} : ∀ {as : List Value} {b i : Nat} {v : Value}, (argF as)[i]? = some v → v ≠ .null → (b + i, tv G v) ∈ lv_args b (as.map (tv G))
  | [], b, i, v, h, _ => by simp [argF] at h
  | w :: t, b, i, v, h, hv => by
    have e : argF (w :: t) = (if w.category = 2 then [w, .null] else [w]) ++ argF t := by simp [argF]
    rw [e] at h
    show _ ∈ (b, tv G w) :: lv_args (if (tv G w).category = 2 then b + 2 else b + 1) (t.map (tv G))
    rw [tv_cat]
    by_cases hc : w.category = 2
    · rw [if_pos hc] at h ⊢
      match i, h with
      | 0, h =>
        rw [List.cons_append, List.getElem?_cons_zero] at h
        cases h
        exact List.mem_cons_self
      | 1, h =>
        rw [List.cons_append, List.getElem?_cons_succ, List.cons_append, List.getElem?_cons_zero] at h
        cases h
        exact absurd rfl hv
      | i + 2, h =>
        rw [List.cons_append, List.getElem?_cons_succ, List.cons_append, List.getElem?_cons_succ, List.nil_append] at h
        have h5 := argF_in (G := G) (b := b + 2) h hv
        rw [show b + (i + 2) = b + 2 + i by omega]
        exact List.mem_cons_of_mem _ h5
    · rw [if_neg hc] at h ⊢
      match i, h with
      | 0, h =>
        rw [List.cons_append, List.getElem?_cons_zero] at h
        cases h
        exact List.mem_cons_self
      | i + 1, h =>
        rw [List.cons_append, List.getElem?_cons_succ, List.nil_append] at h
        have h5 := argF_in (G := G) (b := b + 1) h hv
        rw [show b + (i + 1) = b + 1 + i by omega]
        exact List.mem_cons_of_mem _ h5
theorem argF_len {G : GG} (as : List Value) : (lg_sl (as.map (tv G))).length = (argF as).length := by
  induction as with
  | nil => rfl
  | cons v t ih =>
    have e1 : argF (v :: t) = (if v.category = 2 then [v, .null] else [v]) ++ argF t := by simp [argF]
    have e2 : lg_sl ((v :: t).map (tv G)) = (if (tv G v).category = 2 then [.val (tv G v), .second] else [.val (tv G v)]) ++ lg_sl (t.map (tv G)) := by simp [lg_sl]
    rw [e1, e2, List.length_append, List.length_append, ih, tv_cat]
    split <;> rfl
theorem LR.entry {as : List Value} (hn : (argF as).length ≤ n) : LR G (argL as n) ((lg_sl (as.map (tv G)) ++ List.replicate (n - (lg_sl (as.map (tv G))).length) Slot.unset).toArray) n := by
  have h0 := lv_entry (as.map (tv G)) (n := n) (by rw [argF_len]; exact hn)
  refine ⟨h0.1, h0.2.1, fun j v hj hv => ?_⟩
  unfold argL at hj
  by_cases hl : j < (argF as).length
  · rw [List.getElem?_append_left hl] at hj
    have h5 := argF_in (G := G) (b := 0) hj hv
    rw [Nat.zero_add] at h5
    exact h0.2.2 (j, tv G v) h5
  · rw [List.getElem?_append_right (by omega)] at hj
    have h6 := (List.mem_replicate.mp (List.mem_of_getElem? hj)).2
    exact absurd h6 hv
theorem Ct.of {as : List Value} (hM : MOk M) (hn : Nat.ble (argF as).length M.2.2.1 = true) (hl : argL as M.2.2.1 = L) (hg : Go l G d mc ms M 0 0 0 L [] h r h') : Ct l G d mc ms M as h r h' := by
  subst hl
  refine Met.ofW (cc := M.2.1) (maxL := M.2.2.1) (ret := M.2.2.2.1) hM.1 rfl ?_
  intro p e s m args below meth c s₁ B hml hv
  obtain ⟨rfl, hH, hK⟩ := hv
  have C : Cx G M p s m (as.map (tv G)).toArray meth c := ⟨B.exec, B.bytes, B.returns, hml, fun w hw => atoms_spec (ws := wsM M) B.pre w (List.mem_cons_of_mem _ hw), findClass_of_methodNamed B.named, B.notSynchronized, hK, hM.2.2.2.2.2, (name_of_methodNamed B.named B.method).1⟩
  rw [lg_entry_eq]
  exact hg p e s m _ below meth c _ s.heap [] C (LR.entry (Nat.ble_eq.mp hn)) hH (fun q hq => by cases hq)
theorem go_ireturn {v : Int32} (hc : lk M pc = some (.ireturn, npc, 1)) (hr : M.2.2.2.1 = some .int) (e1 : some (.int v) = r) (e2 : h = h') : Go l G d mc ms M mc ms pc L [.int v] h r h' := by
  subst e1; subst e2
  intro p e s m args below meth c ls H locs C hL hH hlc
  obtain ⟨hd, -⟩ := C.dec hc
  have hx := C.1
  have hb := C.2.1
  have hts : ∀ w ∈ gtbl, w.before args s = true := fun w hw => C.word hw
  have hown : s.vm.findClass M.1.cls = some m.cls := C.2.2.2.2.2.1
  have hK : KX G s := C.2.2.2.2.2.2.2.1
  have hml : c.maxLocals = M.2.2.1 := C.2.2.2.1
  exact W.iret (v := v) hx hb (C.2.2.1.trans hr) (fun t ht hW => ⟨rfl, by rw [ht]; exact hH⟩) hlc hd C.2.2.2.2.2.2.1
theorem go_zreturn {v : Int32} (hc : lk M pc = some (.ireturn, npc, 1)) (hr : M.2.2.2.1 = some .boolean) (hv : v = 0 ∨ v = 1) (e1 : some (.int v) = r) (e2 : h = h') : Go l G d mc ms M mc ms pc L [.int v] h r h' := by
  subst e1; subst e2
  intro p e s m args below meth c ls H locs C hL hH hlc
  obtain ⟨hd, -⟩ := C.dec hc
  have hx := C.1
  have hb := C.2.1
  have hts : ∀ w ∈ gtbl, w.before args s = true := fun w hw => C.word hw
  have hown : s.vm.findClass M.1.cls = some m.cls := C.2.2.2.2.2.1
  have hK : KX G s := C.2.2.2.2.2.2.2.1
  have hml : c.maxLocals = M.2.2.1 := C.2.2.2.1
  exact W.zret (v := v) hx hb (C.2.2.1.trans hr) (nar_bool hv).1 (fun t ht hW => ⟨rfl, by rw [ht]; exact hH⟩) hlc hd C.2.2.2.2.2.2.1
theorem go_lreturn {v : Int64} (hc : lk M pc = some (.lreturn, npc, 1)) (hr : M.2.2.2.1 = some .long) (e1 : some (.long v) = r) (e2 : h = h') : Go l G d mc ms M mc ms pc L [.long v] h r h' := by
  subst e1; subst e2
  intro p e s m args below meth c ls H locs C hL hH hlc
  obtain ⟨hd, -⟩ := C.dec hc
  have hx := C.1
  have hb := C.2.1
  have hts : ∀ w ∈ gtbl, w.before args s = true := fun w hw => C.word hw
  have hown : s.vm.findClass M.1.cls = some m.cls := C.2.2.2.2.2.1
  have hK : KX G s := C.2.2.2.2.2.2.2.1
  have hml : c.maxLocals = M.2.2.1 := C.2.2.2.1
  exact W.lret (v := v) hx hb (C.2.2.1.trans hr) (fun t ht hW => ⟨rfl, by rw [ht]; exact hH⟩) hlc hd C.2.2.2.2.2.2.1
theorem go_return (hc : lk M pc = some (.return_, npc, 1)) (hr : M.2.2.2.1 = none) (e1 : none = r) (e2 : h = h') : Go l G d mc ms M mc ms pc L [] h r h' := by
  subst e1; subst e2
  intro p e s m args below meth c ls H locs C hL hH hlc
  obtain ⟨hd, -⟩ := C.dec hc
  have hx := C.1
  have hb := C.2.1
  have hts : ∀ w ∈ gtbl, w.before args s = true := fun w hw => C.word hw
  have hown : s.vm.findClass M.1.cls = some m.cls := C.2.2.2.2.2.1
  have hK : KX G s := C.2.2.2.2.2.2.2.1
  have hml : c.maxLocals = M.2.2.1 := C.2.2.2.1
  exact W.vret hx hb (C.2.2.1.trans hr) (fun t ht hW => ⟨rfl, by rw [ht]; exact hH⟩) hlc hd C.2.2.2.2.2.2.1
theorem go_areturn {b : Nat} {rt : FieldType} (hc : lk M pc = some (.areturn, npc, 1)) (hr : M.2.2.2.1 = some rt) (hrt : (∃ n, rt = .object n) ∨ ∃ t, rt = .array t) (e1 : some (.ref b) = r) (e2 : h = h') : Go l G d mc ms M mc ms pc L [.ref b] h r h' := by
  subst e1; subst e2
  intro p e s m args below meth c ls H locs C hL hH hlc
  obtain ⟨hd, -⟩ := C.dec hc
  have hx := C.1
  have hb := C.2.1
  have hts : ∀ w ∈ gtbl, w.before args s = true := fun w hw => C.word hw
  have hown : s.vm.findClass M.1.cls = some m.cls := C.2.2.2.2.2.1
  have hK : KX G s := C.2.2.2.2.2.2.2.1
  have hml : c.maxLocals = M.2.2.1 := C.2.2.2.1
  exact W.aret (v := .ref (gB G + b)) hx hb (C.2.2.1.trans hr) hrt (Or.inr ⟨_, rfl⟩) (fun t ht hW => ⟨rfl, by rw [ht]; exact hH⟩) hlc hd C.2.2.2.2.2.2.1
/-- a call's links: virtual, static, a constructor; those of nest mates -/
def Lp (y : MethodName) (n : Nat) : Prop := ∀ sig, parseMethodDescriptor y.desc = some sig → n = sig.parameters.length
theorem Lp.of {y : MethodName} (hh : (parseMethodDescriptor y.desc).map (fun d => d.parameters.length) = some n) : Lp y n := fun sig h2 => by
  rw [h2] at hh
  exact (Option.some.inj hh).symm
def Lv (own : String) (i : Nat) (y : MethodName) (n : Nat) : Prop := Cond.methodLink own i y ∈ gtbl ∧ Cond.instanceMethod y ∈ gtbl ∧ Cond.selects y.cls y y ∈ gtbl ∧ Lp y n
def Ls (own : String) (i : Nat) (y : MethodName) (n : Nat) : Prop := Cond.methodLink own i y ∈ gtbl ∧ Cond.static y ∈ gtbl ∧ Lp y n
def Li (own : String) (i : Nat) (y : MethodName) (n : Nat) : Prop := Cond.methodLink own i y ∈ gtbl ∧ Cond.instanceMethod y ∈ gtbl ∧ y.name = "<init>" ∧ Lp y n
def LsN (own : String) (i : Nat) (y : MethodName) (n : Nat) : Prop := (own, i, y) ∈ nws ∧ Cond.static y ∈ gtbl ∧ Lp y n
def LiN (own : String) (i : Nat) (y : MethodName) (n : Nat) : Prop := (own, i, y) ∈ nws ∧ Cond.instanceMethod y ∈ gtbl ∧ y.name = "<init>" ∧ Lp y n
theorem pay_g {s : State} {args : Array Value} {M2 : MD} (hts : ∀ w ∈ gtbl, w.before args s = true) (hM2 : MOk M2) : ∀ w ∈ wsM M2, ∀ (a' : Array Value) (U : State), s.WarmedH U.vm → w.before a' U = true := by
  intro w hw a' U hW
  have hg : w ∈ gtbl := by
    rcases List.mem_cons.mp hw with rfl | hw
    · exact hM2.2.1
    · exact hw
  exact word_at hW (g_good hg) (hts w hg)
theorem cat_sum (G : GG) (st : List Value) : ((st.map (tv G)).map fun v => v.category).sum = (st.map fun v => v.category).sum := by
  induction st with
  | nil => rfl
  | cons v t ih =>
    show (tv G v).category + _ = v.category + _
    rw [tv_cat]
    exact congrArg (fun z => v.category + z) ih
theorem blind (G : GG) (h : Hp) (as : List Value) : FrameBlind (va_Pc (as.map (tv G)) (fun U => HR G h U.heap ∧ KX G U)) := fun a U g mk q => ⟨q.1, q.2.1, KX.same (u := U) (U := U.calling g mk a) rfl q.2.2⟩
theorem go_runs {p : Program} {e : Env} {s : State} {m : MethodId} {args : Array Value} {below : List Frame} {meth : Method} {c : Code} {ls : Array Slot} {H : Heap} {locs : List Loc} {mc1 ms1 : Nat} {stk : List Value} {a : Array Value}
    (run : va_Run p l e (rmm d mc ms) s m args below meth c H locs kc ks mc1 ms1 (F0 m pc ls stk) (st.map (tv G)) (Qx G r1 h1 a) (fun q => gB G ≤ q))
    (C : Cx G M p s m args meth c) (hL : LR G L ls M.2.2.1) (hlc : ∀ q ∈ locs, gB G ≤ q.base) (hn : npc = pc + 3)
    (kk : Go l G d mc ms M (kc + mc1) (ks + ms1) npc L (r1.toList ++ st) h1 r h') : W p l e (rmm d mc ms) s m args below meth c H locs kc ks (MQ below (Qx G r h') args s mc ms (fun q => gB G ≤ q)) (F0 m pc ls stk) := by
  subst hn
  intro T hT X
  obtain ⟨v, st₀, t, T', L', h0, X', hLf, e1, e2, ⟨ho, hH1⟩, stp⟩ := run T hT X
  cases ho
  obtain ⟨t2, a1, b1⟩ := kk p e s m args below meth c ls T'.heap (locs ++ L') C hL (by rw [e1]; exact hH1) (fun q hq => by
    rcases List.mem_append.mp hq with z | z
    · exact hlc q z
    · exact hLf q z) T' rfl X'
  refine ⟨t2, stp t2 ?_, b1⟩
  have e3 : (Option.map (tv G) r1).toList ++ st.map (tv G) = (r1.toList ++ st).map (tv G) := by cases r1 <;> simp
  rw [e3]
  exact a1

theorem go_callV {M2 : MD} {as stk : List Value} {mc1 ms1 : Nat} {b : Nat} (hc : lk M pc = some (.invokevirtual i, npc, 3)) (hl : Lv M.1.cls i M2.1 n) (hM2 : MOk M2) (hct : Ct l G d mc1 ms1 M2 (.ref b :: as) h r1 h1) (hstk : stk = as.reverse ++ .ref b :: st) (hs : kC (mS h b).1 = M2.1.cls) (hkd : Nat.blt (mS h b).1 11 = true) (hn : as.length = n) (hst : Nat.ble (st.map fun v => v.category).sum 8 = true) (hmc : kc + mc1 ≤ mc) (hms : ks + ms1 ≤ ms) (kk : Go l G (d + 1) mc ms M (kc + mc1) (ks + ms1) npc L (r1.toList ++ st) h1 r h') : Go l G (d + 1) mc ms M kc ks pc L stk h r h' := by
  have h3 := hct
  intro p e s m args below meth c ls H locs C hL hH hlc
  obtain ⟨hd, -⟩ := C.dec hc
  have hx := C.1
  have hb := C.2.1
  have hts : ∀ w ∈ gtbl, w.before args s = true := fun w hw => C.word hw
  have hown : s.vm.findClass M.1.cls = some m.cls := C.2.2.2.2.2.1
  have hK : KX G s := C.2.2.2.2.2.2.2.1
  have hml : c.maxLocals = M.2.2.1 := C.2.2.2.1
  have hpc : npc = pc + 3 := (C.dec hc).2
  have hroom : (rmm d mc1 ms1).frames + 1 ≤ (rmm (d + 1) mc ms).frames ∧ 8 + (M2.2.2.1 + 11) + (rmm d mc1 ms1).locals ≤ (rmm (d + 1) mc ms).locals := by
    have h40 : M2.2.2.1 ≤ 40 := hM2.2.2.2.2.1
    exact ⟨Nat.le_refl _, by show 8 + (M2.2.2.1 + 11) + 64 * d ≤ 64 * (d + 1); omega⟩
  have hW : 2 * (F0 m pc ls (stk.map (tv G))).monitorRoom + ((st.map (tv G)).map fun v => v.category).sum ≤ 8 := lv_room (by rw [cat_sum]; exact Nat.ble_eq.mp hst)
  have hkd := Nat.blt_eq.mp hkd
  obtain ⟨cell, q1, q2, q3, q4⟩ := hH.obj rfl hkd
  have hrecv : ∃ cellB : Cell, H[gB G + b]? = some cellB ∧ cellB.vm.isStatics = false ∧ s.vm.findClass M2.1.cls = some cellB.cls := ⟨cell, q1, by rw [q3]; rfl, by rw [q2, ← hs]; exact (hK.1.1 _ _ (k_cl _ hkd)).2.1⟩
  have run := va_runV (e := e) (meth := meth) (locs := locs) (cells := kc) (slots := ks) (rest := st.map (tv G)) (As := as.map (tv G)) (b := gB G + b) (R := rmm (d + 1) mc ms) (H := H) (below := below) (n := n) (C := M2.1.cls) (bytes := M2.2.1) (maxL := M2.2.2.1) (ret := M2.2.2.2.1) (g := F0 m pc ls (stk.map (tv G))) (Ts := gtbl) (nL := M.2.2.1) ⟨hx, hb, hml, hown, hts⟩ h3
    ⟨⟨rfl, rfl, hroom.1, hroom.2, pay_g hts hM2, List.mem_cons_self, hts _ hM2.2.1, hts _ hM2.2.2.1, hM2.2.2.2.1, hl.2.2.2, hts _ hl.1⟩, hts _ hl.2.1, hts _ hl.2.2.1⟩
    ⟨blind G h _, hrecv, fun U hU hW2 => ⟨rfl, by rw [hU]; exact hH, KX.warm hW2 hK⟩⟩ rfl (by rw [List.length_map]; exact hn) hL.1
    (by subst hstk; simp [tv]) hW hd ⟨hmc, hms⟩
  exact go_runs run C hL hlc hpc kk

theorem go_callS {M2 : MD} {as stk : List Value} {mc1 ms1 : Nat} (hc : lk M pc = some (.invokestatic i, npc, 3)) (hl : Ls M.1.cls i M2.1 n) (hM2 : MOk M2) (hct : Ct l G d mc1 ms1 M2 as h r1 h1) (hstk : stk = as.reverse ++ st) (hn : as.length = n) (hst : Nat.ble (st.map fun v => v.category).sum 8 = true) (hmc : kc + mc1 ≤ mc) (hms : ks + ms1 ≤ ms) (kk : Go l G (d + 1) mc ms M (kc + mc1) (ks + ms1) npc L (r1.toList ++ st) h1 r h') : Go l G (d + 1) mc ms M kc ks pc L stk h r h' := by
  have h3 := hct
  intro p e s m args below meth c ls H locs C hL hH hlc
  obtain ⟨hd, -⟩ := C.dec hc
  have hx := C.1
  have hb := C.2.1
  have hts : ∀ w ∈ gtbl, w.before args s = true := fun w hw => C.word hw
  have hown : s.vm.findClass M.1.cls = some m.cls := C.2.2.2.2.2.1
  have hK : KX G s := C.2.2.2.2.2.2.2.1
  have hml : c.maxLocals = M.2.2.1 := C.2.2.2.1
  have hpc : npc = pc + 3 := (C.dec hc).2
  have hroom : (rmm d mc1 ms1).frames + 1 ≤ (rmm (d + 1) mc ms).frames ∧ 8 + (M2.2.2.1 + 11) + (rmm d mc1 ms1).locals ≤ (rmm (d + 1) mc ms).locals := by
    have h40 : M2.2.2.1 ≤ 40 := hM2.2.2.2.2.1
    exact ⟨Nat.le_refl _, by show 8 + (M2.2.2.1 + 11) + 64 * d ≤ 64 * (d + 1); omega⟩
  have hW : 2 * (F0 m pc ls (stk.map (tv G))).monitorRoom + ((st.map (tv G)).map fun v => v.category).sum ≤ 8 := lv_room (by rw [cat_sum]; exact Nat.ble_eq.mp hst)
  have run := va_runS (e := e) (meth := meth) (locs := locs) (cells := kc) (slots := ks) (rest := st.map (tv G)) (As := as.map (tv G)) (R := rmm (d + 1) mc ms) (H := H) (below := below) (n := n) (bytes := M2.2.1) (maxL := M2.2.2.1) (ret := M2.2.2.2.1) (g := F0 m pc ls (stk.map (tv G))) (Ts := gtbl) (nL := M.2.2.1) ⟨hx, hb, hml, hown, hts⟩ h3
    ⟨⟨rfl, rfl, hroom.1, hroom.2, pay_g hts hM2, List.mem_cons_self, hts _ hM2.2.1, hts _ hM2.2.2.1, hM2.2.2.2.1, hl.2.2, hts _ hl.1⟩, hts _ hl.2.1⟩
    ⟨blind G h _, fun U hU hW2 => ⟨rfl, by rw [hU]; exact hH, KX.warm hW2 hK⟩⟩ rfl (by rw [List.length_map]; exact hn) hL.1
    (by subst hstk; simp [tv]) hW hd ⟨hmc, hms⟩
  exact go_runs run C hL hlc hpc kk

theorem go_callSN {M2 : MD} {as stk : List Value} {mc1 ms1 : Nat} (hc : lk M pc = some (.invokestatic i, npc, 3)) (hl : LsN M.1.cls i M2.1 n) (hM2 : MOk M2) (hct : Ct l G d mc1 ms1 M2 as h r1 h1) (hstk : stk = as.reverse ++ st) (hn : as.length = n) (hst : Nat.ble (st.map fun v => v.category).sum 8 = true) (hmc : kc + mc1 ≤ mc) (hms : ks + ms1 ≤ ms) (kk : Go l G (d + 1) mc ms M (kc + mc1) (ks + ms1) npc L (r1.toList ++ st) h1 r h') : Go l G (d + 1) mc ms M kc ks pc L stk h r h' := by
  have h3 := hct
  intro p e s m args below meth c ls H locs C hL hH hlc
  obtain ⟨hd, -⟩ := C.dec hc
  have hx := C.1
  have hb := C.2.1
  have hts : ∀ w ∈ gtbl, w.before args s = true := fun w hw => C.word hw
  have hown : s.vm.findClass M.1.cls = some m.cls := C.2.2.2.2.2.1
  have hK : KX G s := C.2.2.2.2.2.2.2.1
  have hml : c.maxLocals = M.2.2.1 := C.2.2.2.1
  have hpc : npc = pc + 3 := (C.dec hc).2
  have hroom : (rmm d mc1 ms1).frames + 1 ≤ (rmm (d + 1) mc ms).frames ∧ 8 + (M2.2.2.1 + 11) + (rmm d mc1 ms1).locals ≤ (rmm (d + 1) mc ms).locals := by
    have h40 : M2.2.2.1 ≤ 40 := hM2.2.2.2.2.1
    exact ⟨Nat.le_refl _, by show 8 + (M2.2.2.1 + 11) + 64 * d ≤ 64 * (d + 1); omega⟩
  have hW : 2 * (F0 m pc ls (stk.map (tv G))).monitorRoom + ((st.map (tv G)).map fun v => v.category).sum ≤ 8 := lv_room (by rw [cat_sum]; exact Nat.ble_eq.mp hst)
  have run := va_runSN (e := e) (meth := meth) (locs := locs) (cells := kc) (slots := ks) (rest := st.map (tv G)) (As := as.map (tv G)) (R := rmm (d + 1) mc ms) (H := H) (below := below) (n := n) (host := "TinNation") (bytes := M2.2.1) (maxL := M2.2.2.1) (ret := M2.2.2.2.1) (g := F0 m pc ls (stk.map (tv G))) (Ts := gtbl) (nL := M.2.2.1) ⟨hx, hb, hml, hown, hts⟩ h3
    ⟨⟨⟨rfl, rfl, hroom.1, hroom.2, pay_g hts hM2, List.mem_cons_self⟩, hts _ hM2.2.1, hts _ hM2.2.2.1, hM2.2.2.2.1, hl.2.2, va_Nw.use rfl (hK.2.2.1 _ hl.1)⟩, hts _ hl.2.1, trivial⟩
    ⟨blind G h _, fun U hU hW2 => ⟨rfl, by rw [hU]; exact hH, KX.warm hW2 hK⟩⟩ rfl (by rw [List.length_map]; exact hn) hL.1
    (by subst hstk; simp [tv]) hW hd ⟨hmc, hms⟩
  exact go_runs run C hL hlc hpc kk

theorem go_callI {M2 : MD} {as stk : List Value} {mc1 ms1 : Nat} {b : Nat} (hc : lk M pc = some (.invokespecial i, npc, 3)) (hl : Li M.1.cls i M2.1 n) (hM2 : MOk M2) (hret : M2.2.2.2.1 = none) (hct : Ct l G d mc1 ms1 M2 (.ref b :: as) h r1 h1) (hstk : stk = as.reverse ++ .ref b :: st) (hn : as.length = n) (hst : Nat.ble (st.map fun v => v.category).sum 8 = true) (hmc : kc + mc1 ≤ mc) (hms : ks + ms1 ≤ ms) (kk : Go l G (d + 1) mc ms M (kc + mc1) (ks + ms1) npc L (r1.toList ++ st) h1 r h') : Go l G (d + 1) mc ms M kc ks pc L stk h r h' := by
  have h3 := hct
  intro p e s m args below meth c ls H locs C hL hH hlc
  obtain ⟨hd, -⟩ := C.dec hc
  have hx := C.1
  have hb := C.2.1
  have hts : ∀ w ∈ gtbl, w.before args s = true := fun w hw => C.word hw
  have hown : s.vm.findClass M.1.cls = some m.cls := C.2.2.2.2.2.1
  have hK : KX G s := C.2.2.2.2.2.2.2.1
  have hml : c.maxLocals = M.2.2.1 := C.2.2.2.1
  have hpc : npc = pc + 3 := (C.dec hc).2
  have hroom : (rmm d mc1 ms1).frames + 1 ≤ (rmm (d + 1) mc ms).frames ∧ 8 + (M2.2.2.1 + 11) + (rmm d mc1 ms1).locals ≤ (rmm (d + 1) mc ms).locals := by
    have h40 : M2.2.2.1 ≤ 40 := hM2.2.2.2.2.1
    exact ⟨Nat.le_refl _, by show 8 + (M2.2.2.1 + 11) + 64 * d ≤ 64 * (d + 1); omega⟩
  have hW : 2 * (F0 m pc ls (stk.map (tv G))).monitorRoom + ((st.map (tv G)).map fun v => v.category).sum ≤ 8 := lv_room (by rw [cat_sum]; exact Nat.ble_eq.mp hst)
  have hret : M2.2.2.2.1 = none := hret
  have run := va_runI (e := e) (meth := meth) (locs := locs) (cells := kc) (slots := ks) (rest := st.map (tv G)) (As := as.map (tv G)) (b := gB G + b) (R := rmm (d + 1) mc ms) (H := H) (below := below) (n := n) (bytes := M2.2.1) (maxL := M2.2.2.1) (g := F0 m pc ls (stk.map (tv G))) (Ts := gtbl) (nL := M.2.2.1) ⟨hx, hb, hml, hown, hts⟩ h3
    ⟨⟨rfl, rfl, hroom.1, hroom.2, pay_g hts hM2, by rw [← hret]; exact List.mem_cons_self, by rw [← hret]; exact hts _ hM2.2.1, hts _ hM2.2.2.1, hM2.2.2.2.1, hl.2.2.2, hts _ hl.1⟩, hl.2.2.1, hts _ hl.2.1⟩
    ⟨blind G h _, fun U hU hW2 => ⟨rfl, by rw [hU]; exact hH, KX.warm hW2 hK⟩⟩ rfl (by rw [List.length_map]; exact hn) hL.1
    (by subst hstk; simp [tv]) hW hd ⟨hmc, hms⟩
  exact go_runs run C hL hlc hpc kk

theorem go_callIN {M2 : MD} {as stk : List Value} {mc1 ms1 : Nat} {b : Nat} (hc : lk M pc = some (.invokespecial i, npc, 3)) (hl : LiN M.1.cls i M2.1 n) (hM2 : MOk M2) (hret : M2.2.2.2.1 = none) (hct : Ct l G d mc1 ms1 M2 (.ref b :: as) h r1 h1) (hstk : stk = as.reverse ++ .ref b :: st) (hn : as.length = n) (hst : Nat.ble (st.map fun v => v.category).sum 8 = true) (hmc : kc + mc1 ≤ mc) (hms : ks + ms1 ≤ ms) (kk : Go l G (d + 1) mc ms M (kc + mc1) (ks + ms1) npc L (r1.toList ++ st) h1 r h') : Go l G (d + 1) mc ms M kc ks pc L stk h r h' := by
  have h3 := hct
  intro p e s m args below meth c ls H locs C hL hH hlc
  obtain ⟨hd, -⟩ := C.dec hc
  have hx := C.1
  have hb := C.2.1
  have hts : ∀ w ∈ gtbl, w.before args s = true := fun w hw => C.word hw
  have hown : s.vm.findClass M.1.cls = some m.cls := C.2.2.2.2.2.1
  have hK : KX G s := C.2.2.2.2.2.2.2.1
  have hml : c.maxLocals = M.2.2.1 := C.2.2.2.1
  have hpc : npc = pc + 3 := (C.dec hc).2
  have hroom : (rmm d mc1 ms1).frames + 1 ≤ (rmm (d + 1) mc ms).frames ∧ 8 + (M2.2.2.1 + 11) + (rmm d mc1 ms1).locals ≤ (rmm (d + 1) mc ms).locals := by
    have h40 : M2.2.2.1 ≤ 40 := hM2.2.2.2.2.1
    exact ⟨Nat.le_refl _, by show 8 + (M2.2.2.1 + 11) + 64 * d ≤ 64 * (d + 1); omega⟩
  have hW : 2 * (F0 m pc ls (stk.map (tv G))).monitorRoom + ((st.map (tv G)).map fun v => v.category).sum ≤ 8 := lv_room (by rw [cat_sum]; exact Nat.ble_eq.mp hst)
  have hret : M2.2.2.2.1 = none := hret
  have run := va_runIN (e := e) (meth := meth) (locs := locs) (cells := kc) (slots := ks) (rest := st.map (tv G)) (As := as.map (tv G)) (b := gB G + b) (R := rmm (d + 1) mc ms) (H := H) (below := below) (n := n) (host := "TinNation") (bytes := M2.2.1) (maxL := M2.2.2.1) (g := F0 m pc ls (stk.map (tv G))) (Ts := gtbl) (nL := M.2.2.1) ⟨hx, hb, hml, hown, hts⟩ h3
    ⟨⟨⟨rfl, rfl, hroom.1, hroom.2, pay_g hts hM2, by rw [← hret]; exact List.mem_cons_self⟩, by rw [← hret]; exact hts _ hM2.2.1, hts _ hM2.2.2.1, hM2.2.2.2.1, hl.2.2.2, va_Nw.use rfl (hK.2.2.1 _ hl.1)⟩, hl.2.2.1, hts _ hl.2.1⟩
    ⟨blind G h _, fun U hU hW2 => ⟨rfl, by rw [hU]; exact hH, KX.warm hW2 hK⟩⟩ rfl (by rw [List.length_map]; exact hn) hL.1
    (by subst hstk; simp [tv]) hW hd ⟨hmc, hms⟩
  exact go_runs run C hL hlc hpc kk

end RowsF
end
section
theorem w_ini_math : Cond.initialized "java/lang/Math" ∈ gtbl := mem_g 119 (by decide +kernel) rfl
theorem w_ini_sys : Cond.initialized "java/lang/System" ∈ gtbl := mem_g 122 (by decide +kernel) rfl
theorem w_min : Cond.static Lib.Math.min.name ∈ gtbl ∧ Cond.code Lib.Math.min.name Lib.Math.min.code 2 (some .int) ∈ gtbl := ⟨mem_g 503 (by decide +kernel) rfl, mem_g 504 (by decide +kernel) rfl⟩
theorem w_max : Cond.static Lib.Math.max.name ∈ gtbl ∧ Cond.code Lib.Math.max.name Lib.Math.max.code 2 (some .int) ∈ gtbl := ⟨mem_g 627 (by decide +kernel) rfl, mem_g 628 (by decide +kernel) rfl⟩
theorem w_minl : Cond.static Lib.MathLoose.min_long.x ∈ gtbl ∧ Cond.code Lib.MathLoose.min_long.x Lib.MathLoose.min_long.code 4 (some .long) ∈ gtbl := ⟨mem_g 907 (by decide +kernel) rfl, mem_g 908 (by decide +kernel) rfl⟩
theorem w_maxl : Cond.static Lib.MathLoose.max_long.x ∈ gtbl ∧ Cond.code Lib.MathLoose.max_long.x Lib.MathLoose.max_long.code 4 (some .long) ∈ gtbl := ⟨mem_g 910 (by decide +kernel) rfl, mem_g 911 (by decide +kernel) rfl⟩
theorem w_absl : Cond.static Lib.MathLoose.abs_long.x ∈ gtbl ∧ Cond.code Lib.MathLoose.abs_long.x Lib.MathLoose.abs_long.code 2 (some .long) ∈ gtbl := ⟨mem_g 1723 (by decide +kernel) rfl, mem_g 1724 (by decide +kernel) rfl⟩
theorem w_copy : Cond.native arraycopyName ∈ gtbl ∧ Cond.static arraycopyName ∈ gtbl := ⟨mem_g 812 (by decide +kernel) rfl, mem_g 811 (by decide +kernel) rfl⟩
theorem w_obj : Cond.instanceMethod objectInit ∈ gtbl ∧ Cond.code objectInit ⟨#[0xb1]⟩ 1 none ∈ gtbl := ⟨mem_g 135 (by decide +kernel) rfl, mem_g 136 (by decide +kernel) rfl⟩
section RowsG
variable {l : Launch} {G : GG} {d mc ms kc ks pc npc : Nat} {M : MD} {L st : List Value} {h h1 h' : Hp} {r : Option Value} {n i : Nat}
theorem go_ldc {v : Int32} (hc : lk M pc = some (.ldc i, npc, 2)) (hk : Cond.constant M.1.cls i v ∈ gtbl) (kk : Go l G d mc ms M kc ks npc L (.int v :: st) h r h') : Go l G d mc ms M kc ks pc L st h r h' := by
  intro p e s m args below meth c ls H locs C hL hH hlc
  obtain ⟨hd, rfl⟩ := C.dec hc
  have hx := C.1
  have hb := C.2.1
  have hts : ∀ w ∈ gtbl, w.before args s = true := fun w hw => C.word hw
  have hown : s.vm.findClass M.1.cls = some m.cls := C.2.2.2.2.2.1
  have hK : KX G s := C.2.2.2.2.2.2.2.1
  have hml : c.maxLocals = M.2.2.1 := C.2.2.2.1
  exact lv_ldc hx hb hown (hts _ hk) hd (kk p e s m args below meth c ls H locs C hL hH hlc)
theorem go_ldcw {v : Int32} (hc : lk M pc = some (.ldc_w i, npc, 3)) (hk : Cond.constant M.1.cls i v ∈ gtbl) (kk : Go l G d mc ms M kc ks npc L (.int v :: st) h r h') : Go l G d mc ms M kc ks pc L st h r h' := by
  intro p e s m args below meth c ls H locs C hL hH hlc
  obtain ⟨hd, rfl⟩ := C.dec hc
  have hx := C.1
  have hb := C.2.1
  have hts : ∀ w ∈ gtbl, w.before args s = true := fun w hw => C.word hw
  have hown : s.vm.findClass M.1.cls = some m.cls := C.2.2.2.2.2.1
  have hK : KX G s := C.2.2.2.2.2.2.2.1
  have hml : c.maxLocals = M.2.2.1 := C.2.2.2.1
  exact lv_ldcw hx hb hown (hts _ hk) hd (kk p e s m args below meth c ls H locs C hL hH hlc)
theorem go_ldc2 {v : Int64} (hc : lk M pc = some (.ldc2_w i, npc, 3)) (hk : Cond.constantLong M.1.cls i v ∈ gtbl) (kk : Go l G d mc ms M kc ks npc L (.long v :: st) h r h') : Go l G d mc ms M kc ks pc L st h r h' := by
  intro p e s m args below meth c ls H locs C hL hH hlc
  obtain ⟨hd, rfl⟩ := C.dec hc
  have hx := C.1
  have hb := C.2.1
  have hts : ∀ w ∈ gtbl, w.before args s = true := fun w hw => C.word hw
  have hown : s.vm.findClass M.1.cls = some m.cls := C.2.2.2.2.2.1
  have hK : KX G s := C.2.2.2.2.2.2.2.1
  have hml : c.maxLocals = M.2.2.1 := C.2.2.2.1
  exact lv_ldc2 hx hb hown (hts _ hk) hd (kk p e s m args below meth c ls H locs C hL hH hlc)
theorem go_min {x y : Int32} (hc : lk M pc = some (.invokestatic i, npc, 3)) (hl : Cond.methodLink M.1.cls i Lib.Math.min.name ∈ gtbl) (hst : Nat.ble (st.map fun v => v.category).sum 8 = true) (hmc : kc ≤ mc) (hms : ks ≤ ms) (kk : Go l G (d + 1) mc ms M kc ks npc L (.int (if y < x then y else x) :: st) h r h') : Go l G (d + 1) mc ms M kc ks pc L (.int y :: .int x :: st) h r h' := by
  intro p e s m args below meth c ls H locs C hL hH hlc
  obtain ⟨hd, rfl⟩ := C.dec hc
  have hx := C.1
  have hb := C.2.1
  have hts : ∀ w ∈ gtbl, w.before args s = true := fun w hw => C.word hw
  have hown : s.vm.findClass M.1.cls = some m.cls := C.2.2.2.2.2.1
  have hK : KX G s := C.2.2.2.2.2.2.2.1
  have hml : c.maxLocals = M.2.2.1 := C.2.2.2.1
  exact va_mmin hx hb (hml.trans hL.1.symm) hown (hts _ hl) (hts _ w_min.1) (hts _ w_ini_math) (hts _ w_min.2) (Nat.le_add_left 1 d) (by rw [cat_sum]; have := Nat.ble_eq.mp hst; show _ + 13 ≤ 64 * (d + 1); omega) hmc hms hd (kk p e s m args below meth c ls H locs C hL hH hlc)
theorem go_max {x y : Int32} (hc : lk M pc = some (.invokestatic i, npc, 3)) (hl : Cond.methodLink M.1.cls i Lib.Math.max.name ∈ gtbl) (hst : Nat.ble (st.map fun v => v.category).sum 8 = true) (hmc : kc ≤ mc) (hms : ks ≤ ms) (kk : Go l G (d + 1) mc ms M kc ks npc L (.int (if x < y then y else x) :: st) h r h') : Go l G (d + 1) mc ms M kc ks pc L (.int y :: .int x :: st) h r h' := by
  intro p e s m args below meth c ls H locs C hL hH hlc
  obtain ⟨hd, rfl⟩ := C.dec hc
  have hx := C.1
  have hb := C.2.1
  have hts : ∀ w ∈ gtbl, w.before args s = true := fun w hw => C.word hw
  have hown : s.vm.findClass M.1.cls = some m.cls := C.2.2.2.2.2.1
  have hK : KX G s := C.2.2.2.2.2.2.2.1
  have hml : c.maxLocals = M.2.2.1 := C.2.2.2.1
  exact va_mmax hx hb (hml.trans hL.1.symm) hown (hts _ hl) (hts _ w_max.1) (hts _ w_ini_math) (hts _ w_max.2) (Nat.le_add_left 1 d) (by rw [cat_sum]; have := Nat.ble_eq.mp hst; show _ + 13 ≤ 64 * (d + 1); omega) hmc hms hd (kk p e s m args below meth c ls H locs C hL hH hlc)
theorem go_minl {x y : Int64} (hc : lk M pc = some (.invokestatic i, npc, 3)) (hl : Cond.methodLink M.1.cls i Lib.MathLoose.min_long.x ∈ gtbl) (hst : Nat.ble (st.map fun v => v.category).sum 8 = true) (hmc : kc ≤ mc) (hms : ks ≤ ms) (kk : Go l G (d + 1) mc ms M kc ks npc L (.long (if y < x then y else x) :: st) h r h') : Go l G (d + 1) mc ms M kc ks pc L (.long y :: .long x :: st) h r h' := by
  intro p e s m args below meth c ls H locs C hL hH hlc
  obtain ⟨hd, rfl⟩ := C.dec hc
  have hx := C.1
  have hb := C.2.1
  have hts : ∀ w ∈ gtbl, w.before args s = true := fun w hw => C.word hw
  have hown : s.vm.findClass M.1.cls = some m.cls := C.2.2.2.2.2.1
  have hK : KX G s := C.2.2.2.2.2.2.2.1
  have hml : c.maxLocals = M.2.2.1 := C.2.2.2.1
  exact va_mmin_long hx hb (hml.trans hL.1.symm) hown (hts _ hl) (hts _ w_minl.1) (hts _ w_ini_math) (hts _ w_minl.2) (Nat.le_add_left 1 d) (by rw [cat_sum]; have := Nat.ble_eq.mp hst; show _ + 15 ≤ 64 * (d + 1); omega) hmc hms hd (kk p e s m args below meth c ls H locs C hL hH hlc)
theorem go_maxl {x y : Int64} (hc : lk M pc = some (.invokestatic i, npc, 3)) (hl : Cond.methodLink M.1.cls i Lib.MathLoose.max_long.x ∈ gtbl) (hst : Nat.ble (st.map fun v => v.category).sum 8 = true) (hmc : kc ≤ mc) (hms : ks ≤ ms) (kk : Go l G (d + 1) mc ms M kc ks npc L (.long (if y < x then x else y) :: st) h r h') : Go l G (d + 1) mc ms M kc ks pc L (.long y :: .long x :: st) h r h' := by
  intro p e s m args below meth c ls H locs C hL hH hlc
  obtain ⟨hd, rfl⟩ := C.dec hc
  have hx := C.1
  have hb := C.2.1
  have hts : ∀ w ∈ gtbl, w.before args s = true := fun w hw => C.word hw
  have hown : s.vm.findClass M.1.cls = some m.cls := C.2.2.2.2.2.1
  have hK : KX G s := C.2.2.2.2.2.2.2.1
  have hml : c.maxLocals = M.2.2.1 := C.2.2.2.1
  exact va_mmax_long hx hb (hml.trans hL.1.symm) hown (hts _ hl) (hts _ w_maxl.1) (hts _ w_ini_math) (hts _ w_maxl.2) (Nat.le_add_left 1 d) (by rw [cat_sum]; have := Nat.ble_eq.mp hst; show _ + 15 ≤ 64 * (d + 1); omega) hmc hms hd (kk p e s m args below meth c ls H locs C hL hH hlc)
theorem go_absl {x : Int64} (hc : lk M pc = some (.invokestatic i, npc, 3)) (hl : Cond.methodLink M.1.cls i Lib.MathLoose.abs_long.x ∈ gtbl) (hst : Nat.ble (st.map fun v => v.category).sum 8 = true) (hmc : kc ≤ mc) (hms : ks ≤ ms) (kk : Go l G (d + 1) mc ms M kc ks npc L (.long (if 0 < x then x else -x) :: st) h r h') : Go l G (d + 1) mc ms M kc ks pc L (.long x :: st) h r h' := by
  intro p e s m args below meth c ls H locs C hL hH hlc
  obtain ⟨hd, rfl⟩ := C.dec hc
  have hx := C.1
  have hb := C.2.1
  have hts : ∀ w ∈ gtbl, w.before args s = true := fun w hw => C.word hw
  have hown : s.vm.findClass M.1.cls = some m.cls := C.2.2.2.2.2.1
  have hK : KX G s := C.2.2.2.2.2.2.2.1
  have hml : c.maxLocals = M.2.2.1 := C.2.2.2.1
  exact va_mabs_long hx hb (hml.trans hL.1.symm) hown (hts _ hl) (hts _ w_absl.1) (hts _ w_ini_math) (hts _ w_absl.2) (Nat.le_add_left 1 d) (by rw [cat_sum]; have := Nat.ble_eq.mp hst; show _ + 13 ≤ 64 * (d + 1); omega) hmc hms hd (kk p e s m args below meth c ls H locs C hL hH hlc)
theorem go_objInit {b : Nat} (hc : lk M pc = some (.invokespecial i, npc, 3)) (hl : Cond.methodLink M.1.cls i objectInit ∈ gtbl) (hst : Nat.ble (st.map fun v => v.category).sum 8 = true) (kk : Go l G (d + 1) mc ms M kc ks npc L st h r h') : Go l G (d + 1) mc ms M kc ks pc L (.ref b :: st) h r h' := by
  intro p e s m args below meth c ls H locs C hL hH hlc
  obtain ⟨hd, rfl⟩ := C.dec hc
  have hx := C.1
  have hb := C.2.1
  have hts : ∀ w ∈ gtbl, w.before args s = true := fun w hw => C.word hw
  have hown : s.vm.findClass M.1.cls = some m.cls := C.2.2.2.2.2.1
  have hK : KX G s := C.2.2.2.2.2.2.2.1
  have hml : c.maxLocals = M.2.2.1 := C.2.2.2.1
  exact W.objInit hx hb hown (hts _ hl) (hts _ w_obj.1) (hts _ w_obj.2) rfl (hL.1.trans hml.symm) rfl hd (Nat.le_add_left 1 d) (by have h5 := Nat.ble_eq.mp hst; rw [cat_sum]; show 2 * 0 + _ + 12 ≤ 64 * (d + 1); omega) (kk p e s m args below meth c ls H locs C hL hH hlc)
theorem go_copy {a a0 n0 n1 : Nat} {sp dp n : Int32} (hc : lk M pc = some (.invokestatic i, npc, 3)) (hl : Cond.methodLink M.1.cls i arraycopyName ∈ gtbl) (hs0 : mS h a0 = (20, n0)) (hs1 : mS h a = (20, n1)) (h1 : ¬ sp < 0) (h2 : ¬ dp < 0) (h3 : ¬ n < 0) (h4 : sp.toNatClampNeg + n.toNatClampNeg ≤ n0) (h5 : dp.toNatClampNeg + n.toNatClampNeg ≤ n1) (hst : Nat.ble (st.map fun v => v.category).sum 8 = true)
    (kk : Go l G (d + 1) mc ms M kc ks npc L st (wR h a (va_cpy (mI h a0) (mI h a) sp.toNatClampNeg dp.toNatClampNeg n.toNatClampNeg)) r h') : Go l G (d + 1) mc ms M kc ks pc L (.int n :: .int dp :: .ref a :: .int sp :: .ref a0 :: st) h r h' := by
  intro p e s m args below meth c ls H locs C hL hH hlc
  obtain ⟨hd, rfl⟩ := C.dec hc
  have hx := C.1
  have hb := C.2.1
  have hts : ∀ w ∈ gtbl, w.before args s = true := fun w hw => C.word hw
  have hown : s.vm.findClass M.1.cls = some m.cls := C.2.2.2.2.2.1
  have hK : KX G s := C.2.2.2.2.2.2.2.1
  have hml : c.maxLocals = M.2.2.1 := C.2.2.2.1
  have nn : ∀ z : Int32, ¬ z < 0 → z.toInt = (z.toNatClampNeg : Int) := by
    intro z hz
    have hz0 : (0 : Int) ≤ z.toInt := by
      have := Int32.not_lt.mp hz
      simpa using Int32.le_iff_toInt_le.mp this
    show z.toInt = ((z.toInt.toNat : Nat) : Int)
    omega
  have cvi : ∀ b, cv G h 20 b = fun j => .int (mI h b j) := fun b => by
    funext j
    unfold cv
    rw [if_pos (sty_arr (by omega) (by omega) (by omega) j)]
  have hc0 : H[gB G + a0]? = some (vp_cell (gC G 20) (n0, .inl (mI h a0))) := by rw [vp_cell_i, ← cvi a0]; exact hH.arr hs0 (by omega) (by omega)
  have hc1 : H[gB G + a]? = some (vp_cell (gC G 20) (n1, .inl (mI h a))) := by rw [vp_cell_i, ← cvi a]; exact hH.arr hs1 (by omega) (by omega)
  have hA := (hK.2.1 20 (by omega) (by omega)).1
  intro T hT X
  obtain ⟨-, k0, hk0, cm0, hkk0⟩ := hA n0 (fun j => .int (mI h a0 j))
  obtain ⟨-, k1, hk1, cm1, hkk1⟩ := hA n1 (fun j => .int (mI h a j))
  obtain ⟨vm', X', step⟩ := X.arraycopy hx hown (hts _ hl) (hts _ w_copy.1) (hts _ w_copy.2) (hts _ w_ini_sys) (src := gB G + a0) (dst := gB G + a) (cs := vp_cell (gC G 20) (n0, .inl (mI h a0))) (cd := vp_cell (gC G 20) (n1, .inl (mI h a))) (srcPos := sp) (destPos := dp) (n := n) (by rw [hT]; exact hc0) (by rw [hT]; exact hc1)
    (fun _ h => by cases h) (fun _ h => by cases h) (fun h => by cases h) (fun h => by cases h) hk0 hk1 hkk0 hkk1 (by simp [aTy, refKind]) h1 h2 h3
    (by rw [nn sp h1, nn n h3]; show ¬ _ > ((arrV (gC G 20) n0 (fun j => .int (mI h a0 j))).slots.size : Int); rw [arrV_size]; omega)
    (by rw [nn dp h2, nn n h3]; show ¬ _ > ((arrV (gC G 20) n1 (fun j => .int (mI h a j))).slots.size : Int); rw [arrV_size]; omega)
    (fun vm₁ _ i hi => by
      have e : (vp_cell (gC G 20) (n0, .inl (mI h a0))).slots.getD (sp.toNatClampNeg + i) .null = .int (mI h a0 (sp.toNatClampNeg + i)) := by
        show (arrV (gC G 20) n0 (fun j => .int (mI h a0 j))).slots.getD _ _ = _
        rw [Array.getD_eq_getD_getElem?, arrV_read _ _ (by omega)]
        rfl
      refine ⟨?_, ?_⟩
      · rw [e]
        rfl
      · rw [e]
        exact trivial)
    (g := F0 m pc ls ((.int n :: .int dp :: .ref a :: .int sp :: .ref a0 :: st).map (tv G))) rfl (hL.1.trans hml.symm) (rest := st.map (tv G)) rfl (by rw [hb]; exact hd) (Nat.le_add_left 1 d) (by
      have h6 := Nat.ble_eq.mp hst
      rw [cat_sum]
      show 2 * 0 + _ + (nativeFrameWords "java/lang/System" "arraycopy" 5 + 11) ≤ 64 * (d + 1)
      have h7 : nativeFrameWords "java/lang/System" "arraycopy" 5 + 11 ≤ 40 := by decide +kernel
      omega)
  have e1 : copied (vp_cell (gC G 20) (n0, .inl (mI h a0))) (vp_cell (gC G 20) (n1, .inl (mI h a))) sp dp n = vp_cell (gC G 20) (n1, .inl (va_cpy (mI h a0) (mI h a) sp.toNatClampNeg dp.toNatClampNeg n.toNatClampNeg)) := va_copied (fun z => .int z) (gC G 20) (gC G 20) (mI h a0) (mI h a) h4
  rw [e1] at X' step
  generalize hw : va_cpy (mI h a0) (mI h a) sp.toNatClampNeg dp.toNatClampNeg n.toNatClampNeg = w at X' step kk
  have hlt : gB G + a < H.size := (Array.getElem?_eq_some_iff.mp hc1).1
  have hheap : ((T.setVm vm').setCell (gB G + a) (vp_cell (gC G 20) (n1, .inl w))).heap = H.setIfInBounds (gB G + a) (vp_cell (gC G 20) (n1, .inl w)) := by rw [← hT]; rfl
  have oq : ∀ q : Nat, q ≠ gB G + a → (H.setIfInBounds (gB G + a) (vp_cell (gC G 20) (n1, .inl w)))[q]? = H[q]? := fun q hq => by simp [Array.getElem?_setIfInBounds, Ne.symm hq]
  have hH2 : HR G (wR h a w) (H.setIfInBounds (gB G + a) (vp_cell (gC G 20) (n1, .inl w))) := by
    refine hH.upd (a := a) (by simp) oq rfl rfl (fun a' kd e => cv_wR_ne e w) ?_
    unfold cAt
    have e4 : mS (wR h a w) a = (20, n1) := hs1
    rw [e4, if_neg (by omega), if_pos (by omega), cv_wR (fun j => sty_arr (by omega) (by omega) (by omega) j)]
    simp [Array.getElem?_setIfInBounds, hlt, vp_cell_i]
  obtain ⟨t, a1, b1⟩ := kk p e s m args below meth c ls _ _ C hL hH2 (fun q hq => by
    rcases List.mem_append.mp hq with z | z
    · exact hlc q z
    · obtain ⟨y, -, hy⟩ := List.mem_map.mp z
      rw [← hy]
      exact Nat.le_add_right _ _) _ hheap X'
  exact ⟨t, step t a1, b1⟩

end RowsG
end
section
theorem ini0 : Cond.initialized RX0 ∈ gtbl := mem_g 115 (by decide +kernel) rfl
theorem ini1 : Cond.initialized RX1 ∈ gtbl := mem_g 109 (by decide +kernel) rfl
theorem ini2 : Cond.initialized RX2 ∈ gtbl := mem_g 106 (by decide +kernel) rfl
theorem ini3 : Cond.initialized RX3 ∈ gtbl := mem_g 107 (by decide +kernel) rfl
theorem ini4 : Cond.initialized RX4 ∈ gtbl := mem_g 108 (by decide +kernel) rfl
theorem ini5 : Cond.initialized RX5 ∈ gtbl := mem_g 110 (by decide +kernel) rfl
theorem ini6 : Cond.initialized RX6 ∈ gtbl := mem_g 116 (by decide +kernel) rfl
theorem ini7 : Cond.initialized RX7 ∈ gtbl := mem_g 118 (by decide +kernel) rfl
theorem ini8 : Cond.initialized RX8 ∈ gtbl := mem_g 117 (by decide +kernel) rfl
theorem ini9 : Cond.initialized RX9 ∈ gtbl := mem_g 105 (by decide +kernel) rfl
theorem ini10 : Cond.initialized RX10 ∈ gtbl := mem_g 120 (by decide +kernel) rfl
def m0_init : MD := (yX0_init, cX0_init, 2, none, [(0, .aload_n 0, 1, 1), (1, .invokespecial 3, 4, 3), (4, .aload_n 0, 5, 1), (5, .bipush 7, 7, 2), (7, .newarray .int, 9, 2), (9, .putfield 11, 12, 3), (12, .aload_n 0, 13, 1), (13, .aload_n 1, 14, 1), (14, .putfield 15, 17, 3), (17, .return_, 18, 1)])
theorem ok0_init : MOk m0_init := ⟨by decide, mem_g 364 (by decide +kernel) rfl, ini0, ⟨by decide, by decide⟩, by decide, by unfold MDe; decide +kernel⟩
def m0_byNumbers : MD := (yX0_byNumbers, cX0_byNumbers, 1, none, [(0, .aload_n 0, 1, 1), (1, .iconst 1, 2, 1), (2, .putfield 19, 5, 3), (5, .aload_n 0, 6, 1), (6, .iconst 0, 7, 1), (7, .putfield 23, 10, 3), (10, .return_, 11, 1)])
theorem ok0_byNumbers : MOk m0_byNumbers := ⟨by decide, mem_g 948 (by decide +kernel) rfl, ini0, ⟨by decide, by decide⟩, by decide, by unfold MDe; decide +kernel⟩
def m0_asItGoes : MD := (yX0_asItGoes, cX0_asItGoes, 1, none, [(0, .aload_n 0, 1, 1), (1, .iconst 0, 2, 1), (2, .putfield 19, 5, 3), (5, .aload_n 0, 6, 1), (6, .iconst 0, 7, 1), (7, .putfield 23, 10, 3), (10, .return_, 11, 1)])
theorem ok0_asItGoes : MOk m0_asItGoes := ⟨by decide, mem_g 1003 (by decide +kernel) rfl, ini0, ⟨by decide, by decide⟩, by decide, by unfold MDe; decide +kernel⟩
def m0_otherwise : MD := (yX0_otherwise, cX0_otherwise, 3, none, [(0, .aload_n 0, 1, 1), (1, .iconst 0, 2, 1), (2, .putfield 19, 5, 3), (5, .aload_n 0, 6, 1), (6, .iload_n 1, 7, 1), (7, .putfield 23, 10, 3), (10, .aload_n 0, 11, 1), (11, .iload_n 2, 12, 1), (12, .putfield 27, 15, 3), (15, .return_, 16, 1)])
theorem ok0_otherwise : MOk m0_otherwise := ⟨by decide, mem_g 1185 (by decide +kernel) rfl, ini0, ⟨by decide, by decide⟩, by decide, by unfold MDe; decide +kernel⟩
def m0_mayBringGlory : MD := (yX0_mayBringGlory, cX0_mayBringGlory, 2, (some (Jvm.ClassFile.FieldType.boolean)), [(0, .aload_n 1, 1, 1), (1, .getfield 30, 4, 3), (4, .aload_n 0, 5, 1), (5, .getfield 15, 8, 3), (8, .getfield 35, 11, 3), (11, .if_icmp .gt 7, 14, 3), (14, .iconst 1, 15, 1), (15, .goto 4, 18, 3), (18, .iconst 0, 19, 1), (19, .ireturn, 20, 1)])
theorem ok0_mayBringGlory : MOk m0_mayBringGlory := ⟨by decide, mem_g 1033 (by decide +kernel) rfl, ini0, ⟨by decide, by decide⟩, by decide, by unfold MDe; decide +kernel⟩
def m0_pass : MD := (yX0_pass, cX0_pass, 2, none, [(0, .aload_n 1, 1, 1), (1, .getfield 30, 4, 3), (4, .aload_n 0, 5, 1), (5, .getfield 15, 8, 3), (8, .getfield 40, 11, 3), (11, .if_icmp .gt 8, 14, 3), (14, .aload_n 0, 15, 1), (15, .aload_n 1, 16, 1), (16, .invokevirtual 43, 19, 3), (19, .aload_n 1, 20, 1), (20, .getfield 30, 23, 3), (23, .aload_n 0, 24, 1), (24, .getfield 15, 27, 3), (27, .getfield 35, 30, 3), (30, .if_icmp .gt 8, 33, 3), (33, .aload_n 0, 34, 1), (34, .aload_n 1, 35, 1), (35, .invokevirtual 47, 38, 3), (38, .aload_n 0, 39, 1), (39, .getfield 23, 42, 3), (42, .iconst 5, 43, 1), (43, .if_icmp .eq 8, 46, 3), (46, .aload_n 0, 47, 1), (47, .aload_n 1, 48, 1), (48, .invokevirtual 50, 51, 3), (51, .aload_n 0, 52, 1), (52, .getfield 23, 55, 3), (55, .iconst 1, 56, 1), (56, .if_icmp .eq 8, 59, 3), (59, .aload_n 0, 60, 1), (60, .aload_n 1, 61, 1), (61, .invokevirtual 53, 64, 3), (64, .aload_n 0, 65, 1), (65, .aload_n 1, 66, 1), (66, .invokevirtual 56, 69, 3), (69, .aload_n 1, 70, 1), (70, .dup, 71, 1), (71, .getfield 30, 74, 3), (74, .iconst 1, 75, 1), (75, .iadd, 76, 1), (76, .putfield 30, 79, 3), (79, .return_, 80, 1)])
theorem ok0_pass : MOk m0_pass := ⟨by decide, mem_g 952 (by decide +kernel) rfl, ini0, ⟨by decide, by decide⟩, by decide, by unfold MDe; decide +kernel⟩
def m0_openTold : MD := (yX0_openTold, cX0_openTold, 6, none, [(0, .aload_n 0, 1, 1), (1, .getfield 15, 4, 3), (4, .getfield 59, 7, 3), (7, .iconst 1, 8, 1), (8, .invokevirtual 63, 11, 3), (11, .astore_n 2, 12, 1), (12, .iconst 0, 13, 1), (13, .istore_n 3, 14, 1), (14, .iload_n 3, 15, 1), (15, .aload_n 0, 16, 1), (16, .getfield 15, 19, 3), (19, .getfield 59, 22, 3), (22, .getfield 69, 25, 3), (25, .if_icmp .ge 118, 28, 3), (28, .aload_n 0, 29, 1), (29, .getfield 15, 32, 3), (32, .getfield 59, 35, 3), (35, .iload_n 3, 36, 1), (36, .iconst 0, 37, 1), (37, .invokevirtual 72, 40, 3), (40, .istore 4, 42, 2), (42, .aload_n 0, 43, 1), (43, .getfield 23, 46, 3), (46, .iconst 2, 47, 1), (47, .if_icmp .ne 16, 50, 3), (50, .iload 4, 52, 2), (52, .aload_n 0, 53, 1), (53, .getfield 27, 56, 3), (56, .if_icmp .ne 7, 59, 3), (59, .iconst 1, 60, 1), (60, .goto 4, 63, 3), (63, .iconst 0, 64, 1), (64, .istore 5, 66, 2), (66, .aload_n 2, 67, 1), (67, .iload_n 3, 68, 1), (68, .iaload, 69, 1), (69, .aload_n 1, 70, 1), (70, .getfield 30, 73, 3), (73, .if_icmp .ne 64, 76, 3), (76, .iload 5, 78, 2), (78, .ifCond .ne 59, 81, 3), (81, .aload_n 1, 82, 1), (82, .getfield 76, 85, 3), (85, .ifCond .le 42, 88, 3), (88, .aload_n 0, 89, 1), (89, .getfield 23, 92, 3), (92, .iconst 3, 93, 1), (93, .if_icmp .ne 15, 96, 3), (96, .aload_n 1, 97, 1), (97, .iload 4, 99, 2), (99, .invokevirtual 79, 102, 3), (102, .ifCond .eq 25, 105, 3), (105, .goto 12, 108, 3), (108, .aload_n 1, 109, 1), (109, .iload 4, 111, 2), (111, .invokevirtual 83, 114, 3), (114, .ifCond .eq 13, 117, 3), (117, .aload_n 0, 118, 1), (118, .aload_n 1, 119, 1), (119, .iload 4, 121, 2), (121, .invokevirtual 86, 124, 3), (124, .goto 13, 127, 3), (127, .aload_n 1, 128, 1), (128, .dup, 129, 1), (129, .getfield 90, 132, 3), (132, .iconst 1, 133, 1), (133, .iadd, 134, 1), (134, .putfield 90, 137, 3), (137, .iinc 3 1, 140, 3), (140, .goto (-126), 143, 3), (143, .return_, 144, 1)])
theorem ok0_openTold : MOk m0_openTold := ⟨by decide, mem_g 956 (by decide +kernel) rfl, ini0, ⟨by decide, by decide⟩, by decide, by unfold MDe; decide +kernel⟩
def m0_unseal : MD := (yX0_unseal, cX0_unseal, 3, none, [(0, .aload_n 1, 1, 1), (1, .iload_n 2, 2, 1), (2, .invokevirtual 93, 5, 3), (5, .ifCond .eq 51, 8, 3), (8, .aload_n 1, 9, 1), (9, .getfield 96, 12, 3), (12, .iload_n 2, 13, 1), (13, .iconst 1, 14, 1), (14, .iastore, 15, 1), (15, .aload_n 1, 16, 1), (16, .dup, 17, 1), (17, .getfield 76, 20, 3), (20, .iconst 1, 21, 1), (21, .isub, 22, 1), (22, .putfield 76, 25, 3), (25, .aload_n 1, 26, 1), (26, .getfield 99, 29, 3), (29, .iload_n 2, 30, 1), (30, .aload_n 0, 31, 1), (31, .getfield 15, 34, 3), (34, .getfield 102, 37, 3), (37, .iconst 0, 38, 1), (38, .aload_n 0, 39, 1), (39, .aload_n 1, 40, 1), (40, .iload_n 2, 41, 1), (41, .iconst (-1), 42, 1), (42, .invokevirtual 106, 45, 3), (45, .invokevirtual 110, 48, 3), (48, .iconst 1, 49, 1), (49, .bipush 9, 51, 2), (51, .iconst 3, 52, 1), (52, .invokestatic 116, 55, 3), (55, .iastore, 56, 1), (56, .return_, 57, 1)])
theorem ok0_unseal : MOk m0_unseal := ⟨by decide, mem_g 899 (by decide +kernel) rfl, ini0, ⟨by decide, by decide⟩, by decide, by unfold MDe; decide +kernel⟩
def m0_unsealAnyway : MD := (yX0_unsealAnyway, cX0_unsealAnyway, 3, none, [(0, .aload_n 1, 1, 1), (1, .iload_n 2, 2, 1), (2, .invokevirtual 79, 5, 3), (5, .ifCond .eq 16, 8, 3), (8, .aload_n 1, 9, 1), (9, .getfield 76, 12, 3), (12, .ifCond .le 9, 15, 3), (15, .aload_n 0, 16, 1), (16, .aload_n 1, 17, 1), (17, .iload_n 2, 18, 1), (18, .invokevirtual 86, 21, 3), (21, .return_, 22, 1)])
theorem ok0_unsealAnyway : MOk m0_unsealAnyway := ⟨by decide, mem_g 1037 (by decide +kernel) rfl, ini0, ⟨by decide, by decide⟩, by decide, by unfold MDe; decide +kernel⟩
def m0_serve : MD := (yX0_serve, cX0_serve, 8, none, [(0, .aload_n 0, 1, 1), (1, .getfield 15, 4, 3), (4, .getfield 120, 7, 3), (7, .iconst 1, 8, 1), (8, .invokevirtual 63, 11, 3), (11, .astore_n 2, 12, 1), (12, .iconst 0, 13, 1), (13, .istore_n 3, 14, 1), (14, .iconst 0, 15, 1), (15, .istore 4, 17, 2), (17, .iload 4, 19, 2), (19, .aload_n 0, 20, 1), (20, .getfield 15, 23, 3), (23, .getfield 120, 26, 3), (26, .getfield 69, 29, 3), (29, .if_icmp .ge 157, 32, 3), (32, .aload_n 2, 33, 1), (33, .iload 4, 35, 2), (35, .iaload, 36, 1), (36, .aload_n 1, 37, 1), (37, .getfield 30, 40, 3), (40, .if_icmp .ne 140, 43, 3), (43, .aload_n 0, 44, 1), (44, .aload_n 1, 45, 1), (45, .aload_n 0, 46, 1), (46, .getfield 15, 49, 3), (49, .getfield 120, 52, 3), (52, .iload 4, 54, 2), (54, .iconst 0, 55, 1), (55, .invokevirtual 72, 58, 3), (58, .iload_n 3, 59, 1), (59, .invokevirtual 123, 62, 3), (62, .istore 5, 64, 2), (64, .iload 5, 66, 2), (66, .iconst (-1), 67, 1), (67, .if_icmp .ne 24, 70, 3), (70, .aload_n 1, 71, 1), (71, .getfield 127, 74, 3), (74, .iload 4, 76, 2), (76, .iconst 2, 77, 1), (77, .iastore, 78, 1), (78, .aload_n 1, 79, 1), (79, .dup, 80, 1), (80, .getfield 129, 83, 3), (83, .iconst 1, 84, 1), (84, .iadd, 85, 1), (85, .putfield 129, 88, 3), (88, .goto 92, 91, 3), (91, .iload_n 3, 92, 1), (92, .iconst 1, 93, 1), (93, .iload 5, 95, 2), (95, .ishl, 96, 1), (96, .ior, 97, 1), (97, .istore_n 3, 98, 1), (98, .aload_n 1, 99, 1), (99, .getfield 127, 102, 3), (102, .iload 4, 104, 2), (104, .iconst 1, 105, 1), (105, .iastore, 106, 1), (106, .aload_n 1, 107, 1), (107, .dup, 108, 1), (108, .getfield 132, 111, 3), (111, .iconst 1, 112, 1), (112, .iadd, 113, 1), (113, .putfield 132, 116, 3), (116, .aload_n 1, 117, 1), (117, .getfield 135, 120, 3), (120, .iload 5, 122, 2), (122, .dup2, 123, 1), (123, .iaload, 124, 1), (124, .iconst 1, 125, 1), (125, .iadd, 126, 1), (126, .iastore, 127, 1), (127, .aload_n 0, 128, 1), (128, .getfield 15, 131, 3), (131, .getfield 102, 134, 3), (134, .iconst 1, 135, 1), (135, .aload_n 0, 136, 1), (136, .aload_n 1, 137, 1), (137, .iload 5, 139, 2), (139, .iload 4, 141, 2), (141, .invokevirtual 106, 144, 3), (144, .invokevirtual 110, 147, 3), (147, .lstore 6, 149, 2), (149, .aload_n 1, 150, 1), (150, .dup, 151, 1), (151, .getfield 138, 154, 3), (154, .lload 6, 156, 2), (156, .iconst 0, 157, 1), (157, .sipush 999, 160, 3), (160, .aload_n 0, 161, 1), (161, .getfield 15, 164, 3), (164, .getfield 120, 167, 3), (167, .iload 4, 169, 2), (169, .iconst 2, 170, 1), (170, .invokevirtual 72, 173, 3), (173, .invokestatic 116, 176, 3), (176, .iadd, 177, 1), (177, .putfield 138, 180, 3), (180, .iinc 4 1, 183, 3), (183, .goto (-166), 186, 3), (186, .return_, 187, 1)])
theorem ok0_serve : MOk m0_serve := ⟨by decide, mem_g 964 (by decide +kernel) rfl, ini0, ⟨by decide, by decide⟩, by decide, by unfold MDe; decide +kernel⟩
def m0_server : MD := (yX0_server, cX0_server, 6, (some (Jvm.ClassFile.FieldType.int)), [(0, .aload_n 0, 1, 1), (1, .getfield 15, 4, 3), (4, .getfield 141, 7, 3), (7, .iconst 1, 8, 1), (8, .invokevirtual 63, 11, 3), (11, .astore 4, 13, 2), (13, .iconst 0, 14, 1), (14, .istore 5, 16, 2), (16, .iload 5, 18, 2), (18, .aload_n 1, 19, 1), (19, .getfield 144, 22, 3), (22, .if_icmp .ge 41, 25, 3), (25, .aload_n 1, 26, 1), (26, .getfield 96, 29, 3), (29, .iload 5, 31, 2), (31, .iaload, 32, 1), (32, .iconst 1, 33, 1), (33, .if_icmp .ne 24, 36, 3), (36, .aload 4, 38, 2), (38, .iload 5, 40, 2), (40, .iaload, 41, 1), (41, .iload_n 2, 42, 1), (42, .if_icmp .ne 15, 45, 3), (45, .iload_n 3, 46, 1), (46, .iload 5, 48, 2), (48, .invokestatic 146, 51, 3), (51, .ifCond .ne 6, 54, 3), (54, .iload 5, 56, 2), (56, .ireturn, 57, 1), (57, .iinc 5 1, 60, 3), (60, .goto (-44), 63, 3), (63, .iconst (-1), 64, 1), (64, .ireturn, 65, 1)])
theorem ok0_server : MOk m0_server := ⟨by decide, mem_g 968 (by decide +kernel) rfl, ini0, ⟨by decide, by decide⟩, by decide, by unfold MDe; decide +kernel⟩
def m0_goOff : MD := (yX0_goOff, cX0_goOff, 3, none, [(0, .iconst 0, 1, 1), (1, .istore_n 2, 2, 1), (2, .iload_n 2, 3, 1), (3, .aload_n 1, 4, 1), (4, .getfield 144, 7, 3), (7, .if_icmp .ge 52, 10, 3), (10, .aload_n 1, 11, 1), (11, .getfield 96, 14, 3), (14, .iload_n 2, 15, 1), (15, .iaload, 16, 1), (16, .iconst 1, 17, 1), (17, .if_icmp .ne 36, 20, 3), (20, .aload_n 1, 21, 1), (21, .getfield 99, 24, 3), (24, .iload_n 2, 25, 1), (25, .dup2, 26, 1), (26, .iaload, 27, 1), (27, .iconst 1, 28, 1), (28, .isub, 29, 1), (29, .iastore, 30, 1), (30, .aload_n 1, 31, 1), (31, .getfield 99, 34, 3), (34, .iload_n 2, 35, 1), (35, .iaload, 36, 1), (36, .ifCond .gt 17, 39, 3), (39, .aload_n 1, 40, 1), (40, .getfield 99, 43, 3), (43, .iload_n 2, 44, 1), (44, .iconst 0, 45, 1), (45, .iastore, 46, 1), (46, .aload_n 1, 47, 1), (47, .getfield 96, 50, 3), (50, .iload_n 2, 51, 1), (51, .iconst 2, 52, 1), (52, .iastore, 53, 1), (53, .iinc 2 1, 56, 3), (56, .goto (-54), 59, 3), (59, .return_, 60, 1)])
theorem ok0_goOff : MOk m0_goOff := ⟨by decide, mem_g 973 (by decide +kernel) rfl, ini0, ⟨by decide, by decide⟩, by decide, by unfold MDe; decide +kernel⟩
def m0_rust : MD := (yX0_rust, cX0_rust, 6, none, [(0, .aload_n 0, 1, 1), (1, .getfield 15, 4, 3), (4, .getfield 102, 7, 3), (7, .iconst 2, 8, 1), (8, .invokevirtual 150, 11, 3), (11, .istore_n 2, 12, 1), (12, .iload_n 2, 13, 1), (13, .ifCond .ne 27, 16, 3), (16, .aload_n 0, 17, 1), (17, .getfield 15, 20, 3), (20, .getfield 151, 23, 3), (23, .aload_n 0, 24, 1), (24, .getfield 19, 27, 3), (27, .ifCond .eq 7, 30, 3), (30, .iconst 1, 31, 1), (31, .goto 5, 34, 3), (34, .bipush 50, 36, 2), (36, .if_icmp .ge 4, 39, 3), (39, .return_, 40, 1), (40, .iconst 0, 41, 1), (41, .istore_n 3, 42, 1), (42, .iload_n 3, 43, 1), (43, .aload_n 1, 44, 1), (44, .getfield 144, 47, 3), (47, .if_icmp .ge 90, 50, 3), (50, .aload_n 1, 51, 1), (51, .getfield 96, 54, 3), (54, .iload_n 3, 55, 1), (55, .iaload, 56, 1), (56, .ifCond .ne 75, 59, 3), (59, .iload_n 2, 60, 1), (60, .ifCond .eq 24, 63, 3), (63, .aload_n 0, 64, 1), (64, .getfield 15, 67, 3), (67, .getfield 102, 70, 3), (70, .iconst 2, 71, 1), (71, .aload_n 0, 72, 1), (72, .aload_n 1, 73, 1), (73, .iload_n 3, 74, 1), (74, .iconst (-1), 75, 1), (75, .invokevirtual 106, 78, 3), (78, .invokevirtual 110, 81, 3), (81, .goto 6, 84, 3), (84, .ldc2_w 153, 87, 3), (87, .lstore 4, 89, 2), (89, .aload_n 0, 90, 1), (90, .aload_n 1, 91, 1), (91, .lload 4, 93, 2), (93, .iconst 0, 94, 1), (94, .bipush 100, 96, 2), (96, .aload_n 0, 97, 1), (97, .getfield 15, 100, 3), (100, .getfield 151, 103, 3), (103, .invokestatic 116, 106, 3), (106, .invokevirtual 155, 109, 3), (109, .ifCond .eq 22, 112, 3), (112, .aload_n 1, 113, 1), (113, .getfield 159, 116, 3), (116, .iload_n 3, 117, 1), (117, .bipush 10, 119, 2), (119, .aload_n 1, 120, 1), (120, .getfield 159, 123, 3), (123, .iload_n 3, 124, 1), (124, .iaload, 125, 1), (125, .iconst 1, 126, 1), (126, .iadd, 127, 1), (127, .invokestatic 162, 130, 3), (130, .iastore, 131, 1), (131, .iinc 3 1, 134, 3), (134, .goto (-92), 137, 3), (137, .return_, 138, 1)])
theorem ok0_rust : MOk m0_rust := ⟨by decide, mem_g 977 (by decide +kernel) rfl, ini0, ⟨by decide, by decide⟩, by decide, by unfold MDe; decide +kernel⟩
def m0_rusts : MD := (yX0_rusts, cX0_rusts, 3, (some (Jvm.ClassFile.FieldType.boolean)), [(0, .aload_n 0, 1, 1), (1, .getfield 19, 4, 3), (4, .ifCond .ne 15, 7, 3), (7, .iload_n 2, 8, 1), (8, .bipush 50, 10, 2), (10, .if_icmp .lt 7, 13, 3), (13, .iconst 1, 14, 1), (14, .goto 4, 17, 3), (17, .iconst 0, 18, 1), (18, .ireturn, 19, 1), (19, .iload_n 2, 20, 1), (20, .ifCond .eq 9, 23, 3), (23, .iload_n 2, 24, 1), (24, .bipush 100, 26, 2), (26, .if_icmp .ne 15, 29, 3), (29, .iload_n 2, 30, 1), (30, .bipush 100, 32, 2), (32, .if_icmp .ne 7, 35, 3), (35, .iconst 1, 36, 1), (36, .goto 4, 39, 3), (39, .iconst 0, 40, 1), (40, .ireturn, 41, 1), (41, .aload_n 1, 42, 1), (42, .invokevirtual 167, 45, 3), (45, .bipush 100, 47, 2), (47, .irem, 48, 1), (48, .iload_n 2, 49, 1), (49, .if_icmp .ge 7, 52, 3), (52, .iconst 1, 53, 1), (53, .goto 4, 56, 3), (56, .iconst 0, 57, 1), (57, .ireturn, 58, 1)])
theorem ok0_rusts : MOk m0_rusts := ⟨by decide, mem_g 982 (by decide +kernel) rfl, ini0, ⟨by decide, by decide⟩, by decide, by unfold MDe; decide +kernel⟩
def m0_blow : MD := (yX0_blow, cX0_blow, 4, none, [(0, .aload_n 0, 1, 1), (1, .getfield 15, 4, 3), (4, .getfield 141, 7, 3), (7, .iconst 3, 8, 1), (8, .invokevirtual 63, 11, 3), (11, .astore_n 2, 12, 1), (12, .iconst 0, 13, 1), (13, .istore_n 3, 14, 1), (14, .iload_n 3, 15, 1), (15, .aload_n 1, 16, 1), (16, .getfield 144, 19, 3), (19, .if_icmp .ge 46, 22, 3), (22, .aload_n 1, 23, 1), (23, .getfield 96, 26, 3), (26, .iload_n 3, 27, 1), (27, .iaload, 28, 1), (28, .ifCond .ne 31, 31, 3), (31, .aload_n 2, 32, 1), (32, .iload_n 3, 33, 1), (33, .iaload, 34, 1), (34, .aload_n 1, 35, 1), (35, .getfield 30, 38, 3), (38, .if_icmp .le 14, 41, 3), (41, .aload_n 1, 42, 1), (42, .getfield 159, 45, 3), (45, .iload_n 3, 46, 1), (46, .iaload, 47, 1), (47, .bipush 10, 49, 2), (49, .if_icmp .lt 10, 52, 3), (52, .aload_n 1, 53, 1), (53, .getfield 96, 56, 3), (56, .iload_n 3, 57, 1), (57, .iconst 3, 58, 1), (58, .iastore, 59, 1), (59, .iinc 3 1, 62, 3), (62, .goto (-48), 65, 3), (65, .return_, 66, 1)])
theorem ok0_blow : MOk m0_blow := ⟨by decide, mem_g 995 (by decide +kernel) rfl, ini0, ⟨by decide, by decide⟩, by decide, by unfold MDe; decide +kernel⟩
def m0_namesOf : MD := (yX0_namesOf, cX0_namesOf, 6, (some (Jvm.ClassFile.FieldType.array Jvm.ClassFile.FieldType.int)), [(0, .aload_n 0, 1, 1), (1, .getfield 15, 4, 3), (4, .getfield 141, 7, 3), (7, .iload_n 2, 8, 1), (8, .iconst 1, 9, 1), (9, .invokevirtual 72, 12, 3), (12, .istore 4, 14, 2), (14, .aload_n 1, 15, 1), (15, .iload_n 2, 16, 1), (16, .invokevirtual 93, 19, 3), (19, .istore 5, 21, 2), (21, .aload_n 0, 22, 1), (22, .getfield 11, 25, 3), (25, .iconst 0, 26, 1), (26, .iload 5, 28, 2), (28, .ifCond .eq 12, 31, 3), (31, .aload_n 1, 32, 1), (32, .getfield 159, 35, 3), (35, .iload_n 2, 36, 1), (36, .iaload, 37, 1), (37, .goto 4, 40, 3), (40, .iconst 0, 41, 1), (41, .iastore, 42, 1), (42, .aload_n 0, 43, 1), (43, .getfield 11, 46, 3), (46, .iconst 1, 47, 1), (47, .aload_n 0, 48, 1), (48, .getfield 15, 51, 3), (51, .getfield 141, 54, 3), (54, .iload_n 2, 55, 1), (55, .iconst 3, 56, 1), (56, .invokevirtual 72, 59, 3), (59, .iastore, 60, 1), (60, .aload_n 0, 61, 1), (61, .getfield 11, 64, 3), (64, .iconst 2, 65, 1), (65, .aload_n 0, 66, 1), (66, .getfield 15, 69, 3), (69, .getfield 171, 72, 3), (72, .iload 4, 74, 2), (74, .iconst 1, 75, 1), (75, .invokevirtual 72, 78, 3), (78, .iastore, 79, 1), (79, .aload_n 0, 80, 1), (80, .getfield 11, 83, 3), (83, .iconst 3, 84, 1), (84, .aload_n 0, 85, 1), (85, .getfield 15, 88, 3), (88, .getfield 171, 91, 3), (91, .iload 4, 93, 2), (93, .iconst 2, 94, 1), (94, .invokevirtual 72, 97, 3), (97, .iastore, 98, 1), (98, .aload_n 0, 99, 1), (99, .getfield 11, 102, 3), (102, .iconst 4, 103, 1), (103, .aload_n 0, 104, 1), (104, .getfield 15, 107, 3), (107, .getfield 120, 110, 3), (110, .iload_n 3, 111, 1), (111, .iconst 2, 112, 1), (112, .invokevirtual 72, 115, 3), (115, .iastore, 116, 1), (116, .aload_n 0, 117, 1), (117, .getfield 11, 120, 3), (120, .iconst 5, 121, 1), (121, .iload 5, 123, 2), (123, .ifCond .eq 12, 126, 3), (126, .aload_n 1, 127, 1), (127, .getfield 99, 130, 3), (130, .iload_n 2, 131, 1), (131, .iaload, 132, 1), (132, .goto 4, 135, 3), (135, .iconst 0, 136, 1), (136, .iastore, 137, 1), (137, .aload_n 0, 138, 1), (138, .getfield 11, 141, 3), (141, .bipush 6, 143, 2), (143, .aload_n 1, 144, 1), (144, .getfield 30, 147, 3), (147, .iastore, 148, 1), (148, .aload_n 0, 149, 1), (149, .getfield 11, 152, 3), (152, .areturn, 153, 1)])
theorem ok0_namesOf : MOk m0_namesOf := ⟨by decide, mem_g 878 (by decide +kernel) rfl, ini0, ⟨by decide, by decide⟩, by decide, by unfold MDe; decide +kernel⟩
def m0_within : MD := (yX0_within, cX0_within, 5, (some (Jvm.ClassFile.FieldType.int)), [(0, .lload_n 0, 1, 1), (1, .ldc2_w 153, 4, 3), (4, .lcmp, 5, 1), (5, .ifCond .ne 6, 8, 3), (8, .iload 4, 10, 2), (10, .ireturn, 11, 1), (11, .iload_n 2, 12, 1), (12, .i2l, 13, 1), (13, .iload_n 3, 14, 1), (14, .i2l, 15, 1), (15, .lload_n 0, 16, 1), (16, .invokestatic 174, 19, 3), (19, .invokestatic 177, 22, 3), (22, .l2i, 23, 1), (23, .ireturn, 24, 1)])
theorem ok0_within : MOk m0_within := ⟨by decide, mem_g 904 (by decide +kernel) rfl, ini0, ⟨by decide, by decide⟩, by decide, by unfold MDe; decide +kernel⟩
def m1_init : MD := (yX1_init, cX1_init, 1, none, [(0, .aload_n 0, 1, 1), (1, .invokespecial 3, 4, 3), (4, .aload_n 0, 5, 1), (5, .bipush 64, 7, 2), (7, .newarray .int, 9, 2), (9, .putfield 9, 12, 3), (12, .aload_n 0, 13, 1), (13, .iconst 3, 14, 1), (14, .newarray .int, 16, 2), (16, .putfield 15, 19, 3), (19, .aload_n 0, 20, 1), (20, .iconst 3, 21, 1), (21, .newarray .int, 23, 2), (23, .putfield 18, 26, 3), (26, .aload_n 0, 27, 1), (27, .bipush 64, 29, 2), (29, .newarray .long, 31, 2), (31, .putfield 21, 34, 3), (34, .return_, 35, 1)])
theorem ok1_init : MOk m1_init := ⟨by decide, mem_g 179 (by decide +kernel) rfl, ini1, ⟨by decide, by decide⟩, by decide, by unfold MDe; decide +kernel⟩
def m1_clear : MD := (yX1_clear, cX1_clear, 1, none, [(0, .aload_n 0, 1, 1), (1, .iconst 0, 2, 1), (2, .putfield 25, 5, 3), (5, .aload_n 0, 6, 1), (6, .iconst 0, 7, 1), (7, .putfield 29, 10, 3), (10, .aload_n 0, 11, 1), (11, .iconst 0, 12, 1), (12, .putfield 32, 15, 3), (15, .return_, 16, 1)])
theorem ok1_clear : MOk m1_clear := ⟨by decide, mem_g 580 (by decide +kernel) rfl, ini1, ⟨by decide, by decide⟩, by decide, by unfold MDe; decide +kernel⟩
def m1_take : MD := (yX1_take, cX1_take, 2, none, [(0, .aload_n 1, 1, 1), (1, .getfield 9, 4, 3), (4, .iconst 0, 5, 1), (5, .aload_n 0, 6, 1), (6, .getfield 9, 9, 3), (9, .iconst 0, 10, 1), (10, .bipush 64, 12, 2), (12, .invokestatic 35, 15, 3), (15, .aload_n 1, 16, 1), (16, .getfield 15, 19, 3), (19, .iconst 0, 20, 1), (20, .aload_n 0, 21, 1), (21, .getfield 15, 24, 3), (24, .iconst 0, 25, 1), (25, .iconst 3, 26, 1), (26, .invokestatic 35, 29, 3), (29, .aload_n 1, 30, 1), (30, .getfield 18, 33, 3), (33, .iconst 0, 34, 1), (34, .aload_n 0, 35, 1), (35, .getfield 18, 38, 3), (38, .iconst 0, 39, 1), (39, .iconst 3, 40, 1), (40, .invokestatic 35, 43, 3), (43, .aload_n 0, 44, 1), (44, .aload_n 1, 45, 1), (45, .getfield 25, 48, 3), (48, .putfield 25, 51, 3), (51, .aload_n 0, 52, 1), (52, .aload_n 1, 53, 1), (53, .getfield 32, 56, 3), (56, .putfield 32, 59, 3), (59, .aload_n 0, 60, 1), (60, .aload_n 1, 61, 1), (61, .getfield 29, 64, 3), (64, .putfield 29, 67, 3), (67, .return_, 68, 1)])
theorem ok1_take : MOk m1_take := ⟨by decide, mem_g 816 (by decide +kernel) rfl, ini1, ⟨by decide, by decide⟩, by decide, by unfold MDe; decide +kernel⟩
def m1_has : MD := (yX1_has, cX1_has, 2, (some (Jvm.ClassFile.FieldType.boolean)), [(0, .iload_n 1, 1, 1), (1, .ifCond .lt 23, 4, 3), (4, .iload_n 1, 5, 1), (5, .iconst 3, 6, 1), (6, .if_icmp .ge 18, 9, 3), (9, .aload_n 0, 10, 1), (10, .getfield 32, 13, 3), (13, .iload_n 1, 14, 1), (14, .invokestatic 41, 17, 3), (17, .ifCond .eq 7, 20, 3), (20, .iconst 1, 21, 1), (21, .goto 4, 24, 3), (24, .iconst 0, 25, 1), (25, .ireturn, 26, 1)])
theorem ok1_has : MOk m1_has := ⟨by decide, mem_g 738 (by decide +kernel) rfl, ini1, ⟨by decide, by decide⟩, by decide, by unfold MDe; decide +kernel⟩
def m1_begin : MD := (yX1_begin, cX1_begin, 2, none, [(0, .iload_n 1, 1, 1), (1, .ifCond .lt 40, 4, 3), (4, .iload_n 1, 5, 1), (5, .iconst 3, 6, 1), (6, .if_icmp .ge 35, 9, 3), (9, .aload_n 0, 10, 1), (10, .dup, 11, 1), (11, .getfield 32, 14, 3), (14, .iconst 1, 15, 1), (15, .iload_n 1, 16, 1), (16, .ishl, 17, 1), (17, .ior, 18, 1), (18, .putfield 32, 21, 3), (21, .aload_n 0, 22, 1), (22, .getfield 15, 25, 3), (25, .iload_n 1, 26, 1), (26, .aload_n 0, 27, 1), (27, .getfield 25, 30, 3), (30, .iastore, 31, 1), (31, .aload_n 0, 32, 1), (32, .getfield 18, 35, 3), (35, .iload_n 1, 36, 1), (36, .aload_n 0, 37, 1), (37, .getfield 25, 40, 3), (40, .iastore, 41, 1), (41, .return_, 42, 1)])
theorem ok1_begin : MOk m1_begin := ⟨by decide, mem_g 745 (by decide +kernel) rfl, ini1, ⟨by decide, by decide⟩, by decide, by unfold MDe; decide +kernel⟩
def m1_end : MD := (yX1_end, cX1_end, 2, none, [(0, .iload_n 1, 1, 1), (1, .ifCond .lt 18, 4, 3), (4, .iload_n 1, 5, 1), (5, .iconst 3, 6, 1), (6, .if_icmp .ge 13, 9, 3), (9, .aload_n 0, 10, 1), (10, .getfield 18, 13, 3), (13, .iload_n 1, 14, 1), (14, .aload_n 0, 15, 1), (15, .getfield 25, 18, 3), (18, .iastore, 19, 1), (19, .return_, 20, 1)])
theorem ok1_end : MOk m1_end := ⟨by decide, mem_g 800 (by decide +kernel) rfl, ini1, ⟨by decide, by decide⟩, by decide, by unfold MDe; decide +kernel⟩
def m1_emit : MD := (yX1_emit, cX1_emit, 2, none, [(0, .aload_n 0, 1, 1), (1, .getfield 25, 4, 3), (4, .bipush 64, 6, 2), (6, .if_icmp .ge 23, 9, 3), (9, .aload_n 0, 10, 1), (10, .getfield 9, 13, 3), (13, .aload_n 0, 14, 1), (14, .getfield 25, 17, 3), (17, .iload_n 1, 18, 1), (18, .iastore, 19, 1), (19, .aload_n 0, 20, 1), (20, .dup, 21, 1), (21, .getfield 25, 24, 3), (24, .iconst 1, 25, 1), (25, .iadd, 26, 1), (26, .putfield 25, 29, 3), (29, .return_, 30, 1)])
theorem ok1_emit : MOk m1_emit := ⟨by decide, mem_g 785 (by decide +kernel) rfl, ini1, ⟨by decide, by decide⟩, by decide, by unfold MDe; decide +kernel⟩
def m1_work : MD := (yX1_work, cX1_work, 6, (some (Jvm.ClassFile.FieldType.long)), [(0, .aload_n 0, 1, 1), (1, .iload_n 1, 2, 1), (2, .invokevirtual 45, 5, 3), (5, .ifCond .ne 7, 8, 3), (8, .ldc2_w 49, 11, 3), (11, .lreturn, 12, 1), (12, .iconst 0, 13, 1), (13, .istore_n 3, 14, 1), (14, .aload_n 0, 15, 1), (15, .getfield 15, 18, 3), (18, .iload_n 1, 19, 1), (19, .iaload, 20, 1), (20, .istore 4, 22, 2), (22, .iload 4, 24, 2), (24, .aload_n 0, 25, 1), (25, .getfield 18, 28, 3), (28, .iload_n 1, 29, 1), (29, .iaload, 30, 1), (30, .if_icmp .ge 184, 33, 3), (33, .aload_n 0, 34, 1), (34, .getfield 9, 37, 3), (37, .iload 4, 39, 2), (39, .iaload, 40, 1), (40, .ineg, 41, 1), (41, .istore 5, 43, 2), (43, .iload 5, 45, 2), (45, .ifCond .gt 19, 48, 3), (48, .aload_n 0, 49, 1), (49, .getfield 21, 52, 3), (52, .iload_n 3, 53, 1), (53, .iload 5, 55, 2), (55, .ineg, 56, 1), (56, .i2l, 57, 1), (57, .lastore, 58, 1), (58, .iinc 3 1, 61, 3), (61, .goto 147, 64, 3), (64, .iload 5, 66, 2), (66, .bipush 12, 68, 2), (68, .if_icmp .lt 30, 71, 3), (71, .iload 5, 73, 2), (73, .bipush 18, 75, 2), (75, .if_icmp .gt 23, 78, 3), (78, .aload_n 0, 79, 1), (79, .getfield 21, 82, 3), (82, .iload_n 3, 83, 1), (83, .aload_n 2, 84, 1), (84, .iload 5, 86, 2), (86, .bipush 12, 88, 2), (88, .isub, 89, 1), (89, .iaload, 90, 1), (90, .i2l, 91, 1), (91, .lastore, 92, 1), (92, .iinc 3 1, 95, 3), (95, .goto 113, 98, 3), (98, .iload 5, 100, 2), (100, .bipush 19, 102, 2), (102, .if_icmp .ne 37, 105, 3), (105, .iload_n 3, 106, 1), (106, .iconst 1, 107, 1), (107, .if_icmp .lt 32, 110, 3), (110, .aload_n 0, 111, 1), (111, .getfield 21, 114, 3), (114, .iload_n 3, 115, 1), (115, .iconst 1, 116, 1), (116, .isub, 117, 1), (117, .aload_n 0, 118, 1), (118, .getfield 21, 121, 3), (121, .iload_n 3, 122, 1), (122, .iconst 1, 123, 1), (123, .isub, 124, 1), (124, .laload, 125, 1), (125, .lconst 0, 126, 1), (126, .lcmp, 127, 1), (127, .ifCond .ne 7, 130, 3), (130, .lconst 1, 131, 1), (131, .goto 4, 134, 3), (134, .lconst 0, 135, 1), (135, .lastore, 136, 1), (136, .goto 72, 139, 3), (139, .iload_n 3, 140, 1), (140, .iconst 2, 141, 1), (141, .if_icmp .lt 67, 144, 3), (144, .iinc 3 (-1), 147, 3), (147, .aload_n 0, 148, 1), (148, .getfield 21, 151, 3), (151, .iload_n 3, 152, 1), (152, .iconst 1, 153, 1), (153, .isub, 154, 1), (154, .iload 5, 156, 2), (156, .aload_n 0, 157, 1), (157, .getfield 21, 160, 3), (160, .iload_n 3, 161, 1), (161, .iconst 1, 162, 1), (162, .isub, 163, 1), (163, .laload, 164, 1), (164, .aload_n 0, 165, 1), (165, .getfield 21, 168, 3), (168, .iload_n 3, 169, 1), (169, .laload, 170, 1), (170, .invokestatic 53, 173, 3), (173, .lastore, 174, 1), (174, .aload_n 0, 175, 1), (175, .getfield 21, 178, 3), (178, .iload_n 3, 179, 1), (179, .iconst 1, 180, 1), (180, .isub, 181, 1), (181, .laload, 182, 1), (182, .ldc2_w 57, 185, 3), (185, .lcmp, 186, 1), (186, .ifCond .gt 18, 189, 3), (189, .aload_n 0, 190, 1), (190, .getfield 21, 193, 3), (193, .iload_n 3, 194, 1), (194, .iconst 1, 195, 1), (195, .isub, 196, 1), (196, .laload, 197, 1), (197, .ldc2_w 59, 200, 3), (200, .lcmp, 201, 1), (201, .ifCond .ge 7, 204, 3), (204, .ldc2_w 49, 207, 3), (207, .lreturn, 208, 1), (208, .iinc 4 1, 211, 3), (211, .goto (-189), 214, 3), (214, .iload_n 3, 215, 1), (215, .iconst 1, 216, 1), (216, .if_icmp .ne 12, 219, 3), (219, .aload_n 0, 220, 1), (220, .getfield 21, 223, 3), (223, .iconst 0, 224, 1), (224, .laload, 225, 1), (225, .goto 6, 228, 3), (228, .ldc2_w 49, 231, 3), (231, .lreturn, 232, 1)])
theorem ok1_work : MOk m1_work := ⟨by decide, mem_g 884 (by decide +kernel) rfl, ini1, ⟨by decide, by decide⟩, by decide, by unfold MDe; decide +kernel⟩
def m1_joined : MD := (yX1_joined, cX1_joined, 7, (some (Jvm.ClassFile.FieldType.long)), [(0, .iload_n 0, 1, 1), (1, .lookupswitch 294 #[(20, 125), (21, 107), (42, 223), (43, 215), (45, 219), (47, 278), (60, 143), (61, 167), (62, 203), (256, 155), (257, 191), (258, 179)], 108, 107), (108, .lload_n 1, 109, 1), (109, .lconst 0, 110, 1), (110, .lcmp, 111, 1), (111, .ifCond .ne 9, 114, 3), (114, .lload_n 3, 115, 1), (115, .lconst 0, 116, 1), (116, .lcmp, 117, 1), (117, .ifCond .eq 7, 120, 3), (120, .lconst 1, 121, 1), (121, .goto 4, 124, 3), (124, .lconst 0, 125, 1), (125, .lreturn, 126, 1), (126, .lload_n 1, 127, 1), (127, .lconst 0, 128, 1), (128, .lcmp, 129, 1), (129, .ifCond .eq 13, 132, 3), (132, .lload_n 3, 133, 1), (133, .lconst 0, 134, 1), (134, .lcmp, 135, 1), (135, .ifCond .eq 7, 138, 3), (138, .lconst 1, 139, 1), (139, .goto 4, 142, 3), (142, .lconst 0, 143, 1), (143, .lreturn, 144, 1), (144, .lload_n 1, 145, 1), (145, .lload_n 3, 146, 1), (146, .lcmp, 147, 1), (147, .ifCond .ge 7, 150, 3), (150, .lconst 1, 151, 1), (151, .goto 4, 154, 3), (154, .lconst 0, 155, 1), (155, .lreturn, 156, 1), (156, .lload_n 1, 157, 1), (157, .lload_n 3, 158, 1), (158, .lcmp, 159, 1), (159, .ifCond .gt 7, 162, 3), (162, .lconst 1, 163, 1), (163, .goto 4, 166, 3), (166, .lconst 0, 167, 1), (167, .lreturn, 168, 1), (168, .lload_n 1, 169, 1), (169, .lload_n 3, 170, 1), (170, .lcmp, 171, 1), (171, .ifCond .ne 7, 174, 3), (174, .lconst 1, 175, 1), (175, .goto 4, 178, 3), (178, .lconst 0, 179, 1), (179, .lreturn, 180, 1), (180, .lload_n 1, 181, 1), (181, .lload_n 3, 182, 1), (182, .lcmp, 183, 1), (183, .ifCond .eq 7, 186, 3), (186, .lconst 1, 187, 1), (187, .goto 4, 190, 3), (190, .lconst 0, 191, 1), (191, .lreturn, 192, 1), (192, .lload_n 1, 193, 1), (193, .lload_n 3, 194, 1), (194, .lcmp, 195, 1), (195, .ifCond .lt 7, 198, 3), (198, .lconst 1, 199, 1), (199, .goto 4, 202, 3), (202, .lconst 0, 203, 1), (203, .lreturn, 204, 1), (204, .lload_n 1, 205, 1), (205, .lload_n 3, 206, 1), (206, .lcmp, 207, 1), (207, .ifCond .le 7, 210, 3), (210, .lconst 1, 211, 1), (211, .goto 4, 214, 3), (214, .lconst 0, 215, 1), (215, .lreturn, 216, 1), (216, .lload_n 1, 217, 1), (217, .lload_n 3, 218, 1), (218, .ladd, 219, 1), (219, .lreturn, 220, 1), (220, .lload_n 1, 221, 1), (221, .lload_n 3, 222, 1), (222, .lsub, 223, 1), (223, .lreturn, 224, 1), (224, .lload_n 1, 225, 1), (225, .lconst 0, 226, 1), (226, .lcmp, 227, 1), (227, .ifCond .ne 9, 230, 3), (230, .ldc2_w 57, 233, 3), (233, .goto 19, 236, 3), (236, .ldc2_w 57, 239, 3), (239, .lload_n 1, 240, 1), (240, .lconst 0, 241, 1), (241, .lcmp, 242, 1), (242, .ifCond .ge 8, 245, 3), (245, .lload_n 1, 246, 1), (246, .lneg, 247, 1), (247, .goto 4, 250, 3), (250, .lload_n 1, 251, 1), (251, .ldiv, 252, 1), (252, .lstore 5, 254, 2), (254, .lload_n 3, 255, 1), (255, .lload 5, 257, 2), (257, .lcmp, 258, 1), (258, .ifCond .gt 11, 261, 3), (261, .lload_n 3, 262, 1), (262, .lload 5, 264, 2), (264, .lneg, 265, 1), (265, .lcmp, 266, 1), (266, .ifCond .ge 9, 269, 3), (269, .ldc2_w 49, 272, 3), (272, .goto 6, 275, 3), (275, .lload_n 1, 276, 1), (276, .lload_n 3, 277, 1), (277, .lmul, 278, 1), (278, .lreturn, 279, 1), (279, .lload_n 3, 280, 1), (280, .lconst 0, 281, 1), (281, .lcmp, 282, 1), (282, .ifCond .ne 9, 285, 3), (285, .ldc2_w 49, 288, 3), (288, .goto 6, 291, 3), (291, .lload_n 1, 292, 1), (292, .lload_n 3, 293, 1), (293, .ldiv, 294, 1), (294, .lreturn, 295, 1), (295, .ldc2_w 49, 298, 3), (298, .lreturn, 299, 1)])
theorem ok1_joined : MOk m1_joined := ⟨by decide, mem_g 889 (by decide +kernel) rfl, ini1, ⟨by decide, by decide⟩, by decide, by unfold MDe; decide +kernel⟩
def m2_init : MD := (yX2_init, cX2_init, 1, none, [(0, .aload_n 0, 1, 1), (1, .invokespecial 3, 4, 3), (4, .aload_n 0, 5, 1), (5, .new 9, 8, 3), (8, .dup, 9, 1), (9, .invokespecial 11, 12, 3), (12, .putfield 12, 15, 3), (15, .aload_n 0, 16, 1), (16, .new 18, 19, 3), (19, .dup, 20, 1), (20, .invokespecial 20, 23, 3), (23, .putfield 21, 26, 3), (26, .aload_n 0, 27, 1), (27, .iconst (-1), 28, 1), (28, .putfield 25, 31, 3), (31, .return_, 32, 1)])
theorem ok2_init : MOk m2_init := ⟨by decide, mem_g 141 (by decide +kernel) rfl, ini2, ⟨by decide, by decide⟩, by decide, by unfold MDe; decide +kernel⟩
def m2_read : MD := (yX2_read, cX2_read, 4, none, [(0, .aload_n 0, 1, 1), (1, .getfield 12, 4, 3), (4, .invokevirtual 29, 7, 3), (7, .aload_n 0, 8, 1), (8, .iconst 0, 9, 1), (9, .putfield 32, 12, 3), (12, .aload_n 0, 13, 1), (13, .iconst 0, 14, 1), (14, .putfield 35, 17, 3), (17, .aload_n 0, 18, 1), (18, .iconst (-1), 19, 1), (19, .putfield 25, 22, 3), (22, .aload_n 0, 23, 1), (23, .iconst 0, 24, 1), (24, .putfield 38, 27, 3), (27, .aload_n 0, 28, 1), (28, .getfield 21, 31, 3), (31, .aload_n 1, 32, 1), (32, .iload_n 2, 33, 1), (33, .invokevirtual 41, 36, 3), (36, .aload_n 0, 37, 1), (37, .getfield 21, 40, 3), (40, .invokevirtual 45, 43, 3), (43, .iconst 0, 44, 1), (44, .istore_n 3, 45, 1), (45, .iload_n 3, 46, 1), (46, .iload_n 2, 47, 1), (47, .if_icmp .ge 46, 50, 3), (50, .aload_n 0, 51, 1), (51, .getfield 35, 54, 3), (54, .ifCond .ne 39, 57, 3), (57, .aload_n 0, 58, 1), (58, .getfield 21, 61, 3), (61, .getfield 48, 64, 3), (64, .ifCond .eq 29, 67, 3), (67, .aload_n 0, 68, 1), (68, .invokevirtual 51, 71, 3), (71, .aload_n 0, 72, 1), (72, .bipush 59, 74, 2), (74, .invokevirtual 54, 77, 3), (77, .aload_n 0, 78, 1), (78, .dup, 79, 1), (79, .getfield 38, 82, 3), (82, .iconst 1, 83, 1), (83, .iadd, 84, 1), (84, .putfield 38, 87, 3), (87, .iinc 3 1, 90, 3), (90, .goto (-45), 93, 3), (93, .return_, 94, 1)])
theorem ok2_read : MOk m2_read := ⟨by decide, mem_g 572 (by decide +kernel) rfl, ini2, ⟨by decide, by decide⟩, by decide, by unfold MDe; decide +kernel⟩
def m2_fail : MD := (yX2_fail, cX2_fail, 2, none, [(0, .aload_n 0, 1, 1), (1, .getfield 35, 4, 3), (4, .ifCond .ne 19, 7, 3), (7, .aload_n 0, 8, 1), (8, .iload_n 1, 9, 1), (9, .putfield 35, 12, 3), (12, .aload_n 0, 13, 1), (13, .aload_n 0, 14, 1), (14, .getfield 21, 17, 3), (17, .getfield 58, 20, 3), (20, .putfield 25, 23, 3), (23, .aload_n 0, 24, 1), (24, .getfield 21, 27, 3), (27, .iconst (-1), 28, 1), (28, .putfield 48, 31, 3), (31, .return_, 32, 1)])
theorem ok2_fail : MOk m2_fail := ⟨by decide, mem_g 687 (by decide +kernel) rfl, ini2, ⟨by decide, by decide⟩, by decide, by unfold MDe; decide +kernel⟩
def m2_expect : MD := (yX2_expect, cX2_expect, 2, none, [(0, .aload_n 0, 1, 1), (1, .getfield 21, 4, 3), (4, .getfield 48, 7, 3), (7, .iload_n 1, 8, 1), (8, .if_icmp .eq 8, 11, 3), (11, .aload_n 0, 12, 1), (12, .iconst 1, 13, 1), (13, .invokevirtual 59, 16, 3), (16, .aload_n 0, 17, 1), (17, .getfield 21, 20, 3), (20, .invokevirtual 45, 23, 3), (23, .return_, 24, 1)])
theorem ok2_expect : MOk m2_expect := ⟨by decide, mem_g 793 (by decide +kernel) rfl, ini2, ⟨by decide, by decide⟩, by decide, by unfold MDe; decide +kernel⟩
def m2_line : MD := (yX2_line, cX2_line, 1, none, [(0, .aload_n 0, 1, 1), (1, .getfield 21, 4, 3), (4, .getfield 48, 7, 3), (7, .tableswitch 128 1 8 #[45, 52, 59, 66, 73, 89, 105, 121], 52, 45), (52, .aload_n 0, 53, 1), (53, .invokevirtual 62, 56, 3), (56, .goto 84, 59, 3), (59, .aload_n 0, 60, 1), (60, .invokevirtual 65, 63, 3), (63, .goto 77, 66, 3), (66, .aload_n 0, 67, 1), (67, .invokevirtual 68, 70, 3), (70, .goto 70, 73, 3), (73, .aload_n 0, 74, 1), (74, .invokevirtual 71, 77, 3), (77, .goto 63, 80, 3), (80, .aload_n 0, 81, 1), (81, .getfield 12, 84, 3), (84, .aload_n 0, 85, 1), (85, .bipush 20, 87, 2), (87, .invokevirtual 74, 90, 3), (90, .putfield 78, 93, 3), (93, .goto 47, 96, 3), (96, .aload_n 0, 97, 1), (97, .getfield 12, 100, 3), (100, .aload_n 0, 101, 1), (101, .bipush 100, 103, 2), (103, .invokevirtual 74, 106, 3), (106, .putfield 81, 109, 3), (109, .goto 31, 112, 3), (112, .aload_n 0, 113, 1), (113, .getfield 12, 116, 3), (116, .aload_n 0, 117, 1), (117, .ldc 84, 119, 2), (119, .invokevirtual 74, 122, 3), (122, .putfield 85, 125, 3), (125, .goto 15, 128, 3), (128, .aload_n 0, 129, 1), (129, .invokevirtual 88, 132, 3), (132, .goto 8, 135, 3), (135, .aload_n 0, 136, 1), (136, .iconst 1, 137, 1), (137, .invokevirtual 59, 140, 3), (140, .return_, 141, 1)])
theorem ok2_line : MOk m2_line := ⟨by decide, mem_g 671 (by decide +kernel) rfl, ini2, ⟨by decide, by decide⟩, by decide, by unfold MDe; decide +kernel⟩
def m2_kindLine : MD := (yX2_kindLine, cX2_kindLine, 4, none, [(0, .aload_n 0, 1, 1), (1, .aload_n 0, 2, 1), (2, .getfield 12, 5, 3), (5, .getfield 91, 8, 3), (8, .invokevirtual 95, 11, 3), (11, .aload_n 0, 12, 1), (12, .aload_n 0, 13, 1), (13, .getfield 12, 16, 3), (16, .getfield 91, 19, 3), (19, .invokevirtual 99, 22, 3), (22, .istore_n 1, 23, 1), (23, .aload_n 0, 24, 1), (24, .iconst 1, 25, 1), (25, .bipush 99, 27, 2), (27, .invokevirtual 103, 30, 3), (30, .istore_n 2, 31, 1), (31, .aload_n 0, 32, 1), (32, .iconst 0, 33, 1), (33, .bipush 9, 35, 2), (35, .invokevirtual 103, 38, 3), (38, .istore_n 3, 39, 1), (39, .aload_n 0, 40, 1), (40, .getfield 12, 43, 3), (43, .getfield 91, 46, 3), (46, .invokevirtual 107, 49, 3), (49, .aload_n 0, 50, 1), (50, .getfield 12, 53, 3), (53, .getfield 91, 56, 3), (56, .iconst 0, 57, 1), (57, .iload_n 1, 58, 1), (58, .invokevirtual 112, 61, 3), (61, .aload_n 0, 62, 1), (62, .getfield 12, 65, 3), (65, .getfield 91, 68, 3), (68, .iconst 1, 69, 1), (69, .iload_n 2, 70, 1), (70, .invokevirtual 112, 73, 3), (73, .aload_n 0, 74, 1), (74, .getfield 12, 77, 3), (77, .getfield 91, 80, 3), (80, .iconst 2, 81, 1), (81, .iload_n 3, 82, 1), (82, .invokevirtual 112, 85, 3), (85, .return_, 86, 1)])
theorem ok2_kindLine : MOk m2_kindLine := ⟨by decide, mem_g 675 (by decide +kernel) rfl, ini2, ⟨by decide, by decide⟩, by decide, by unfold MDe; decide +kernel⟩
def m2_tinLine : MD := (yX2_tinLine, cX2_tinLine, 6, none, [(0, .aload_n 0, 1, 1), (1, .aload_n 0, 2, 1), (2, .getfield 12, 5, 3), (5, .getfield 116, 8, 3), (8, .invokevirtual 95, 11, 3), (11, .aload_n 0, 12, 1), (12, .aload_n 0, 13, 1), (13, .getfield 12, 16, 3), (16, .getfield 116, 19, 3), (19, .invokevirtual 99, 22, 3), (22, .istore_n 1, 23, 1), (23, .aload_n 0, 24, 1), (24, .aload_n 0, 25, 1), (25, .getfield 12, 28, 3), (28, .getfield 91, 31, 3), (31, .invokevirtual 119, 34, 3), (34, .istore_n 2, 35, 1), (35, .aload_n 0, 36, 1), (36, .iconst 0, 37, 1), (37, .bipush 9, 39, 2), (39, .invokevirtual 103, 42, 3), (42, .istore_n 3, 43, 1), (43, .aload_n 0, 44, 1), (44, .iconst 1, 45, 1), (45, .bipush 99, 47, 2), (47, .invokevirtual 103, 50, 3), (50, .istore 4, 52, 2), (52, .aload_n 0, 53, 1), (53, .iconst 0, 54, 1), (54, .iconst 3, 55, 1), (55, .invokevirtual 103, 58, 3), (58, .istore 5, 60, 2), (60, .aload_n 0, 61, 1), (61, .getfield 12, 64, 3), (64, .getfield 116, 67, 3), (67, .invokevirtual 107, 70, 3), (70, .aload_n 0, 71, 1), (71, .getfield 12, 74, 3), (74, .getfield 116, 77, 3), (77, .iconst 0, 78, 1), (78, .iload_n 1, 79, 1), (79, .invokevirtual 112, 82, 3), (82, .aload_n 0, 83, 1), (83, .getfield 12, 86, 3), (86, .getfield 116, 89, 3), (89, .iconst 1, 90, 1), (90, .iload_n 2, 91, 1), (91, .invokevirtual 112, 94, 3), (94, .aload_n 0, 95, 1), (95, .getfield 12, 98, 3), (98, .getfield 116, 101, 3), (101, .iconst 2, 102, 1), (102, .iload_n 3, 103, 1), (103, .invokevirtual 112, 106, 3), (106, .aload_n 0, 107, 1), (107, .getfield 12, 110, 3), (110, .getfield 116, 113, 3), (113, .iconst 3, 114, 1), (114, .iload 4, 116, 2), (116, .invokevirtual 112, 119, 3), (119, .aload_n 0, 120, 1), (120, .getfield 12, 123, 3), (123, .getfield 116, 126, 3), (126, .iconst 4, 127, 1), (127, .iload 5, 129, 2), (129, .invokevirtual 112, 132, 3), (132, .return_, 133, 1)])
theorem ok2_tinLine : MOk m2_tinLine := ⟨by decide, mem_g 712 (by decide +kernel) rfl, ini2, ⟨by decide, by decide⟩, by decide, by unfold MDe; decide +kernel⟩
def m2_openLine : MD := (yX2_openLine, cX2_openLine, 3, none, [(0, .aload_n 0, 1, 1), (1, .aload_n 0, 2, 1), (2, .getfield 12, 5, 3), (5, .getfield 122, 8, 3), (8, .invokevirtual 95, 11, 3), (11, .aload_n 0, 12, 1), (12, .aload_n 0, 13, 1), (13, .getfield 12, 16, 3), (16, .getfield 116, 19, 3), (19, .invokevirtual 119, 22, 3), (22, .istore_n 1, 23, 1), (23, .aload_n 0, 24, 1), (24, .iconst 0, 25, 1), (25, .bipush 99, 27, 2), (27, .invokevirtual 103, 30, 3), (30, .istore_n 2, 31, 1), (31, .aload_n 0, 32, 1), (32, .getfield 12, 35, 3), (35, .getfield 122, 38, 3), (38, .invokevirtual 107, 41, 3), (41, .aload_n 0, 42, 1), (42, .getfield 12, 45, 3), (45, .getfield 122, 48, 3), (48, .iconst 0, 49, 1), (49, .iload_n 1, 50, 1), (50, .invokevirtual 112, 53, 3), (53, .aload_n 0, 54, 1), (54, .getfield 12, 57, 3), (57, .getfield 122, 60, 3), (60, .iconst 1, 61, 1), (61, .iload_n 2, 62, 1), (62, .invokevirtual 112, 65, 3), (65, .aload_n 0, 66, 1), (66, .getfield 12, 69, 3), (69, .aload_n 0, 70, 1), (70, .getfield 12, 73, 3), (73, .getfield 125, 76, 3), (76, .iload_n 2, 77, 1), (77, .invokestatic 128, 80, 3), (80, .putfield 125, 83, 3), (83, .return_, 84, 1)])
theorem ok2_openLine : MOk m2_openLine := ⟨by decide, mem_g 721 (by decide +kernel) rfl, ini2, ⟨by decide, by decide⟩, by decide, by unfold MDe; decide +kernel⟩
def m2_wantLine : MD := (yX2_wantLine, cX2_wantLine, 4, none, [(0, .aload_n 0, 1, 1), (1, .aload_n 0, 2, 1), (2, .getfield 12, 5, 3), (5, .getfield 133, 8, 3), (8, .invokevirtual 95, 11, 3), (11, .aload_n 0, 12, 1), (12, .aload_n 0, 13, 1), (13, .getfield 12, 16, 3), (16, .getfield 91, 19, 3), (19, .invokevirtual 119, 22, 3), (22, .istore_n 1, 23, 1), (23, .aload_n 0, 24, 1), (24, .iconst 0, 25, 1), (25, .bipush 99, 27, 2), (27, .invokevirtual 103, 30, 3), (30, .istore_n 2, 31, 1), (31, .aload_n 0, 32, 1), (32, .iconst 1, 33, 1), (33, .bipush 99, 35, 2), (35, .invokevirtual 103, 38, 3), (38, .istore_n 3, 39, 1), (39, .aload_n 0, 40, 1), (40, .getfield 12, 43, 3), (43, .getfield 133, 46, 3), (46, .invokevirtual 107, 49, 3), (49, .aload_n 0, 50, 1), (50, .getfield 12, 53, 3), (53, .getfield 133, 56, 3), (56, .iconst 0, 57, 1), (57, .iload_n 1, 58, 1), (58, .invokevirtual 112, 61, 3), (61, .aload_n 0, 62, 1), (62, .getfield 12, 65, 3), (65, .getfield 133, 68, 3), (68, .iconst 1, 69, 1), (69, .iload_n 2, 70, 1), (70, .invokevirtual 112, 73, 3), (73, .aload_n 0, 74, 1), (74, .getfield 12, 77, 3), (77, .getfield 133, 80, 3), (80, .iconst 2, 81, 1), (81, .iload_n 3, 82, 1), (82, .invokevirtual 112, 85, 3), (85, .aload_n 0, 86, 1), (86, .getfield 12, 89, 3), (89, .aload_n 0, 90, 1), (90, .getfield 12, 93, 3), (93, .getfield 136, 96, 3), (96, .iload_n 2, 97, 1), (97, .invokestatic 128, 100, 3), (100, .putfield 136, 103, 3), (103, .return_, 104, 1)])
theorem ok2_wantLine : MOk m2_wantLine := ⟨by decide, mem_g 725 (by decide +kernel) rfl, ini2, ⟨by decide, by decide⟩, by decide, by unfold MDe; decide +kernel⟩
def m2_room : MD := (yX2_room, cX2_room, 2, none, [(0, .aload_n 1, 1, 1), (1, .invokevirtual 139, 4, 3), (4, .ifCond .eq 8, 7, 3), (7, .aload_n 0, 8, 1), (8, .iconst 2, 9, 1), (9, .invokevirtual 59, 12, 3), (12, .aload_n 0, 13, 1), (13, .getfield 21, 16, 3), (16, .invokevirtual 45, 19, 3), (19, .return_, 20, 1)])
theorem ok2_room : MOk m2_room := ⟨by decide, mem_g 679 (by decide +kernel) rfl, ini2, ⟨by decide, by decide⟩, by decide, by unfold MDe; decide +kernel⟩
def m2_onceLine : MD := (yX2_onceLine, cX2_onceLine, 3, (some (Jvm.ClassFile.FieldType.int)), [(0, .iconst 1, 1, 1), (1, .aload_n 0, 2, 1), (2, .getfield 21, 5, 3), (5, .getfield 48, 8, 3), (8, .ishl, 9, 1), (9, .istore_n 2, 10, 1), (10, .aload_n 0, 11, 1), (11, .getfield 32, 14, 3), (14, .iload_n 2, 15, 1), (15, .iand, 16, 1), (16, .ifCond .eq 8, 19, 3), (19, .aload_n 0, 20, 1), (20, .iconst 3, 21, 1), (21, .invokevirtual 59, 24, 3), (24, .aload_n 0, 25, 1), (25, .dup, 26, 1), (26, .getfield 32, 29, 3), (29, .iload_n 2, 30, 1), (30, .ior, 31, 1), (31, .putfield 32, 34, 3), (34, .aload_n 0, 35, 1), (35, .getfield 21, 38, 3), (38, .invokevirtual 45, 41, 3), (41, .aload_n 0, 42, 1), (42, .iconst 0, 43, 1), (43, .iload_n 1, 44, 1), (44, .invokevirtual 103, 47, 3), (47, .ireturn, 48, 1)])
theorem ok2_onceLine : MOk m2_onceLine := ⟨by decide, mem_g 729 (by decide +kernel) rfl, ini2, ⟨by decide, by decide⟩, by decide, by unfold MDe; decide +kernel⟩
def m2_newName : MD := (yX2_newName, cX2_newName, 3, (some (Jvm.ClassFile.FieldType.int)), [(0, .aload_n 0, 1, 1), (1, .getfield 21, 4, 3), (4, .getfield 143, 7, 3), (7, .istore_n 2, 8, 1), (8, .aload_n 0, 9, 1), (9, .getfield 21, 12, 3), (12, .getfield 48, 15, 3), (15, .bipush 22, 17, 2), (17, .if_icmp .eq 11, 20, 3), (20, .aload_n 0, 21, 1), (21, .iconst 1, 22, 1), (22, .invokevirtual 59, 25, 3), (25, .goto 17, 28, 3), (28, .aload_n 1, 29, 1), (29, .iload_n 2, 30, 1), (30, .invokevirtual 146, 33, 3), (33, .iconst (-1), 34, 1), (34, .if_icmp .eq 8, 37, 3), (37, .aload_n 0, 38, 1), (38, .iconst 3, 39, 1), (39, .invokevirtual 59, 42, 3), (42, .aload_n 0, 43, 1), (43, .getfield 21, 46, 3), (46, .invokevirtual 45, 49, 3), (49, .iload_n 2, 50, 1), (50, .ireturn, 51, 1)])
theorem ok2_newName : MOk m2_newName := ⟨by decide, mem_g 691 (by decide +kernel) rfl, ini2, ⟨by decide, by decide⟩, by decide, by unfold MDe; decide +kernel⟩
def m2_toldName : MD := (yX2_toldName, cX2_toldName, 3, (some (Jvm.ClassFile.FieldType.int)), [(0, .aload_n 1, 1, 1), (1, .aload_n 0, 2, 1), (2, .getfield 21, 5, 3), (5, .getfield 143, 8, 3), (8, .invokevirtual 146, 11, 3), (11, .istore_n 2, 12, 1), (12, .aload_n 0, 13, 1), (13, .getfield 21, 16, 3), (16, .getfield 48, 19, 3), (19, .bipush 22, 21, 2), (21, .if_icmp .eq 11, 24, 3), (24, .aload_n 0, 25, 1), (25, .iconst 1, 26, 1), (26, .invokevirtual 59, 29, 3), (29, .goto 13, 32, 3), (32, .iload_n 2, 33, 1), (33, .iconst (-1), 34, 1), (34, .if_icmp .ne 8, 37, 3), (37, .aload_n 0, 38, 1), (38, .iconst 4, 39, 1), (39, .invokevirtual 59, 42, 3), (42, .aload_n 0, 43, 1), (43, .getfield 21, 46, 3), (46, .invokevirtual 45, 49, 3), (49, .iload_n 2, 50, 1), (50, .iconst 0, 51, 1), (51, .invokestatic 128, 54, 3), (54, .ireturn, 55, 1)])
theorem ok2_toldName : MOk m2_toldName := ⟨by decide, mem_g 716 (by decide +kernel) rfl, ini2, ⟨by decide, by decide⟩, by decide, by unfold MDe; decide +kernel⟩
def m2_number : MD := (yX2_number, cX2_number, 4, (some (Jvm.ClassFile.FieldType.int)), [(0, .aload_n 0, 1, 1), (1, .getfield 21, 4, 3), (4, .getfield 143, 7, 3), (7, .istore_n 3, 8, 1), (8, .aload_n 0, 9, 1), (9, .getfield 21, 12, 3), (12, .getfield 48, 15, 3), (15, .bipush 23, 17, 2), (17, .if_icmp .eq 11, 20, 3), (20, .aload_n 0, 21, 1), (21, .iconst 1, 22, 1), (22, .invokevirtual 59, 25, 3), (25, .goto 18, 28, 3), (28, .iload_n 3, 29, 1), (29, .iload_n 1, 30, 1), (30, .if_icmp .lt 8, 33, 3), (33, .iload_n 3, 34, 1), (34, .iload_n 2, 35, 1), (35, .if_icmp .le 8, 38, 3), (38, .aload_n 0, 39, 1), (39, .iconst 2, 40, 1), (40, .invokevirtual 59, 43, 3), (43, .aload_n 0, 44, 1), (44, .getfield 21, 47, 3), (47, .invokevirtual 45, 50, 3), (50, .iload_n 3, 51, 1), (51, .ireturn, 52, 1)])
theorem ok2_number : MOk m2_number := ⟨by decide, mem_g 699 (by decide +kernel) rfl, ini2, ⟨by decide, by decide⟩, by decide, by unfold MDe; decide +kernel⟩
def m2_lawLine : MD := (yX2_lawLine, cX2_lawLine, 2, none, [(0, .aload_n 0, 1, 1), (1, .getfield 21, 4, 3), (4, .invokevirtual 45, 7, 3), (7, .aload_n 0, 8, 1), (8, .getfield 21, 11, 3), (11, .getfield 48, 14, 3), (14, .bipush 9, 16, 2), (16, .isub, 17, 1), (17, .istore_n 1, 18, 1), (18, .iload_n 1, 19, 1), (19, .ifCond .lt 8, 22, 3), (22, .iload_n 1, 23, 1), (23, .iconst 3, 24, 1), (24, .if_icmp .lt 9, 27, 3), (27, .aload_n 0, 28, 1), (28, .iconst 1, 29, 1), (29, .invokevirtual 59, 32, 3), (32, .return_, 33, 1), (33, .aload_n 0, 34, 1), (34, .getfield 12, 37, 3), (37, .getfield 149, 40, 3), (40, .iload_n 1, 41, 1), (41, .invokevirtual 153, 44, 3), (44, .ifCond .eq 8, 47, 3), (47, .aload_n 0, 48, 1), (48, .iconst 3, 49, 1), (49, .invokevirtual 59, 52, 3), (52, .aload_n 0, 53, 1), (53, .getfield 21, 56, 3), (56, .invokevirtual 45, 59, 3), (59, .aload_n 0, 60, 1), (60, .getfield 12, 63, 3), (63, .getfield 149, 66, 3), (66, .iload_n 1, 67, 1), (67, .invokevirtual 159, 70, 3), (70, .aload_n 0, 71, 1), (71, .iconst 0, 72, 1), (72, .invokevirtual 162, 75, 3), (75, .aload_n 0, 76, 1), (76, .getfield 12, 79, 3), (79, .getfield 149, 82, 3), (82, .iload_n 1, 83, 1), (83, .invokevirtual 165, 86, 3), (86, .return_, 87, 1)])
theorem ok2_lawLine : MOk m2_lawLine := ⟨by decide, mem_g 734 (by decide +kernel) rfl, ini2, ⟨by decide, by decide⟩, by decide, by unfold MDe; decide +kernel⟩
def m2_knot : MD := (yX2_knot, cX2_knot, 1, none, [(0, .aload_n 0, 1, 1), (1, .getfield 12, 4, 3), (4, .getfield 149, 7, 3), (7, .getfield 168, 10, 3), (10, .bipush 64, 12, 2), (12, .if_icmp .lt 8, 15, 3), (15, .aload_n 0, 16, 1), (16, .iconst 2, 17, 1), (17, .invokevirtual 59, 20, 3), (20, .aload_n 0, 21, 1), (21, .getfield 12, 24, 3), (24, .getfield 149, 27, 3), (27, .dup, 28, 1), (28, .getfield 168, 31, 3), (31, .iconst 1, 32, 1), (32, .iadd, 33, 1), (33, .putfield 168, 36, 3), (36, .aload_n 0, 37, 1), (37, .getfield 21, 40, 3), (40, .invokevirtual 45, 43, 3), (43, .return_, 44, 1)])
theorem ok2_knot : MOk m2_knot := ⟨by decide, mem_g 761 (by decide +kernel) rfl, ini2, ⟨by decide, by decide⟩, by decide, by unfold MDe; decide +kernel⟩
def m2_emit : MD := (yX2_emit, cX2_emit, 2, none, [(0, .aload_n 0, 1, 1), (1, .getfield 35, 4, 3), (4, .ifCond .ne 14, 7, 3), (7, .aload_n 0, 8, 1), (8, .getfield 12, 11, 3), (11, .getfield 149, 14, 3), (14, .iload_n 1, 15, 1), (15, .invokevirtual 171, 18, 3), (18, .return_, 19, 1)])
theorem ok2_emit : MOk m2_emit := ⟨by decide, mem_g 781 (by decide +kernel) rfl, ini2, ⟨by decide, by decide⟩, by decide, by unfold MDe; decide +kernel⟩
def m2_either : MD := (yX2_either, cX2_either, 3, none, [(0, .aload_n 0, 1, 1), (1, .iload_n 1, 2, 1), (2, .invokevirtual 174, 5, 3), (5, .iconst 0, 6, 1), (6, .istore_n 2, 7, 1), (7, .iload_n 2, 8, 1), (8, .bipush 64, 10, 2), (10, .if_icmp .ge 36, 13, 3), (13, .aload_n 0, 14, 1), (14, .getfield 21, 17, 3), (17, .getfield 48, 20, 3), (20, .bipush 21, 22, 2), (22, .if_icmp .ne 24, 25, 3), (25, .aload_n 0, 26, 1), (26, .invokevirtual 177, 29, 3), (29, .aload_n 0, 30, 1), (30, .iload_n 1, 31, 1), (31, .invokevirtual 174, 34, 3), (34, .aload_n 0, 35, 1), (35, .bipush (-21), 37, 2), (37, .invokevirtual 180, 40, 3), (40, .iinc 2 1, 43, 3), (43, .goto (-36), 46, 3), (46, .return_, 47, 1)])
theorem ok2_either : MOk m2_either := ⟨by decide, mem_g 749 (by decide +kernel) rfl, ini2, ⟨by decide, by decide⟩, by decide, by unfold MDe; decide +kernel⟩
def m2_both : MD := (yX2_both, cX2_both, 3, none, [(0, .aload_n 0, 1, 1), (1, .iload_n 1, 2, 1), (2, .invokevirtual 181, 5, 3), (5, .iconst 0, 6, 1), (6, .istore_n 2, 7, 1), (7, .iload_n 2, 8, 1), (8, .bipush 64, 10, 2), (10, .if_icmp .ge 36, 13, 3), (13, .aload_n 0, 14, 1), (14, .getfield 21, 17, 3), (17, .getfield 48, 20, 3), (20, .bipush 20, 22, 2), (22, .if_icmp .ne 24, 25, 3), (25, .aload_n 0, 26, 1), (26, .invokevirtual 177, 29, 3), (29, .aload_n 0, 30, 1), (30, .iload_n 1, 31, 1), (31, .invokevirtual 181, 34, 3), (34, .aload_n 0, 35, 1), (35, .bipush (-20), 37, 2), (37, .invokevirtual 180, 40, 3), (40, .iinc 2 1, 43, 3), (43, .goto (-36), 46, 3), (46, .return_, 47, 1)])
theorem ok2_both : MOk m2_both := ⟨by decide, mem_g 753 (by decide +kernel) rfl, ini2, ⟨by decide, by decide⟩, by decide, by unfold MDe; decide +kernel⟩
def m2_denied : MD := (yX2_denied, cX2_denied, 4, none, [(0, .iconst 0, 1, 1), (1, .istore_n 2, 2, 1), (2, .iload_n 2, 3, 1), (3, .bipush 64, 5, 2), (5, .if_icmp .gt 25, 8, 3), (8, .aload_n 0, 9, 1), (9, .getfield 21, 12, 3), (12, .getfield 48, 15, 3), (15, .bipush 19, 17, 2), (17, .if_icmp .ne 13, 20, 3), (20, .aload_n 0, 21, 1), (21, .invokevirtual 177, 24, 3), (24, .iinc 2 1, 27, 3), (27, .goto (-25), 30, 3), (30, .aload_n 0, 31, 1), (31, .iload_n 1, 32, 1), (32, .invokevirtual 184, 35, 3), (35, .iconst 0, 36, 1), (36, .istore_n 3, 37, 1), (37, .iload_n 3, 38, 1), (38, .iload_n 2, 39, 1), (39, .if_icmp .ge 15, 42, 3), (42, .aload_n 0, 43, 1), (43, .bipush (-19), 45, 2), (45, .invokevirtual 180, 48, 3), (48, .iinc 3 1, 51, 3), (51, .goto (-14), 54, 3), (54, .return_, 55, 1)])
theorem ok2_denied : MOk m2_denied := ⟨by decide, mem_g 757 (by decide +kernel) rfl, ini2, ⟨by decide, by decide⟩, by decide, by unfold MDe; decide +kernel⟩
def m2_compared : MD := (yX2_compared, cX2_compared, 3, none, [(0, .aload_n 0, 1, 1), (1, .iload_n 1, 2, 1), (2, .invokevirtual 187, 5, 3), (5, .aload_n 0, 6, 1), (6, .getfield 21, 9, 3), (9, .getfield 48, 12, 3), (12, .istore_n 2, 13, 1), (13, .iload_n 2, 14, 1), (14, .invokestatic 190, 17, 3), (17, .ifCond .eq 18, 20, 3), (20, .aload_n 0, 21, 1), (21, .invokevirtual 177, 24, 3), (24, .aload_n 0, 25, 1), (25, .iload_n 1, 26, 1), (26, .invokevirtual 187, 29, 3), (29, .aload_n 0, 30, 1), (30, .iload_n 2, 31, 1), (31, .ineg, 32, 1), (32, .invokevirtual 180, 35, 3), (35, .return_, 36, 1)])
theorem ok2_compared : MOk m2_compared := ⟨by decide, mem_g 765 (by decide +kernel) rfl, ini2, ⟨by decide, by decide⟩, by decide, by unfold MDe; decide +kernel⟩
def m2_isComparison : MD := (yX2_isComparison, cX2_isComparison, 1, (some (Jvm.ClassFile.FieldType.boolean)), [(0, .iload_n 0, 1, 1), (1, .bipush 60, 3, 2), (3, .if_icmp .lt 9, 6, 3), (6, .iload_n 0, 7, 1), (7, .bipush 62, 9, 2), (9, .if_icmp .le 17, 12, 3), (12, .iload_n 0, 13, 1), (13, .sipush 256, 16, 3), (16, .if_icmp .lt 14, 19, 3), (19, .iload_n 0, 20, 1), (20, .sipush 258, 23, 3), (23, .if_icmp .gt 7, 26, 3), (26, .iconst 1, 27, 1), (27, .goto 4, 30, 3), (30, .iconst 0, 31, 1), (31, .ireturn, 32, 1)])
theorem ok2_isComparison : MOk m2_isComparison := ⟨by decide, mem_g 796 (by decide +kernel) rfl, ini2, ⟨by decide, by decide⟩, by decide, by unfold MDe; decide +kernel⟩
def m2_sum : MD := (yX2_sum, cX2_sum, 4, none, [(0, .aload_n 0, 1, 1), (1, .iload_n 1, 2, 1), (2, .invokevirtual 193, 5, 3), (5, .iconst 0, 6, 1), (6, .istore_n 2, 7, 1), (7, .iload_n 2, 8, 1), (8, .bipush 64, 10, 2), (10, .if_icmp .ge 56, 13, 3), (13, .aload_n 0, 14, 1), (14, .getfield 21, 17, 3), (17, .getfield 48, 20, 3), (20, .bipush 43, 22, 2), (22, .if_icmp .eq 15, 25, 3), (25, .aload_n 0, 26, 1), (26, .getfield 21, 29, 3), (29, .getfield 48, 32, 3), (32, .bipush 45, 34, 2), (34, .if_icmp .ne 32, 37, 3), (37, .aload_n 0, 38, 1), (38, .getfield 21, 41, 3), (41, .getfield 48, 44, 3), (44, .istore_n 3, 45, 1), (45, .aload_n 0, 46, 1), (46, .invokevirtual 177, 49, 3), (49, .aload_n 0, 50, 1), (50, .iload_n 1, 51, 1), (51, .invokevirtual 193, 54, 3), (54, .aload_n 0, 55, 1), (55, .iload_n 3, 56, 1), (56, .ineg, 57, 1), (57, .invokevirtual 180, 60, 3), (60, .iinc 2 1, 63, 3), (63, .goto (-56), 66, 3), (66, .return_, 67, 1)])
theorem ok2_sum : MOk m2_sum := ⟨by decide, mem_g 769 (by decide +kernel) rfl, ini2, ⟨by decide, by decide⟩, by decide, by unfold MDe; decide +kernel⟩
def m2_product : MD := (yX2_product, cX2_product, 4, none, [(0, .aload_n 0, 1, 1), (1, .iload_n 1, 2, 1), (2, .invokevirtual 196, 5, 3), (5, .iconst 0, 6, 1), (6, .istore_n 2, 7, 1), (7, .iload_n 2, 8, 1), (8, .bipush 64, 10, 2), (10, .if_icmp .ge 56, 13, 3), (13, .aload_n 0, 14, 1), (14, .getfield 21, 17, 3), (17, .getfield 48, 20, 3), (20, .bipush 42, 22, 2), (22, .if_icmp .eq 15, 25, 3), (25, .aload_n 0, 26, 1), (26, .getfield 21, 29, 3), (29, .getfield 48, 32, 3), (32, .bipush 47, 34, 2), (34, .if_icmp .ne 32, 37, 3), (37, .aload_n 0, 38, 1), (38, .getfield 21, 41, 3), (41, .getfield 48, 44, 3), (44, .istore_n 3, 45, 1), (45, .aload_n 0, 46, 1), (46, .invokevirtual 177, 49, 3), (49, .aload_n 0, 50, 1), (50, .iload_n 1, 51, 1), (51, .invokevirtual 196, 54, 3), (54, .aload_n 0, 55, 1), (55, .iload_n 3, 56, 1), (56, .ineg, 57, 1), (57, .invokevirtual 180, 60, 3), (60, .iinc 2 1, 63, 3), (63, .goto (-56), 66, 3), (66, .return_, 67, 1)])
theorem ok2_product : MOk m2_product := ⟨by decide, mem_g 773 (by decide +kernel) rfl, ini2, ⟨by decide, by decide⟩, by decide, by unfold MDe; decide +kernel⟩
def m2_part : MD := (yX2_part, cX2_part, 4, none, [(0, .aload_n 0, 1, 1), (1, .getfield 21, 4, 3), (4, .getfield 48, 7, 3), (7, .istore_n 2, 8, 1), (8, .aload_n 0, 9, 1), (9, .getfield 21, 12, 3), (12, .getfield 143, 15, 3), (15, .istore_n 3, 16, 1), (16, .iload_n 2, 17, 1), (17, .bipush 23, 19, 2), (19, .if_icmp .ne 27, 22, 3), (22, .iload_n 3, 23, 1), (23, .sipush 9999, 26, 3), (26, .if_icmp .le 8, 29, 3), (29, .aload_n 0, 30, 1), (30, .iconst 2, 31, 1), (31, .invokevirtual 59, 34, 3), (34, .aload_n 0, 35, 1), (35, .invokevirtual 177, 38, 3), (38, .aload_n 0, 39, 1), (39, .iload_n 3, 40, 1), (40, .invokevirtual 180, 43, 3), (43, .goto 47, 46, 3), (46, .iload_n 2, 47, 1), (47, .bipush 12, 49, 2), (49, .if_icmp .lt 22, 52, 3), (52, .iload_n 2, 53, 1), (53, .bipush 18, 55, 2), (55, .if_icmp .gt 16, 58, 3), (58, .aload_n 0, 59, 1), (59, .invokevirtual 177, 62, 3), (62, .aload_n 0, 63, 1), (63, .iload_n 2, 64, 1), (64, .ineg, 65, 1), (65, .invokevirtual 180, 68, 3), (68, .goto 22, 71, 3), (71, .iload_n 2, 72, 1), (72, .bipush 40, 74, 2), (74, .if_icmp .ne 11, 77, 3), (77, .aload_n 0, 78, 1), (78, .iload_n 1, 79, 1), (79, .invokevirtual 199, 82, 3), (82, .goto 8, 85, 3), (85, .aload_n 0, 86, 1), (86, .iconst 1, 87, 1), (87, .invokevirtual 59, 90, 3), (90, .return_, 91, 1)])
theorem ok2_part : MOk m2_part := ⟨by decide, mem_g 777 (by decide +kernel) rfl, ini2, ⟨by decide, by decide⟩, by decide, by unfold MDe; decide +kernel⟩
def m2_bracket : MD := (yX2_bracket, cX2_bracket, 2, none, [(0, .iload_n 1, 1, 1), (1, .bipush 8, 3, 2), (3, .if_icmp .lt 9, 6, 3), (6, .aload_n 0, 7, 1), (7, .iconst 2, 8, 1), (8, .invokevirtual 59, 11, 3), (11, .return_, 12, 1), (12, .aload_n 0, 13, 1), (13, .getfield 21, 16, 3), (16, .invokevirtual 45, 19, 3), (19, .aload_n 0, 20, 1), (20, .iload_n 1, 21, 1), (21, .iconst 1, 22, 1), (22, .iadd, 23, 1), (23, .invokevirtual 162, 26, 3), (26, .aload_n 0, 27, 1), (27, .bipush 41, 29, 2), (29, .invokevirtual 54, 32, 3), (32, .return_, 33, 1)])
theorem ok2_bracket : MOk m2_bracket := ⟨by decide, mem_g 789 (by decide +kernel) rfl, ini2, ⟨by decide, by decide⟩, by decide, by unfold MDe; decide +kernel⟩
def m3_init : MD := (yX3_init, cX3_init, 1, none, [(0, .aload_n 0, 1, 1), (1, .invokespecial 3, 4, 3), (4, .aload_n 0, 5, 1), (5, .new 9, 8, 3), (8, .dup, 9, 1), (9, .bipush 6, 11, 2), (11, .iconst 3, 12, 1), (12, .invokespecial 11, 15, 3), (15, .putfield 14, 18, 3), (18, .aload_n 0, 19, 1), (19, .new 9, 22, 3), (22, .dup, 23, 1), (23, .bipush 8, 25, 2), (25, .iconst 5, 26, 1), (26, .invokespecial 11, 29, 3), (29, .putfield 20, 32, 3), (32, .aload_n 0, 33, 1), (33, .new 9, 36, 3), (36, .dup, 37, 1), (37, .bipush 10, 39, 2), (39, .iconst 2, 40, 1), (40, .invokespecial 11, 43, 3), (43, .putfield 23, 46, 3), (46, .aload_n 0, 47, 1), (47, .new 9, 50, 3), (50, .dup, 51, 1), (51, .bipush 8, 53, 2), (53, .iconst 3, 54, 1), (54, .invokespecial 11, 57, 3), (57, .putfield 26, 60, 3), (60, .aload_n 0, 61, 1), (61, .new 29, 64, 3), (64, .dup, 65, 1), (65, .invokespecial 31, 68, 3), (68, .putfield 32, 71, 3), (71, .aload_n 0, 72, 1), (72, .bipush 20, 74, 2), (74, .putfield 36, 77, 3), (77, .aload_n 0, 78, 1), (78, .iconst (-1), 79, 1), (79, .putfield 40, 82, 3), (82, .aload_n 0, 83, 1), (83, .iconst (-1), 84, 1), (84, .putfield 43, 87, 3), (87, .return_, 88, 1)])
theorem ok3_init : MOk m3_init := ⟨by decide, mem_g 147 (by decide +kernel) rfl, ini3, ⟨by decide, by decide⟩, by decide, by unfold MDe; decide +kernel⟩
def m3_clear : MD := (yX3_clear, cX3_clear, 1, none, [(0, .aload_n 0, 1, 1), (1, .getfield 14, 4, 3), (4, .iconst 0, 5, 1), (5, .putfield 46, 8, 3), (8, .aload_n 0, 9, 1), (9, .getfield 20, 12, 3), (12, .iconst 0, 13, 1), (13, .putfield 46, 16, 3), (16, .aload_n 0, 17, 1), (17, .getfield 23, 20, 3), (20, .iconst 0, 21, 1), (21, .putfield 46, 24, 3), (24, .aload_n 0, 25, 1), (25, .getfield 26, 28, 3), (28, .iconst 0, 29, 1), (29, .putfield 46, 32, 3), (32, .aload_n 0, 33, 1), (33, .getfield 32, 36, 3), (36, .invokevirtual 49, 39, 3), (39, .aload_n 0, 40, 1), (40, .bipush 20, 42, 2), (42, .putfield 36, 45, 3), (45, .aload_n 0, 46, 1), (46, .iconst 0, 47, 1), (47, .putfield 52, 50, 3), (50, .aload_n 0, 51, 1), (51, .iconst 0, 52, 1), (52, .putfield 55, 55, 3), (55, .aload_n 0, 56, 1), (56, .iconst (-1), 57, 1), (57, .putfield 40, 60, 3), (60, .aload_n 0, 61, 1), (61, .iconst (-1), 62, 1), (62, .putfield 43, 65, 3), (65, .return_, 66, 1)])
theorem ok3_clear : MOk m3_clear := ⟨by decide, mem_g 576 (by decide +kernel) rfl, ini3, ⟨by decide, by decide⟩, by decide, by unfold MDe; decide +kernel⟩
def m3_take : MD := (yX3_take, cX3_take, 2, none, [(0, .aload_n 0, 1, 1), (1, .getfield 14, 4, 3), (4, .aload_n 1, 5, 1), (5, .getfield 14, 8, 3), (8, .invokevirtual 58, 11, 3), (11, .aload_n 0, 12, 1), (12, .getfield 20, 15, 3), (15, .aload_n 1, 16, 1), (16, .getfield 20, 19, 3), (19, .invokevirtual 58, 22, 3), (22, .aload_n 0, 23, 1), (23, .getfield 23, 26, 3), (26, .aload_n 1, 27, 1), (27, .getfield 23, 30, 3), (30, .invokevirtual 58, 33, 3), (33, .aload_n 0, 34, 1), (34, .getfield 26, 37, 3), (37, .aload_n 1, 38, 1), (38, .getfield 26, 41, 3), (41, .invokevirtual 58, 44, 3), (44, .aload_n 0, 45, 1), (45, .getfield 32, 48, 3), (48, .aload_n 1, 49, 1), (49, .getfield 32, 52, 3), (52, .invokevirtual 62, 55, 3), (55, .aload_n 0, 56, 1), (56, .aload_n 1, 57, 1), (57, .getfield 36, 60, 3), (60, .putfield 36, 63, 3), (63, .aload_n 0, 64, 1), (64, .aload_n 1, 65, 1), (65, .getfield 52, 68, 3), (68, .putfield 52, 71, 3), (71, .aload_n 0, 72, 1), (72, .aload_n 1, 73, 1), (73, .getfield 55, 76, 3), (76, .putfield 55, 79, 3), (79, .aload_n 0, 80, 1), (80, .aload_n 1, 81, 1), (81, .getfield 40, 84, 3), (84, .putfield 40, 87, 3), (87, .aload_n 0, 88, 1), (88, .aload_n 1, 89, 1), (89, .getfield 43, 92, 3), (92, .putfield 43, 95, 3), (95, .return_, 96, 1)])
theorem ok3_take : MOk m3_take := ⟨by decide, mem_g 804 (by decide +kernel) rfl, ini3, ⟨by decide, by decide⟩, by decide, by unfold MDe; decide +kernel⟩
def m4_init : MD := (yX4_init, cX4_init, 3, none, [(0, .aload_n 0, 1, 1), (1, .invokespecial 3, 4, 3), (4, .aload_n 0, 5, 1), (5, .iload_n 1, 6, 1), (6, .putfield 9, 9, 3), (9, .aload_n 0, 10, 1), (10, .iload_n 2, 11, 1), (11, .iload_n 1, 12, 1), (12, .multianewarray 15 2, 16, 4), (16, .putfield 17, 19, 3), (19, .return_, 20, 1)])
theorem ok4_init : MOk m4_init := ⟨by decide, mem_g 153 (by decide +kernel) rfl, ini4, ⟨by decide, by decide⟩, by decide, by unfold MDe; decide +kernel⟩
def m4_isFull : MD := (yX4_isFull, cX4_isFull, 1, (some (Jvm.ClassFile.FieldType.boolean)), [(0, .aload_n 0, 1, 1), (1, .getfield 20, 4, 3), (4, .aload_n 0, 5, 1), (5, .getfield 9, 8, 3), (8, .if_icmp .lt 7, 11, 3), (11, .iconst 1, 12, 1), (12, .goto 4, 15, 3), (15, .iconst 0, 16, 1), (16, .ireturn, 17, 1)])
theorem ok4_isFull : MOk m4_isFull := ⟨by decide, mem_g 683 (by decide +kernel) rfl, ini4, ⟨by decide, by decide⟩, by decide, by unfold MDe; decide +kernel⟩
def m4_has : MD := (yX4_has, cX4_has, 2, (some (Jvm.ClassFile.FieldType.boolean)), [(0, .iload_n 1, 1, 1), (1, .ifCond .lt 15, 4, 3), (4, .iload_n 1, 5, 1), (5, .aload_n 0, 6, 1), (6, .getfield 20, 9, 3), (9, .if_icmp .ge 7, 12, 3), (12, .iconst 1, 13, 1), (13, .goto 4, 16, 3), (16, .iconst 0, 17, 1), (17, .ireturn, 18, 1)])
theorem ok4_has : MOk m4_has := ⟨by decide, mem_g 512 (by decide +kernel) rfl, ini4, ⟨by decide, by decide⟩, by decide, by unfold MDe; decide +kernel⟩
def m4_column : MD := (yX4_column, cX4_column, 2, (some (Jvm.ClassFile.FieldType.array Jvm.ClassFile.FieldType.int)), [(0, .aload_n 0, 1, 1), (1, .getfield 17, 4, 3), (4, .iload_n 1, 5, 1), (5, .ifCond .lt 16, 8, 3), (8, .iload_n 1, 9, 1), (9, .aload_n 0, 10, 1), (10, .getfield 17, 13, 3), (13, .arraylength, 14, 1), (14, .if_icmp .ge 7, 17, 3), (17, .iload_n 1, 18, 1), (18, .goto 4, 21, 3), (21, .iconst 0, 22, 1), (22, .aaload, 23, 1), (23, .areturn, 24, 1)])
theorem ok4_column : MOk m4_column := ⟨by decide, mem_g 516 (by decide +kernel) rfl, ini4, ⟨by decide, by decide⟩, by decide, by unfold MDe; decide +kernel⟩
def m4_at : MD := (yX4_at, cX4_at, 3, (some (Jvm.ClassFile.FieldType.int)), [(0, .aload_n 0, 1, 1), (1, .iload_n 1, 2, 1), (2, .invokevirtual 23, 5, 3), (5, .ifCond .eq 13, 8, 3), (8, .aload_n 0, 9, 1), (9, .iload_n 2, 10, 1), (10, .invokevirtual 27, 13, 3), (13, .iload_n 1, 14, 1), (14, .iaload, 15, 1), (15, .goto 4, 18, 3), (18, .iconst 0, 19, 1), (19, .ireturn, 20, 1)])
theorem ok4_at : MOk m4_at := ⟨by decide, mem_g 508 (by decide +kernel) rfl, ini4, ⟨by decide, by decide⟩, by decide, by unfold MDe; decide +kernel⟩
def m4_add : MD := (yX4_add, cX4_add, 1, none, [(0, .aload_n 0, 1, 1), (1, .invokevirtual 31, 4, 3), (4, .ifCond .ne 13, 7, 3), (7, .aload_n 0, 8, 1), (8, .dup, 9, 1), (9, .getfield 20, 12, 3), (12, .iconst 1, 13, 1), (13, .iadd, 14, 1), (14, .putfield 20, 17, 3), (17, .return_, 18, 1)])
theorem ok4_add : MOk m4_add := ⟨by decide, mem_g 703 (by decide +kernel) rfl, ini4, ⟨by decide, by decide⟩, by decide, by unfold MDe; decide +kernel⟩
def m4_set : MD := (yX4_set, cX4_set, 3, none, [(0, .aload_n 0, 1, 1), (1, .getfield 20, 4, 3), (4, .ifCond .le 16, 7, 3), (7, .aload_n 0, 8, 1), (8, .iload_n 1, 9, 1), (9, .invokevirtual 27, 12, 3), (12, .aload_n 0, 13, 1), (13, .getfield 20, 16, 3), (16, .iconst 1, 17, 1), (17, .isub, 18, 1), (18, .iload_n 2, 19, 1), (19, .iastore, 20, 1), (20, .return_, 21, 1)])
theorem ok4_set : MOk m4_set := ⟨by decide, mem_g 708 (by decide +kernel) rfl, ini4, ⟨by decide, by decide⟩, by decide, by unfold MDe; decide +kernel⟩
def m4_rowOf : MD := (yX4_rowOf, cX4_rowOf, 4, (some (Jvm.ClassFile.FieldType.int)), [(0, .aload_n 0, 1, 1), (1, .iconst 0, 2, 1), (2, .invokevirtual 27, 5, 3), (5, .astore_n 2, 6, 1), (6, .iconst 0, 7, 1), (7, .istore_n 3, 8, 1), (8, .iload_n 3, 9, 1), (9, .aload_n 0, 10, 1), (10, .getfield 20, 13, 3), (13, .if_icmp .ge 18, 16, 3), (16, .aload_n 2, 17, 1), (17, .iload_n 3, 18, 1), (18, .iaload, 19, 1), (19, .iload_n 1, 20, 1), (20, .if_icmp .ne 5, 23, 3), (23, .iload_n 3, 24, 1), (24, .ireturn, 25, 1), (25, .iinc 3 1, 28, 3), (28, .goto (-20), 31, 3), (31, .iconst (-1), 32, 1), (32, .ireturn, 33, 1)])
theorem ok4_rowOf : MOk m4_rowOf := ⟨by decide, mem_g 695 (by decide +kernel) rfl, ini4, ⟨by decide, by decide⟩, by decide, by unfold MDe; decide +kernel⟩
def m4_dropFirst : MD := (yX4_dropFirst, cX4_dropFirst, 5, none, [(0, .aload_n 0, 1, 1), (1, .getfield 20, 4, 3), (4, .ifCond .le 52, 7, 3), (7, .aload_n 0, 8, 1), (8, .dup, 9, 1), (9, .getfield 20, 12, 3), (12, .iconst 1, 13, 1), (13, .isub, 14, 1), (14, .putfield 20, 17, 3), (17, .aload_n 0, 18, 1), (18, .getfield 17, 21, 3), (21, .astore_n 1, 22, 1), (22, .aload_n 1, 23, 1), (23, .arraylength, 24, 1), (24, .istore_n 2, 25, 1), (25, .iconst 0, 26, 1), (26, .istore_n 3, 27, 1), (27, .iload_n 3, 28, 1), (28, .iload_n 2, 29, 1), (29, .if_icmp .ge 27, 32, 3), (32, .aload_n 1, 33, 1), (33, .iload_n 3, 34, 1), (34, .aaload, 35, 1), (35, .astore 4, 37, 2), (37, .aload 4, 39, 2), (39, .iconst 1, 40, 1), (40, .aload 4, 42, 2), (42, .iconst 0, 43, 1), (43, .aload_n 0, 44, 1), (44, .getfield 20, 47, 3), (47, .invokestatic 35, 50, 3), (50, .iinc 3 1, 53, 3), (53, .goto (-26), 56, 3), (56, .return_, 57, 1)])
theorem ok4_dropFirst : MOk m4_dropFirst := ⟨by decide, mem_g 920 (by decide +kernel) rfl, ini4, ⟨by decide, by decide⟩, by decide, by unfold MDe; decide +kernel⟩
def m4_take : MD := (yX4_take, cX4_take, 3, none, [(0, .aload_n 0, 1, 1), (1, .aload_n 0, 2, 1), (2, .getfield 9, 5, 3), (5, .aload_n 1, 6, 1), (6, .getfield 20, 9, 3), (9, .invokestatic 41, 12, 3), (12, .putfield 20, 15, 3), (15, .iconst 0, 16, 1), (16, .istore_n 2, 17, 1), (17, .iload_n 2, 18, 1), (18, .aload_n 0, 19, 1), (19, .getfield 17, 22, 3), (22, .arraylength, 23, 1), (23, .if_icmp .ge 29, 26, 3), (26, .aload_n 1, 27, 1), (27, .iload_n 2, 28, 1), (28, .invokevirtual 27, 31, 3), (31, .iconst 0, 32, 1), (32, .aload_n 0, 33, 1), (33, .getfield 17, 36, 3), (36, .iload_n 2, 37, 1), (37, .aaload, 38, 1), (38, .iconst 0, 39, 1), (39, .aload_n 0, 40, 1), (40, .getfield 20, 43, 3), (43, .invokestatic 35, 46, 3), (46, .iinc 2 1, 49, 3), (49, .goto (-32), 52, 3), (52, .return_, 53, 1)])
theorem ok4_take : MOk m4_take := ⟨by decide, mem_g 808 (by decide +kernel) rfl, ini4, ⟨by decide, by decide⟩, by decide, by unfold MDe; decide +kernel⟩
def m5_init : MD := (yX5_init, cX5_init, 5, none, [(0, .aload_n 0, 1, 1), (1, .invokespecial 3, 4, 3), (4, .aload_n 0, 5, 1), (5, .bipush 21, 7, 2), (7, .newarray .int, 9, 2), (9, .putfield 11, 12, 3), (12, .aload_n 0, 13, 1), (13, .iconst 0, 14, 1), (14, .newarray .byte, 16, 2), (16, .putfield 15, 19, 3), (19, .iconst 0, 20, 1), (20, .istore_n 1, 21, 1), (21, .iload_n 1, 22, 1), (22, .bipush 21, 24, 2), (24, .if_icmp .ge 68, 27, 3), (27, .iconst 0, 28, 1), (28, .istore_n 2, 29, 1), (29, .iconst 0, 30, 1), (30, .istore_n 3, 31, 1), (31, .iload_n 3, 32, 1), (32, .bipush 6, 34, 2), (34, .if_icmp .ge 45, 37, 3), (37, .ldc 19, 39, 2), (39, .iload_n 1, 40, 1), (40, .bipush 6, 42, 2), (42, .imul, 43, 1), (43, .iload_n 3, 44, 1), (44, .iadd, 45, 1), (45, .invokevirtual 21, 48, 3), (48, .istore 4, 50, 2), (50, .iload_n 2, 51, 1), (51, .iconst 5, 52, 1), (52, .ishl, 53, 1), (53, .iload 4, 55, 2), (55, .bipush 32, 57, 2), (57, .if_icmp .ne 7, 60, 3), (60, .iconst 0, 61, 1), (61, .goto 10, 64, 3), (64, .iload 4, 66, 2), (66, .bipush 97, 68, 2), (68, .isub, 69, 1), (69, .iconst 1, 70, 1), (70, .iadd, 71, 1), (71, .ior, 72, 1), (72, .istore_n 2, 73, 1), (73, .iinc 3 1, 76, 3), (76, .goto (-45), 79, 3), (79, .aload_n 0, 80, 1), (80, .getfield 11, 83, 3), (83, .iload_n 1, 84, 1), (84, .iload_n 2, 85, 1), (85, .iastore, 86, 1), (86, .iinc 1 1, 89, 3), (89, .goto (-68), 92, 3), (92, .return_, 93, 1)])
theorem ok5_init : MOk m5_init := ⟨by decide, mem_g 267 (by decide +kernel) rfl, ini5, ⟨by decide, by decide⟩, by decide, by unfold MDe; decide +kernel⟩
def m5_start : MD := (yX5_start, cX5_start, 3, none, [(0, .aload_n 0, 1, 1), (1, .aload_n 1, 2, 1), (2, .putfield 15, 5, 3), (5, .aload_n 0, 6, 1), (6, .iload_n 2, 7, 1), (7, .aload_n 1, 8, 1), (8, .arraylength, 9, 1), (9, .invokestatic 27, 12, 3), (12, .putfield 33, 15, 3), (15, .aload_n 0, 16, 1), (16, .iconst 0, 17, 1), (17, .putfield 37, 20, 3), (20, .aload_n 0, 21, 1), (21, .iconst 0, 22, 1), (22, .putfield 40, 25, 3), (25, .return_, 26, 1)])
theorem ok5_start : MOk m5_start := ⟨by decide, mem_g 584 (by decide +kernel) rfl, ini5, ⟨by decide, by decide⟩, by decide, by unfold MDe; decide +kernel⟩
def m5_advance : MD := (yX5_advance, cX5_advance, 2, none, [(0, .aload_n 0, 1, 1), (1, .getfield 40, 4, 3), (4, .iconst (-1), 5, 1), (5, .if_icmp .ne 4, 8, 3), (8, .return_, 9, 1), (9, .aload_n 0, 10, 1), (10, .getfield 37, 13, 3), (13, .aload_n 0, 14, 1), (14, .getfield 33, 17, 3), (17, .if_icmp .ge 44, 20, 3), (20, .aload_n 0, 21, 1), (21, .getfield 15, 24, 3), (24, .aload_n 0, 25, 1), (25, .getfield 37, 28, 3), (28, .baload, 29, 1), (29, .bipush 10, 31, 2), (31, .if_icmp .eq 17, 34, 3), (34, .aload_n 0, 35, 1), (35, .getfield 15, 38, 3), (38, .aload_n 0, 39, 1), (39, .getfield 37, 42, 3), (42, .baload, 43, 1), (43, .bipush 32, 45, 2), (45, .if_icmp .ne 16, 48, 3), (48, .aload_n 0, 49, 1), (49, .dup, 50, 1), (50, .getfield 37, 53, 3), (53, .iconst 1, 54, 1), (54, .iadd, 55, 1), (55, .putfield 37, 58, 3), (58, .goto (-49), 61, 3), (61, .aload_n 0, 62, 1), (62, .aload_n 0, 63, 1), (63, .getfield 37, 66, 3), (66, .putfield 43, 69, 3), (69, .aload_n 0, 70, 1), (70, .getfield 37, 73, 3), (73, .aload_n 0, 74, 1), (74, .getfield 33, 77, 3), (77, .if_icmp .ge 15, 80, 3), (80, .aload_n 0, 81, 1), (81, .getfield 15, 84, 3), (84, .aload_n 0, 85, 1), (85, .getfield 37, 88, 3), (88, .baload, 89, 1), (89, .goto 4, 92, 3), (92, .iconst 0, 93, 1), (93, .istore_n 1, 94, 1), (94, .aload_n 0, 95, 1), (95, .getfield 37, 98, 3), (98, .aload_n 0, 99, 1), (99, .getfield 33, 102, 3), (102, .if_icmp .lt 11, 105, 3), (105, .aload_n 0, 106, 1), (106, .iconst 0, 107, 1), (107, .putfield 40, 110, 3), (110, .goto 45, 113, 3), (113, .iload_n 1, 114, 1), (114, .bipush 97, 116, 2), (116, .if_icmp .lt 16, 119, 3), (119, .iload_n 1, 120, 1), (120, .bipush 122, 122, 2), (122, .if_icmp .gt 10, 125, 3), (125, .aload_n 0, 126, 1), (126, .invokevirtual 46, 129, 3), (129, .goto 26, 132, 3), (132, .iload_n 1, 133, 1), (133, .bipush 48, 135, 2), (135, .if_icmp .lt 16, 138, 3), (138, .iload_n 1, 139, 1), (139, .bipush 57, 141, 2), (141, .if_icmp .gt 10, 144, 3), (144, .aload_n 0, 145, 1), (145, .invokevirtual 49, 148, 3), (148, .goto 7, 151, 3), (151, .aload_n 0, 152, 1), (152, .invokevirtual 52, 155, 3), (155, .return_, 156, 1)])
theorem ok5_advance : MOk m5_advance := ⟨by decide, mem_g 589 (by decide +kernel) rfl, ini5, ⟨by decide, by decide⟩, by decide, by unfold MDe; decide +kernel⟩
def m5_takeWord : MD := (yX5_takeWord, cX5_takeWord, 3, none, [(0, .aload_n 0, 1, 1), (1, .iconst 0, 2, 1), (2, .putfield 55, 5, 3), (5, .iconst 0, 6, 1), (6, .istore_n 1, 7, 1), (7, .aload_n 0, 8, 1), (8, .getfield 37, 11, 3), (11, .aload_n 0, 12, 1), (12, .getfield 33, 15, 3), (15, .if_icmp .ge 83, 18, 3), (18, .aload_n 0, 19, 1), (19, .getfield 15, 22, 3), (22, .aload_n 0, 23, 1), (23, .getfield 37, 26, 3), (26, .baload, 27, 1), (27, .bipush 97, 29, 2), (29, .if_icmp .lt 69, 32, 3), (32, .aload_n 0, 33, 1), (33, .getfield 15, 36, 3), (36, .aload_n 0, 37, 1), (37, .getfield 37, 40, 3), (40, .baload, 41, 1), (41, .bipush 122, 43, 2), (43, .if_icmp .gt 55, 46, 3), (46, .iload_n 1, 47, 1), (47, .bipush 6, 49, 2), (49, .if_icmp .ge 33, 52, 3), (52, .aload_n 0, 53, 1), (53, .dup, 54, 1), (54, .getfield 55, 57, 3), (57, .aload_n 0, 58, 1), (58, .getfield 15, 61, 3), (61, .aload_n 0, 62, 1), (62, .getfield 37, 65, 3), (65, .baload, 66, 1), (66, .bipush 97, 68, 2), (68, .isub, 69, 1), (69, .iconst 1, 70, 1), (70, .iadd, 71, 1), (71, .bipush 25, 73, 2), (73, .iconst 5, 74, 1), (74, .iload_n 1, 75, 1), (75, .imul, 76, 1), (76, .isub, 77, 1), (77, .ishl, 78, 1), (78, .ior, 79, 1), (79, .putfield 55, 82, 3), (82, .iinc 1 1, 85, 3), (85, .aload_n 0, 86, 1), (86, .dup, 87, 1), (87, .getfield 37, 90, 3), (90, .iconst 1, 91, 1), (91, .iadd, 92, 1), (92, .putfield 37, 95, 3), (95, .goto (-88), 98, 3), (98, .aload_n 0, 99, 1), (99, .iload_n 1, 100, 1), (100, .bipush 6, 102, 2), (102, .if_icmp .le 7, 105, 3), (105, .iconst (-1), 106, 1), (106, .goto 5, 109, 3), (109, .bipush 22, 111, 2), (111, .putfield 40, 114, 3), (114, .iconst 0, 115, 1), (115, .istore_n 2, 116, 1), (116, .iload_n 2, 117, 1), (117, .bipush 21, 119, 2), (119, .if_icmp .ge 38, 122, 3), (122, .aload_n 0, 123, 1), (123, .getfield 40, 126, 3), (126, .bipush 22, 128, 2), (128, .if_icmp .ne 29, 131, 3), (131, .aload_n 0, 132, 1), (132, .getfield 11, 135, 3), (135, .iload_n 2, 136, 1), (136, .iaload, 137, 1), (137, .aload_n 0, 138, 1), (138, .getfield 55, 141, 3), (141, .if_icmp .ne 10, 144, 3), (144, .aload_n 0, 145, 1), (145, .iload_n 2, 146, 1), (146, .iconst 1, 147, 1), (147, .iadd, 148, 1), (148, .putfield 40, 151, 3), (151, .iinc 2 1, 154, 3), (154, .goto (-38), 157, 3), (157, .return_, 158, 1)])
theorem ok5_takeWord : MOk m5_takeWord := ⟨by decide, mem_g 593 (by decide +kernel) rfl, ini5, ⟨by decide, by decide⟩, by decide, by unfold MDe; decide +kernel⟩
def m5_takeNumber : MD := (yX5_takeNumber, cX5_takeNumber, 1, none, [(0, .aload_n 0, 1, 1), (1, .iconst 0, 2, 1), (2, .putfield 55, 5, 3), (5, .aload_n 0, 6, 1), (6, .getfield 37, 9, 3), (9, .aload_n 0, 10, 1), (10, .getfield 33, 13, 3), (13, .if_icmp .ge 73, 16, 3), (16, .aload_n 0, 17, 1), (17, .getfield 15, 20, 3), (20, .aload_n 0, 21, 1), (21, .getfield 37, 24, 3), (24, .baload, 25, 1), (25, .bipush 48, 27, 2), (27, .if_icmp .lt 59, 30, 3), (30, .aload_n 0, 31, 1), (31, .getfield 15, 34, 3), (34, .aload_n 0, 35, 1), (35, .getfield 37, 38, 3), (38, .baload, 39, 1), (39, .bipush 57, 41, 2), (41, .if_icmp .gt 45, 44, 3), (44, .aload_n 0, 45, 1), (45, .ldc 58, 47, 2), (47, .aload_n 0, 48, 1), (48, .getfield 55, 51, 3), (51, .bipush 10, 53, 2), (53, .imul, 54, 1), (54, .aload_n 0, 55, 1), (55, .getfield 15, 58, 3), (58, .aload_n 0, 59, 1), (59, .getfield 37, 62, 3), (62, .baload, 63, 1), (63, .iadd, 64, 1), (64, .bipush 48, 66, 2), (66, .isub, 67, 1), (67, .invokestatic 27, 70, 3), (70, .putfield 55, 73, 3), (73, .aload_n 0, 74, 1), (74, .dup, 75, 1), (75, .getfield 37, 78, 3), (78, .iconst 1, 79, 1), (79, .iadd, 80, 1), (80, .putfield 37, 83, 3), (83, .goto (-78), 86, 3), (86, .aload_n 0, 87, 1), (87, .bipush 23, 89, 2), (89, .putfield 40, 92, 3), (92, .return_, 93, 1)])
theorem ok5_takeNumber : MOk m5_takeNumber := ⟨by decide, mem_g 597 (by decide +kernel) rfl, ini5, ⟨by decide, by decide⟩, by decide, by unfold MDe; decide +kernel⟩
def m5_takeSign : MD := (yX5_takeSign, cX5_takeSign, 3, none, [(0, .aload_n 0, 1, 1), (1, .getfield 37, 4, 3), (4, .aload_n 0, 5, 1), (5, .getfield 33, 8, 3), (8, .if_icmp .ge 15, 11, 3), (11, .aload_n 0, 12, 1), (12, .getfield 15, 15, 3), (15, .aload_n 0, 16, 1), (16, .getfield 37, 19, 3), (19, .baload, 20, 1), (20, .goto 4, 23, 3), (23, .iconst 0, 24, 1), (24, .istore_n 1, 25, 1), (25, .aload_n 0, 26, 1), (26, .getfield 37, 29, 3), (29, .iconst 1, 30, 1), (30, .iadd, 31, 1), (31, .aload_n 0, 32, 1), (32, .getfield 33, 35, 3), (35, .if_icmp .ge 17, 38, 3), (38, .aload_n 0, 39, 1), (39, .getfield 15, 42, 3), (42, .aload_n 0, 43, 1), (43, .getfield 37, 46, 3), (46, .iconst 1, 47, 1), (47, .iadd, 48, 1), (48, .baload, 49, 1), (49, .goto 4, 52, 3), (52, .iconst 0, 53, 1), (53, .istore_n 2, 54, 1), (54, .aload_n 0, 55, 1), (55, .iload_n 1, 56, 1), (56, .ifCond .le 17, 59, 3), (59, .ldc 59, 61, 2), (61, .iload_n 1, 62, 1), (62, .i2c, 63, 1), (63, .invokevirtual 61, 66, 3), (66, .ifCond .lt 7, 69, 3), (69, .iload_n 1, 70, 1), (70, .goto 4, 73, 3), (73, .iconst (-1), 74, 1), (74, .putfield 40, 77, 3), (77, .iload_n 1, 78, 1), (78, .bipush 60, 80, 2), (80, .if_icmp .ne 19, 83, 3), (83, .iload_n 2, 84, 1), (84, .bipush 61, 86, 2), (86, .if_icmp .ne 13, 89, 3), (89, .aload_n 0, 90, 1), (90, .sipush 256, 93, 3), (93, .putfield 40, 96, 3), (96, .goto 44, 99, 3), (99, .iload_n 1, 100, 1), (100, .bipush 62, 102, 2), (102, .if_icmp .ne 19, 105, 3), (105, .iload_n 2, 106, 1), (106, .bipush 61, 108, 2), (108, .if_icmp .ne 13, 111, 3), (111, .aload_n 0, 112, 1), (112, .sipush 257, 115, 3), (115, .putfield 40, 118, 3), (118, .goto 22, 121, 3), (121, .iload_n 1, 122, 1), (122, .bipush 60, 124, 2), (124, .if_icmp .ne 16, 127, 3), (127, .iload_n 2, 128, 1), (128, .bipush 62, 130, 2), (130, .if_icmp .ne 10, 133, 3), (133, .aload_n 0, 134, 1), (134, .sipush 258, 137, 3), (137, .putfield 40, 140, 3), (140, .aload_n 0, 141, 1), (141, .dup, 142, 1), (142, .getfield 37, 145, 3), (145, .aload_n 0, 146, 1), (146, .getfield 40, 149, 3), (149, .sipush 256, 152, 3), (152, .if_icmp .lt 7, 155, 3), (155, .iconst 2, 156, 1), (156, .goto 4, 159, 3), (159, .iconst 1, 160, 1), (160, .iadd, 161, 1), (161, .putfield 37, 164, 3), (164, .return_, 165, 1)])
theorem ok5_takeSign : MOk m5_takeSign := ⟨by decide, mem_g 602 (by decide +kernel) rfl, ini5, ⟨by decide, by decide⟩, by decide, by unfold MDe; decide +kernel⟩
def m6_init : MD := (yX6_init, cX6_init, 1, none, [(0, .aload_n 0, 1, 1), (1, .invokespecial 3, 4, 3), (4, .aload_n 0, 5, 1), (5, .bipush 8, 7, 2), (7, .newarray .int, 9, 2), (9, .putfield 9, 12, 3), (12, .aload_n 0, 13, 1), (13, .bipush 8, 15, 2), (15, .newarray .int, 17, 2), (17, .putfield 15, 20, 3), (20, .aload_n 0, 21, 1), (21, .bipush 8, 23, 2), (23, .newarray .int, 25, 2), (25, .putfield 18, 28, 3), (28, .aload_n 0, 29, 1), (29, .bipush 8, 31, 2), (31, .newarray .int, 33, 2), (33, .putfield 21, 36, 3), (36, .aload_n 0, 37, 1), (37, .bipush 8, 39, 2), (39, .newarray .int, 41, 2), (41, .putfield 24, 44, 3), (44, .aload_n 0, 45, 1), (45, .bipush 8, 47, 2), (47, .newarray .int, 49, 2), (49, .putfield 27, 52, 3), (52, .aload_n 0, 53, 1), (53, .bipush 8, 55, 2), (55, .newarray .int, 57, 2), (57, .putfield 30, 60, 3), (60, .return_, 61, 1)])
theorem ok6_init : MOk m6_init := ⟨by decide, mem_g 386 (by decide +kernel) rfl, ini6, ⟨by decide, by decide⟩, by decide, by unfold MDe; decide +kernel⟩
def m6_begin : MD := (yX6_begin, cX6_begin, 3, none, [(0, .aload_n 0, 1, 1), (1, .aload_n 1, 2, 1), (2, .getfield 33, 5, 3), (5, .getfield 39, 8, 3), (8, .bipush 8, 10, 2), (10, .invokestatic 45, 13, 3), (13, .putfield 51, 16, 3), (16, .iconst 0, 17, 1), (17, .istore_n 2, 18, 1), (18, .iload_n 2, 19, 1), (19, .aload_n 0, 20, 1), (20, .getfield 51, 23, 3), (23, .if_icmp .ge 67, 26, 3), (26, .aload_n 0, 27, 1), (27, .getfield 9, 30, 3), (30, .iload_n 2, 31, 1), (31, .iconst 0, 32, 1), (32, .iastore, 33, 1), (33, .aload_n 0, 34, 1), (34, .getfield 15, 37, 3), (37, .iload_n 2, 38, 1), (38, .aload_n 1, 39, 1), (39, .getfield 33, 42, 3), (42, .iload_n 2, 43, 1), (43, .iconst 2, 44, 1), (44, .invokevirtual 53, 47, 3), (47, .iastore, 48, 1), (48, .aload_n 0, 49, 1), (49, .getfield 18, 52, 3), (52, .iload_n 2, 53, 1), (53, .aload_n 1, 54, 1), (54, .getfield 33, 57, 3), (57, .iload_n 2, 58, 1), (58, .iconst 4, 59, 1), (59, .invokevirtual 53, 62, 3), (62, .iastore, 63, 1), (63, .aload_n 0, 64, 1), (64, .getfield 21, 67, 3), (67, .iload_n 2, 68, 1), (68, .iload_n 2, 69, 1), (69, .iastore, 70, 1), (70, .aload_n 0, 71, 1), (71, .getfield 24, 74, 3), (74, .iload_n 2, 75, 1), (75, .iconst 0, 76, 1), (76, .iastore, 77, 1), (77, .aload_n 0, 78, 1), (78, .getfield 27, 81, 3), (81, .iload_n 2, 82, 1), (82, .iconst 0, 83, 1), (83, .iastore, 84, 1), (84, .iinc 2 1, 87, 3), (87, .goto (-69), 90, 3), (90, .iconst 0, 91, 1), (91, .istore_n 2, 92, 1), (92, .iload_n 2, 93, 1), (93, .bipush 8, 95, 2), (95, .if_icmp .ge 16, 98, 3), (98, .aload_n 0, 99, 1), (99, .getfield 30, 102, 3), (102, .iload_n 2, 103, 1), (103, .iconst 0, 104, 1), (104, .iastore, 105, 1), (105, .iinc 2 1, 108, 3), (108, .goto (-16), 111, 3), (111, .aload_n 0, 112, 1), (112, .iconst 0, 113, 1), (113, .putfield 56, 116, 3), (116, .aload_n 0, 117, 1), (117, .aload_n 1, 118, 1), (118, .getfield 59, 121, 3), (121, .putfield 62, 124, 3), (124, .aload_n 0, 125, 1), (125, .iconst 0, 126, 1), (126, .putfield 63, 129, 3), (129, .aload_n 0, 130, 1), (130, .iconst 0, 131, 1), (131, .putfield 66, 134, 3), (134, .aload_n 0, 135, 1), (135, .iconst 0, 136, 1), (136, .putfield 69, 139, 3), (139, .aload_n 0, 140, 1), (140, .iconst 0, 141, 1), (141, .putfield 72, 144, 3), (144, .aload_n 0, 145, 1), (145, .aload_n 1, 146, 1), (146, .getfield 75, 149, 3), (149, .i2l, 150, 1), (150, .putfield 78, 153, 3), (153, .return_, 154, 1)])
theorem ok6_begin : MOk m6_begin := ⟨by decide, mem_g 501 (by decide +kernel) rfl, ini6, ⟨by decide, by decide⟩, by decide, by unfold MDe; decide +kernel⟩
def m6_take : MD := (yX6_take, cX6_take, 2, none, [(0, .aload_n 1, 1, 1), (1, .getfield 9, 4, 3), (4, .iconst 0, 5, 1), (5, .aload_n 0, 6, 1), (6, .getfield 9, 9, 3), (9, .iconst 0, 10, 1), (10, .bipush 8, 12, 2), (12, .invokestatic 82, 15, 3), (15, .aload_n 1, 16, 1), (16, .getfield 15, 19, 3), (19, .iconst 0, 20, 1), (20, .aload_n 0, 21, 1), (21, .getfield 15, 24, 3), (24, .iconst 0, 25, 1), (25, .bipush 8, 27, 2), (27, .invokestatic 82, 30, 3), (30, .aload_n 1, 31, 1), (31, .getfield 18, 34, 3), (34, .iconst 0, 35, 1), (35, .aload_n 0, 36, 1), (36, .getfield 18, 39, 3), (39, .iconst 0, 40, 1), (40, .bipush 8, 42, 2), (42, .invokestatic 82, 45, 3), (45, .aload_n 1, 46, 1), (46, .getfield 21, 49, 3), (49, .iconst 0, 50, 1), (50, .aload_n 0, 51, 1), (51, .getfield 21, 54, 3), (54, .iconst 0, 55, 1), (55, .bipush 8, 57, 2), (57, .invokestatic 82, 60, 3), (60, .aload_n 1, 61, 1), (61, .getfield 24, 64, 3), (64, .iconst 0, 65, 1), (65, .aload_n 0, 66, 1), (66, .getfield 24, 69, 3), (69, .iconst 0, 70, 1), (70, .bipush 8, 72, 2), (72, .invokestatic 82, 75, 3), (75, .aload_n 1, 76, 1), (76, .getfield 27, 79, 3), (79, .iconst 0, 80, 1), (80, .aload_n 0, 81, 1), (81, .getfield 27, 84, 3), (84, .iconst 0, 85, 1), (85, .bipush 8, 87, 2), (87, .invokestatic 82, 90, 3), (90, .aload_n 1, 91, 1), (91, .getfield 30, 94, 3), (94, .iconst 0, 95, 1), (95, .aload_n 0, 96, 1), (96, .getfield 30, 99, 3), (99, .iconst 0, 100, 1), (100, .bipush 8, 102, 2), (102, .invokestatic 82, 105, 3), (105, .aload_n 0, 106, 1), (106, .aload_n 1, 107, 1), (107, .getfield 51, 110, 3), (110, .putfield 51, 113, 3), (113, .aload_n 0, 114, 1), (114, .aload_n 1, 115, 1), (115, .getfield 56, 118, 3), (118, .putfield 56, 121, 3), (121, .aload_n 0, 122, 1), (122, .aload_n 1, 123, 1), (123, .getfield 62, 126, 3), (126, .putfield 62, 129, 3), (129, .aload_n 0, 130, 1), (130, .aload_n 1, 131, 1), (131, .getfield 63, 134, 3), (134, .putfield 63, 137, 3), (137, .aload_n 0, 138, 1), (138, .aload_n 1, 139, 1), (139, .getfield 66, 142, 3), (142, .putfield 66, 145, 3), (145, .aload_n 0, 146, 1), (146, .aload_n 1, 147, 1), (147, .getfield 69, 150, 3), (150, .putfield 69, 153, 3), (153, .aload_n 0, 154, 1), (154, .aload_n 1, 155, 1), (155, .getfield 72, 158, 3), (158, .putfield 72, 161, 3), (161, .aload_n 0, 162, 1), (162, .aload_n 1, 163, 1), (163, .getfield 78, 166, 3), (166, .putfield 78, 169, 3), (169, .return_, 170, 1)])
theorem ok6_take : MOk m6_take := ⟨by decide, mem_g 1007 (by decide +kernel) rfl, ini6, ⟨by decide, by decide⟩, by decide, by unfold MDe; decide +kernel⟩
def m6_has : MD := (yX6_has, cX6_has, 2, (some (Jvm.ClassFile.FieldType.boolean)), [(0, .iload_n 1, 1, 1), (1, .ifCond .lt 15, 4, 3), (4, .iload_n 1, 5, 1), (5, .aload_n 0, 6, 1), (6, .getfield 51, 9, 3), (9, .if_icmp .ge 7, 12, 3), (12, .iconst 1, 13, 1), (13, .goto 4, 16, 3), (16, .iconst 0, 17, 1), (17, .ireturn, 18, 1)])
theorem ok6_has : MOk m6_has := ⟨by decide, mem_g 864 (by decide +kernel) rfl, ini6, ⟨by decide, by decide⟩, by decide, by unfold MDe; decide +kernel⟩
def m6_isClosed : MD := (yX6_isClosed, cX6_isClosed, 2, (some (Jvm.ClassFile.FieldType.boolean)), [(0, .aload_n 0, 1, 1), (1, .iload_n 1, 2, 1), (2, .invokevirtual 88, 5, 3), (5, .ifCond .eq 16, 8, 3), (8, .aload_n 0, 9, 1), (9, .getfield 9, 12, 3), (12, .iload_n 1, 13, 1), (13, .iaload, 14, 1), (14, .ifCond .ne 7, 17, 3), (17, .iconst 1, 18, 1), (18, .goto 4, 21, 3), (21, .iconst 0, 22, 1), (22, .ireturn, 23, 1)])
theorem ok6_isClosed : MOk m6_isClosed := ⟨by decide, mem_g 860 (by decide +kernel) rfl, ini6, ⟨by decide, by decide⟩, by decide, by unfold MDe; decide +kernel⟩
def m6_isOnTop : MD := (yX6_isOnTop, cX6_isOnTop, 2, (some (Jvm.ClassFile.FieldType.boolean)), [(0, .aload_n 0, 1, 1), (1, .iload_n 1, 2, 1), (2, .invokevirtual 92, 5, 3), (5, .ifCond .eq 15, 8, 3), (8, .aload_n 0, 9, 1), (9, .iload_n 1, 10, 1), (10, .invokevirtual 95, 13, 3), (13, .ifCond .ne 7, 16, 3), (16, .iconst 1, 17, 1), (17, .goto 4, 20, 3), (20, .iconst 0, 21, 1), (21, .ireturn, 22, 1)])
theorem ok6_isOnTop : MOk m6_isOnTop := ⟨by decide, mem_g 856 (by decide +kernel) rfl, ini6, ⟨by decide, by decide⟩, by decide, by unfold MDe; decide +kernel⟩
def m6_closedAbove : MD := (yX6_closedAbove, cX6_closedAbove, 4, (some (Jvm.ClassFile.FieldType.int)), [(0, .aload_n 0, 1, 1), (1, .iload_n 1, 2, 1), (2, .invokevirtual 88, 5, 3), (5, .ifCond .ne 5, 8, 3), (8, .iconst 0, 9, 1), (9, .ireturn, 10, 1), (10, .iconst 0, 11, 1), (11, .istore_n 2, 12, 1), (12, .iconst 0, 13, 1), (13, .istore_n 3, 14, 1), (14, .iload_n 3, 15, 1), (15, .aload_n 0, 16, 1), (16, .getfield 51, 19, 3), (19, .if_icmp .ge 51, 22, 3), (22, .aload_n 0, 23, 1), (23, .getfield 9, 26, 3), (26, .iload_n 3, 27, 1), (27, .iaload, 28, 1), (28, .ifCond .ne 36, 31, 3), (31, .aload_n 0, 32, 1), (32, .getfield 18, 35, 3), (35, .iload_n 3, 36, 1), (36, .iaload, 37, 1), (37, .aload_n 0, 38, 1), (38, .getfield 18, 41, 3), (41, .iload_n 1, 42, 1), (42, .iaload, 43, 1), (43, .if_icmp .ne 21, 46, 3), (46, .aload_n 0, 47, 1), (47, .getfield 21, 50, 3), (50, .iload_n 3, 51, 1), (51, .iaload, 52, 1), (52, .aload_n 0, 53, 1), (53, .getfield 21, 56, 3), (56, .iload_n 1, 57, 1), (57, .iaload, 58, 1), (58, .if_icmp .le 6, 61, 3), (61, .iinc 2 1, 64, 3), (64, .iinc 3 1, 67, 3), (67, .goto (-53), 70, 3), (70, .iload_n 2, 71, 1), (71, .ireturn, 72, 1)])
theorem ok6_closedAbove : MOk m6_closedAbove := ⟨by decide, mem_g 868 (by decide +kernel) rfl, ini6, ⟨by decide, by decide⟩, by decide, by unfold MDe; decide +kernel⟩
def m6_heightOver : MD := (yX6_heightOver, cX6_heightOver, 4, (some (Jvm.ClassFile.FieldType.int)), [(0, .iconst 0, 1, 1), (1, .istore_n 2, 2, 1), (2, .iconst 0, 3, 1), (3, .istore_n 3, 4, 1), (4, .iload_n 3, 5, 1), (5, .aload_n 0, 6, 1), (6, .getfield 51, 9, 3), (9, .if_icmp .ge 32, 12, 3), (12, .aload_n 0, 13, 1), (13, .getfield 18, 16, 3), (16, .iload_n 3, 17, 1), (17, .iaload, 18, 1), (18, .iload_n 1, 19, 1), (19, .if_icmp .ne 16, 22, 3), (22, .iload_n 2, 23, 1), (23, .aload_n 0, 24, 1), (24, .getfield 21, 27, 3), (27, .iload_n 3, 28, 1), (28, .iaload, 29, 1), (29, .iconst 1, 30, 1), (30, .iadd, 31, 1), (31, .invokestatic 99, 34, 3), (34, .istore_n 2, 35, 1), (35, .iinc 3 1, 38, 3), (38, .goto (-34), 41, 3), (41, .iload_n 2, 42, 1), (42, .ireturn, 43, 1)])
theorem ok6_heightOver : MOk m6_heightOver := ⟨by decide, mem_g 930 (by decide +kernel) rfl, ini6, ⟨by decide, by decide⟩, by decide, by unfold MDe; decide +kernel⟩
def m6_howMany : MD := (yX6_howMany, cX6_howMany, 4, (some (Jvm.ClassFile.FieldType.int)), [(0, .iconst 0, 1, 1), (1, .istore_n 2, 2, 1), (2, .iconst 0, 3, 1), (3, .istore_n 3, 4, 1), (4, .iload_n 3, 5, 1), (5, .aload_n 0, 6, 1), (6, .getfield 51, 9, 3), (9, .if_icmp .ge 22, 12, 3), (12, .aload_n 0, 13, 1), (13, .getfield 9, 16, 3), (16, .iload_n 3, 17, 1), (17, .iaload, 18, 1), (18, .iload_n 1, 19, 1), (19, .if_icmp .ne 6, 22, 3), (22, .iinc 2 1, 25, 3), (25, .iinc 3 1, 28, 3), (28, .goto (-24), 31, 3), (31, .iload_n 2, 32, 1), (32, .ireturn, 33, 1)])
theorem ok6_howMany : MOk m6_howMany := ⟨by decide, mem_g 1012 (by decide +kernel) rfl, ini6, ⟨by decide, by decide⟩, by decide, by unfold MDe; decide +kernel⟩
def m6_drawn : MD := (yX6_drawn, cX6_drawn, 1, (some (Jvm.ClassFile.FieldType.int)), [(0, .aload_n 0, 1, 1), (1, .aload_n 0, 2, 1), (2, .getfield 78, 5, 3), (5, .ldc2_w 102, 8, 3), (8, .lmul, 9, 1), (9, .ldc2_w 104, 12, 3), (12, .ladd, 13, 1), (13, .ldc2_w 106, 16, 3), (16, .land, 17, 1), (17, .putfield 78, 20, 3), (20, .aload_n 0, 21, 1), (21, .getfield 78, 24, 3), (24, .ldc2_w 108, 27, 3), (27, .ldiv, 28, 1), (28, .l2i, 29, 1), (29, .ireturn, 30, 1)])
theorem ok6_drawn : MOk m6_drawn := ⟨by decide, mem_g 986 (by decide +kernel) rfl, ini6, ⟨by decide, by decide⟩, by decide, by unfold MDe; decide +kernel⟩
def m7_init : MD := (yX7_init, cX7_init, 1, none, [(0, .aload_n 0, 1, 1), (1, .invokespecial 3, 4, 3), (4, .aload_n 0, 5, 1), (5, .new 9, 8, 3), (8, .dup, 9, 1), (9, .bipush 20, 11, 2), (11, .iconst 4, 12, 1), (12, .invokespecial 11, 15, 3), (15, .putfield 14, 18, 3), (18, .return_, 19, 1)])
theorem ok7_init : MOk m7_init := ⟨by decide, mem_g 489 (by decide +kernel) rfl, ini7, ⟨by decide, by decide⟩, by decide, by unfold MDe; decide +kernel⟩
def m7_clear : MD := (yX7_clear, cX7_clear, 1, none, [(0, .aload_n 0, 1, 1), (1, .getfield 14, 4, 3), (4, .iconst 0, 5, 1), (5, .putfield 20, 8, 3), (8, .return_, 9, 1)])
theorem ok7_clear : MOk m7_clear := ⟨by decide, mem_g 825 (by decide +kernel) rfl, ini7, ⟨by decide, by decide⟩, by decide, by unfold MDe; decide +kernel⟩
def m7_add : MD := (yX7_add, cX7_add, 5, none, [(0, .aload_n 0, 1, 1), (1, .getfield 14, 4, 3), (4, .invokevirtual 24, 7, 3), (7, .ifCond .eq 10, 10, 3), (10, .aload_n 0, 11, 1), (11, .getfield 14, 14, 3), (14, .invokevirtual 28, 17, 3), (17, .aload_n 0, 18, 1), (18, .getfield 14, 21, 3), (21, .invokevirtual 31, 24, 3), (24, .aload_n 0, 25, 1), (25, .getfield 14, 28, 3), (28, .iconst 0, 29, 1), (29, .iload_n 1, 30, 1), (30, .invokevirtual 34, 33, 3), (33, .aload_n 0, 34, 1), (34, .getfield 14, 37, 3), (37, .iconst 1, 38, 1), (38, .iload_n 2, 39, 1), (39, .invokevirtual 34, 42, 3), (42, .aload_n 0, 43, 1), (43, .getfield 14, 46, 3), (46, .iconst 2, 47, 1), (47, .iload_n 3, 48, 1), (48, .invokevirtual 34, 51, 3), (51, .aload_n 0, 52, 1), (52, .getfield 14, 55, 3), (55, .iconst 3, 56, 1), (56, .iload 4, 58, 2), (58, .invokevirtual 34, 61, 3), (61, .return_, 62, 1)])
theorem ok7_add : MOk m7_add := ⟨by decide, mem_g 915 (by decide +kernel) rfl, ini7, ⟨by decide, by decide⟩, by decide, by unfold MDe; decide +kernel⟩
def m7_takeBack : MD := (yX7_takeBack, cX7_takeBack, 5, none, [(0, .aload_n 0, 1, 1), (1, .getfield 14, 4, 3), (4, .getfield 20, 7, 3), (7, .iconst 1, 8, 1), (8, .isub, 9, 1), (9, .istore_n 2, 10, 1), (10, .aload_n 0, 11, 1), (11, .getfield 14, 14, 3), (14, .iload_n 2, 15, 1), (15, .iconst 0, 16, 1), (16, .invokevirtual 37, 19, 3), (19, .istore_n 3, 20, 1), (20, .aload_n 0, 21, 1), (21, .getfield 14, 24, 3), (24, .iload_n 2, 25, 1), (25, .iconst 1, 26, 1), (26, .invokevirtual 37, 29, 3), (29, .istore 4, 31, 2), (31, .iload_n 3, 32, 1), (32, .iconst 3, 33, 1), (33, .if_icmp .ne 17, 36, 3), (36, .aload_n 1, 37, 1), (37, .dup, 38, 1), (38, .getfield 41, 41, 3), (41, .iload 4, 43, 2), (43, .isub, 44, 1), (44, .putfield 41, 47, 3), (47, .goto 20, 50, 3), (50, .aload_n 1, 51, 1), (51, .iload 4, 53, 2), (53, .invokevirtual 46, 56, 3), (56, .ifCond .eq 11, 59, 3), (59, .aload_n 0, 60, 1), (60, .aload_n 1, 61, 1), (61, .iload_n 3, 62, 1), (62, .iload 4, 64, 2), (64, .invokevirtual 50, 67, 3), (67, .aload_n 0, 68, 1), (68, .getfield 14, 71, 3), (71, .iload_n 2, 72, 1), (72, .iconst 0, 73, 1), (73, .invokestatic 54, 76, 3), (76, .putfield 20, 79, 3), (79, .return_, 80, 1)])
theorem ok7_takeBack : MOk m7_takeBack := ⟨by decide, mem_g 1193 (by decide +kernel) rfl, ini7, ⟨by decide, by decide⟩, by decide, by unfold MDe; decide +kernel⟩
def m7_takeBackOfTin : MD := (yX7_takeBackOfTin, cX7_takeBackOfTin, 5, none, [(0, .aload_n 0, 1, 1), (1, .getfield 14, 4, 3), (4, .getfield 20, 7, 3), (7, .iconst 1, 8, 1), (8, .isub, 9, 1), (9, .istore 4, 11, 2), (11, .iload_n 2, 12, 1), (12, .ifCond .ne 30, 15, 3), (15, .aload_n 1, 16, 1), (16, .getfield 59, 19, 3), (19, .iload_n 3, 20, 1), (20, .iconst 0, 21, 1), (21, .iastore, 22, 1), (22, .aload_n 1, 23, 1), (23, .getfield 63, 26, 3), (26, .iload_n 3, 27, 1), (27, .iconst 0, 28, 1), (28, .iastore, 29, 1), (29, .aload_n 1, 30, 1), (30, .dup, 31, 1), (31, .getfield 41, 34, 3), (34, .iconst 1, 35, 1), (35, .iadd, 36, 1), (36, .putfield 41, 39, 3), (39, .goto 53, 42, 3), (42, .iload_n 2, 43, 1), (43, .iconst 1, 44, 1), (44, .if_icmp .ne 38, 47, 3), (47, .aload_n 1, 48, 1), (48, .getfield 66, 51, 3), (51, .iload_n 3, 52, 1), (52, .aload_n 0, 53, 1), (53, .getfield 14, 56, 3), (56, .iload 4, 58, 2), (58, .iconst 2, 59, 1), (59, .invokevirtual 37, 62, 3), (62, .iastore, 63, 1), (63, .aload_n 1, 64, 1), (64, .getfield 69, 67, 3), (67, .iload_n 3, 68, 1), (68, .aload_n 0, 69, 1), (69, .getfield 14, 72, 3), (72, .iload 4, 74, 2), (74, .iconst 3, 75, 1), (75, .invokevirtual 37, 78, 3), (78, .iastore, 79, 1), (79, .goto 13, 82, 3), (82, .aload_n 1, 83, 1), (83, .getfield 72, 86, 3), (86, .iload_n 3, 87, 1), (87, .dup2, 88, 1), (88, .iaload, 89, 1), (89, .iconst 1, 90, 1), (90, .isub, 91, 1), (91, .iastore, 92, 1), (92, .return_, 93, 1)])
theorem ok7_takeBackOfTin : MOk m7_takeBackOfTin := ⟨by decide, mem_g 1199 (by decide +kernel) rfl, ini7, ⟨by decide, by decide⟩, by decide, by unfold MDe; decide +kernel⟩
def m8_init : MD := (yX8_init, cX8_init, 1, none, [(0, .aload_n 0, 1, 1), (1, .invokespecial 3, 4, 3), (4, .aload_n 0, 5, 1), (5, .new 9, 8, 3), (8, .dup, 9, 1), (9, .bipush 24, 11, 2), (11, .iconst 4, 12, 1), (12, .invokespecial 11, 15, 3), (15, .putfield 14, 18, 3), (18, .aload_n 0, 19, 1), (19, .iconst (-1), 20, 1), (20, .putfield 20, 23, 3), (23, .return_, 24, 1)])
theorem ok8_init : MOk m8_init := ⟨by decide, mem_g 472 (by decide +kernel) rfl, ini8, ⟨by decide, by decide⟩, by decide, by unfold MDe; decide +kernel⟩
def m8_clear : MD := (yX8_clear, cX8_clear, 1, none, [(0, .aload_n 0, 1, 1), (1, .getfield 14, 4, 3), (4, .iconst 0, 5, 1), (5, .putfield 24, 8, 3), (8, .aload_n 0, 9, 1), (9, .iconst (-1), 10, 1), (10, .putfield 20, 13, 3), (13, .return_, 14, 1)])
theorem ok8_clear : MOk m8_clear := ⟨by decide, mem_g 821 (by decide +kernel) rfl, ini8, ⟨by decide, by decide⟩, by decide, by unfold MDe; decide +kernel⟩
def m8_add : MD := (yX8_add, cX8_add, 5, (some (Jvm.ClassFile.FieldType.int)), [(0, .aload_n 0, 1, 1), (1, .getfield 14, 4, 3), (4, .invokevirtual 27, 7, 3), (7, .ifCond .eq 5, 10, 3), (10, .iconst (-1), 11, 1), (11, .ireturn, 12, 1), (12, .aload_n 0, 13, 1), (13, .getfield 14, 16, 3), (16, .invokevirtual 31, 19, 3), (19, .aload_n 0, 20, 1), (20, .getfield 14, 23, 3), (23, .iconst 0, 24, 1), (24, .iload_n 1, 25, 1), (25, .invokevirtual 34, 28, 3), (28, .aload_n 0, 29, 1), (29, .getfield 14, 32, 3), (32, .iconst 1, 33, 1), (33, .iload_n 2, 34, 1), (34, .invokevirtual 34, 37, 3), (37, .aload_n 0, 38, 1), (38, .getfield 14, 41, 3), (41, .iconst 2, 42, 1), (42, .iload_n 3, 43, 1), (43, .invokevirtual 34, 46, 3), (46, .aload_n 0, 47, 1), (47, .getfield 14, 50, 3), (50, .iconst 3, 51, 1), (51, .iload 4, 53, 2), (53, .ifCond .eq 7, 56, 3), (56, .iconst 1, 57, 1), (57, .goto 4, 60, 3), (60, .iconst 0, 61, 1), (61, .invokevirtual 34, 64, 3), (64, .aload_n 0, 65, 1), (65, .getfield 14, 68, 3), (68, .getfield 24, 71, 3), (71, .iconst 1, 72, 1), (72, .isub, 73, 1), (73, .ireturn, 74, 1)])
theorem ok8_add : MOk m8_add := ⟨by decide, mem_g 1107 (by decide +kernel) rfl, ini8, ⟨by decide, by decide⟩, by decide, by unfold MDe; decide +kernel⟩
def m8_howManyKnown : MD := (yX8_howManyKnown, cX8_howManyKnown, 1, (some (Jvm.ClassFile.FieldType.int)), [(0, .aload_n 0, 1, 1), (1, .getfield 20, 4, 3), (4, .iconst (-1), 5, 1), (5, .if_icmp .ne 13, 8, 3), (8, .aload_n 0, 9, 1), (9, .getfield 14, 12, 3), (12, .getfield 24, 15, 3), (15, .goto 17, 18, 3), (18, .aload_n 0, 19, 1), (19, .getfield 20, 22, 3), (22, .aload_n 0, 23, 1), (23, .getfield 14, 26, 3), (26, .getfield 24, 29, 3), (29, .invokestatic 37, 32, 3), (32, .ireturn, 33, 1)])
theorem ok8_howManyKnown : MOk m8_howManyKnown := ⟨by decide, mem_g 1134 (by decide +kernel) rfl, ini8, ⟨by decide, by decide⟩, by decide, by unfold MDe; decide +kernel⟩
def m8_counted : MD := (yX8_counted, cX8_counted, 4, (some (Jvm.ClassFile.FieldType.int)), [(0, .iconst 0, 1, 1), (1, .istore_n 1, 2, 1), (2, .iconst 0, 3, 1), (3, .istore_n 2, 4, 1), (4, .aload_n 0, 5, 1), (5, .invokevirtual 43, 8, 3), (8, .iconst 1, 9, 1), (9, .isub, 10, 1), (10, .istore_n 3, 11, 1), (11, .iload_n 3, 12, 1), (12, .ifCond .lt 50, 15, 3), (15, .iload_n 2, 16, 1), (16, .iload_n 3, 17, 1), (17, .invokestatic 47, 20, 3), (20, .ifCond .ne 36, 23, 3), (23, .iload_n 1, 24, 1), (24, .iconst 1, 25, 1), (25, .iload_n 3, 26, 1), (26, .ishl, 27, 1), (27, .ior, 28, 1), (28, .istore_n 1, 29, 1), (29, .aload_n 0, 30, 1), (30, .getfield 14, 33, 3), (33, .iload_n 3, 34, 1), (34, .iconst 0, 35, 1), (35, .invokevirtual 51, 38, 3), (38, .iconst 3, 39, 1), (39, .if_icmp .ne 17, 42, 3), (42, .iload_n 2, 43, 1), (43, .iconst 1, 44, 1), (44, .aload_n 0, 45, 1), (45, .getfield 14, 48, 3), (48, .iload_n 3, 49, 1), (49, .iconst 1, 50, 1), (50, .invokevirtual 51, 53, 3), (53, .ishl, 54, 1), (54, .ior, 55, 1), (55, .istore_n 2, 56, 1), (56, .iinc 3 (-1), 59, 3), (59, .goto (-48), 62, 3), (62, .iload_n 1, 63, 1), (63, .ireturn, 64, 1)])
theorem ok8_counted : MOk m8_counted := ⟨by decide, mem_g 1130 (by decide +kernel) rfl, ini8, ⟨by decide, by decide⟩, by decide, by unfold MDe; decide +kernel⟩
def m8_mayBe : MD := (yX8_mayBe, cX8_mayBe, 7, (some (Jvm.ClassFile.FieldType.boolean)), [(0, .iconst 0, 1, 1), (1, .istore 4, 3, 2), (3, .iload 4, 5, 2), (5, .aload_n 0, 6, 1), (6, .getfield 14, 9, 3), (9, .getfield 24, 12, 3), (12, .if_icmp .ge 97, 15, 3), (15, .aload_n 0, 16, 1), (16, .getfield 14, 19, 3), (19, .iload 4, 21, 2), (21, .iconst 0, 22, 1), (22, .invokevirtual 51, 25, 3), (25, .istore 5, 27, 2), (27, .iload_n 1, 28, 1), (28, .iload 4, 30, 2), (30, .invokestatic 47, 33, 3), (33, .ifCond .eq 70, 36, 3), (36, .iload 5, 38, 2), (38, .ifCond .eq 9, 41, 3), (41, .iload 5, 43, 2), (43, .iconst 1, 44, 1), (44, .if_icmp .ne 59, 47, 3), (47, .iload 5, 49, 2), (49, .ifCond .ne 7, 52, 3), (52, .iload_n 2, 53, 1), (53, .goto 4, 56, 3), (56, .iload_n 3, 57, 1), (57, .aload_n 0, 58, 1), (58, .getfield 14, 61, 3), (61, .iload 4, 63, 2), (63, .iconst 1, 64, 1), (64, .invokevirtual 51, 67, 3), (67, .if_icmp .lt 7, 70, 3), (70, .iconst 1, 71, 1), (71, .goto 4, 74, 3), (74, .iconst 0, 75, 1), (75, .istore 6, 77, 2), (77, .iload 6, 79, 2), (79, .aload_n 0, 80, 1), (80, .getfield 14, 83, 3), (83, .iload 4, 85, 2), (85, .iconst 3, 86, 1), (86, .invokevirtual 51, 89, 3), (89, .iconst 1, 90, 1), (90, .if_icmp .ne 7, 93, 3), (93, .iconst 1, 94, 1), (94, .goto 4, 97, 3), (97, .iconst 0, 98, 1), (98, .if_icmp .eq 5, 101, 3), (101, .iconst 0, 102, 1), (102, .ireturn, 103, 1), (103, .iinc 4 1, 106, 3), (106, .goto (-103), 109, 3), (109, .iconst 1, 110, 1), (110, .ireturn, 111, 1)])
theorem ok8_mayBe : MOk m8_mayBe := ⟨by decide, mem_g 1141 (by decide +kernel) rfl, ini8, ⟨by decide, by decide⟩, by decide, by unfold MDe; decide +kernel⟩
def m8_lastSeen : MD := (yX8_lastSeen, cX8_lastSeen, 4, (some (Jvm.ClassFile.FieldType.int)), [(0, .iconst 0, 1, 1), (1, .istore_n 2, 2, 1), (2, .iconst 0, 3, 1), (3, .istore_n 3, 4, 1), (4, .iload_n 3, 5, 1), (5, .aload_n 0, 6, 1), (6, .getfield 14, 9, 3), (9, .getfield 24, 12, 3), (12, .if_icmp .ge 44, 15, 3), (15, .iload_n 1, 16, 1), (16, .iload_n 3, 17, 1), (17, .invokestatic 47, 20, 3), (20, .ifCond .eq 30, 23, 3), (23, .aload_n 0, 24, 1), (24, .getfield 14, 27, 3), (27, .iload_n 3, 28, 1), (28, .iconst 0, 29, 1), (29, .invokevirtual 51, 32, 3), (32, .iconst 2, 33, 1), (33, .if_icmp .ne 17, 36, 3), (36, .iload_n 2, 37, 1), (37, .aload_n 0, 38, 1), (38, .getfield 14, 41, 3), (41, .iload_n 3, 42, 1), (42, .iconst 1, 43, 1), (43, .invokevirtual 51, 46, 3), (46, .invokestatic 54, 49, 3), (49, .istore_n 2, 50, 1), (50, .iinc 3 1, 53, 3), (53, .goto (-49), 56, 3), (56, .iload_n 2, 57, 1), (57, .bipush 60, 59, 2), (59, .invokestatic 37, 62, 3), (62, .ireturn, 63, 1)])
theorem ok8_lastSeen : MOk m8_lastSeen := ⟨by decide, mem_g 1167 (by decide +kernel) rfl, ini8, ⟨by decide, by decide⟩, by decide, by unfold MDe; decide +kernel⟩
def m8_isSeenSo : MD := (yX8_isSeenSo, cX8_isSeenSo, 7, (some (Jvm.ClassFile.FieldType.boolean)), [(0, .iconst 0, 1, 1), (1, .istore 4, 3, 2), (3, .iload 4, 5, 2), (5, .aload_n 0, 6, 1), (6, .getfield 14, 9, 3), (9, .getfield 24, 12, 3), (12, .if_icmp .ge 111, 15, 3), (15, .iload_n 1, 16, 1), (16, .iload 4, 18, 2), (18, .invokestatic 47, 21, 3), (21, .ifCond .eq 96, 24, 3), (24, .aload_n 0, 25, 1), (25, .getfield 14, 28, 3), (28, .iload 4, 30, 2), (30, .iconst 0, 31, 1), (31, .invokevirtual 51, 34, 3), (34, .iconst 2, 35, 1), (35, .if_icmp .ne 82, 38, 3), (38, .aload_n 0, 39, 1), (39, .getfield 14, 42, 3), (42, .iload 4, 44, 2), (44, .iconst 1, 45, 1), (45, .invokevirtual 51, 48, 3), (48, .iload_n 2, 49, 1), (49, .if_icmp .ne 68, 52, 3), (52, .aload_n 0, 53, 1), (53, .getfield 14, 56, 3), (56, .iload 4, 58, 2), (58, .iconst 2, 59, 1), (59, .invokevirtual 51, 62, 3), (62, .istore 5, 64, 2), (64, .aload_n 3, 65, 1), (65, .iload 5, 67, 2), (67, .invokevirtual 57, 70, 3), (70, .ifCond .eq 18, 73, 3), (73, .aload_n 3, 74, 1), (74, .getfield 63, 77, 3), (77, .iload 5, 79, 2), (79, .iaload, 80, 1), (80, .iconst 3, 81, 1), (81, .if_icmp .ne 7, 84, 3), (84, .iconst 1, 85, 1), (85, .goto 4, 88, 3), (88, .iconst 0, 89, 1), (89, .istore 6, 91, 2), (91, .iload 6, 93, 2), (93, .aload_n 0, 94, 1), (94, .getfield 14, 97, 3), (97, .iload 4, 99, 2), (99, .iconst 3, 100, 1), (100, .invokevirtual 51, 103, 3), (103, .iconst 1, 104, 1), (104, .if_icmp .ne 7, 107, 3), (107, .iconst 1, 108, 1), (108, .goto 4, 111, 3), (111, .iconst 0, 112, 1), (112, .if_icmp .eq 5, 115, 3), (115, .iconst 0, 116, 1), (116, .ireturn, 117, 1), (117, .iinc 4 1, 120, 3), (120, .goto (-117), 123, 3), (123, .iconst 1, 124, 1), (124, .ireturn, 125, 1)])
theorem ok8_isSeenSo : MOk m8_isSeenSo := ⟨by decide, mem_g 1172 (by decide +kernel) rfl, ini8, ⟨by decide, by decide⟩, by decide, by unfold MDe; decide +kernel⟩
def m9_init : MD := (yX9_init, cX9_init, 1, none, [(0, .aload_n 0, 1, 1), (1, .invokespecial 3, 4, 3), (4, .aload_n 0, 5, 1), (5, .sipush 700, 8, 3), (8, .newarray .byte, 10, 2), (10, .putfield 11, 13, 3), (13, .aload_n 0, 14, 1), (14, .new 15, 17, 3), (17, .dup, 18, 1), (18, .invokespecial 17, 21, 3), (21, .putfield 18, 24, 3), (24, .aload_n 0, 25, 1), (25, .new 22, 28, 3), (28, .dup, 29, 1), (29, .invokespecial 24, 32, 3), (32, .putfield 25, 35, 3), (35, .aload_n 0, 36, 1), (36, .new 29, 39, 3), (39, .dup, 40, 1), (40, .aload_n 0, 41, 1), (41, .getfield 25, 44, 3), (44, .invokespecial 31, 47, 3), (47, .putfield 34, 50, 3), (50, .aload_n 0, 51, 1), (51, .new 38, 54, 3), (54, .dup, 55, 1), (55, .invokespecial 40, 58, 3), (58, .putfield 41, 61, 3), (61, .aload_n 0, 62, 1), (62, .new 38, 65, 3), (65, .dup, 66, 1), (66, .invokespecial 40, 69, 3), (69, .putfield 45, 72, 3), (72, .aload_n 0, 73, 1), (73, .new 38, 76, 3), (76, .dup, 77, 1), (77, .invokespecial 40, 80, 3), (80, .putfield 48, 83, 3), (83, .aload_n 0, 84, 1), (84, .new 51, 87, 3), (87, .dup, 88, 1), (88, .invokespecial 53, 91, 3), (91, .putfield 54, 94, 3), (94, .aload_n 0, 95, 1), (95, .new 58, 98, 3), (98, .dup, 99, 1), (99, .invokespecial 60, 102, 3), (102, .putfield 61, 105, 3), (105, .aload_n 0, 106, 1), (106, .iconst 4, 107, 1), (107, .newarray .int, 109, 2), (109, .putfield 65, 112, 3), (112, .aload_n 0, 113, 1), (113, .iconst 4, 114, 1), (114, .newarray .int, 116, 2), (116, .putfield 69, 119, 3), (119, .aload_n 0, 120, 1), (120, .getfield 41, 123, 3), (123, .aload_n 0, 124, 1), (124, .getfield 25, 127, 3), (127, .invokevirtual 72, 130, 3), (130, .return_, 131, 1)])
theorem ok9_init : MOk m9_init := ⟨by decide, mem_g 133 (by decide +kernel) rfl, ini9, ⟨by decide, by decide⟩, by decide, by unfold MDe; decide +kernel⟩
def m9_feed : MD := (yX9_feed, cX9_feed, 6, (some (Jvm.ClassFile.FieldType.int)), [(0, .aload_n 0, 1, 1), (1, .getfield 75, 4, 3), (4, .bipush 20, 6, 2), (6, .iadd, 7, 1), (7, .sipush 700, 10, 3), (10, .if_icmp .le 5, 13, 3), (13, .iconst (-1), 14, 1), (14, .ireturn, 15, 1), (15, .aload_n 0, 16, 1), (16, .iload_n 1, 17, 1), (17, .invokevirtual 79, 20, 3), (20, .aload_n 0, 21, 1), (21, .iload_n 2, 22, 1), (22, .invokevirtual 79, 25, 3), (25, .aload_n 0, 26, 1), (26, .iload_n 3, 27, 1), (27, .invokevirtual 79, 30, 3), (30, .aload_n 0, 31, 1), (31, .iload 4, 33, 2), (33, .invokevirtual 79, 36, 3), (36, .aload_n 0, 37, 1), (37, .iload 5, 39, 2), (39, .invokevirtual 79, 42, 3), (42, .aload_n 0, 43, 1), (43, .getfield 75, 46, 3), (46, .ireturn, 47, 1)])
theorem ok9_feed : MOk m9_feed := ⟨by decide, mem_g 560 (by decide +kernel) rfl, ini9, ⟨by decide, by decide⟩, by decide, by unfold MDe; decide +kernel⟩
def m9_tapeNumber : MD := (yX9_tapeNumber, cX9_tapeNumber, 3, none, [(0, .bipush 24, 2, 2), (2, .istore_n 2, 3, 1), (3, .iload_n 2, 4, 1), (4, .ifCond .lt 42, 7, 3), (7, .aload_n 0, 8, 1), (8, .getfield 75, 11, 3), (11, .sipush 700, 14, 3), (14, .if_icmp .ge 32, 17, 3), (17, .aload_n 0, 18, 1), (18, .getfield 11, 21, 3), (21, .aload_n 0, 22, 1), (22, .getfield 75, 25, 3), (25, .iload_n 1, 26, 1), (26, .iload_n 2, 27, 1), (27, .ishr, 28, 1), (28, .i2b, 29, 1), (29, .bastore, 30, 1), (30, .aload_n 0, 31, 1), (31, .dup, 32, 1), (32, .getfield 75, 35, 3), (35, .iconst 1, 36, 1), (36, .iadd, 37, 1), (37, .putfield 75, 40, 3), (40, .iinc 2 (-8), 43, 3), (43, .goto (-40), 46, 3), (46, .return_, 47, 1)])
theorem ok9_tapeNumber : MOk m9_tapeNumber := ⟨by decide, mem_g 564 (by decide +kernel) rfl, ini9, ⟨by decide, by decide⟩, by decide, by unfold MDe; decide +kernel⟩
def m9_text : MD := (yX9_text, cX9_text, 2, (some (Jvm.ClassFile.FieldType.int)), [(0, .iload_n 1, 1, 1), (1, .ifCond .lt 11, 4, 3), (4, .iload_n 1, 5, 1), (5, .aload_n 0, 6, 1), (6, .getfield 75, 9, 3), (9, .if_icmp .le 6, 12, 3), (12, .bipush (-2), 14, 2), (14, .ireturn, 15, 1), (15, .aload_n 0, 16, 1), (16, .iconst 0, 17, 1), (17, .putfield 75, 20, 3), (20, .aload_n 0, 21, 1), (21, .getfield 18, 24, 3), (24, .aload_n 0, 25, 1), (25, .getfield 11, 28, 3), (28, .iload_n 1, 29, 1), (29, .invokevirtual 83, 32, 3), (32, .aload_n 0, 33, 1), (33, .getfield 18, 36, 3), (36, .getfield 87, 39, 3), (39, .ifCond .eq 5, 42, 3), (42, .iconst (-1), 43, 1), (43, .ireturn, 44, 1), (44, .aload_n 0, 45, 1), (45, .getfield 25, 48, 3), (48, .aload_n 0, 49, 1), (49, .getfield 18, 52, 3), (52, .getfield 90, 55, 3), (55, .invokevirtual 91, 58, 3), (58, .aload_n 0, 59, 1), (59, .getfield 41, 62, 3), (62, .aload_n 0, 63, 1), (63, .getfield 25, 66, 3), (66, .invokevirtual 72, 69, 3), (69, .aload_n 0, 70, 1), (70, .getfield 54, 73, 3), (73, .invokevirtual 94, 76, 3), (76, .aload_n 0, 77, 1), (77, .getfield 61, 80, 3), (80, .invokevirtual 97, 83, 3), (83, .aload_n 0, 84, 1), (84, .iconst 0, 85, 1), (85, .putfield 98, 88, 3), (88, .aload_n 0, 89, 1), (89, .getfield 18, 92, 3), (92, .getfield 102, 95, 3), (95, .ireturn, 96, 1)])
theorem ok9_text : MOk m9_text := ⟨by decide, mem_g 568 (by decide +kernel) rfl, ini9, ⟨by decide, by decide⟩, by decide, by unfold MDe; decide +kernel⟩
def m9_fault : MD := (yX9_fault, cX9_fault, 2, (some (Jvm.ClassFile.FieldType.int)), [(0, .iload_n 1, 1, 1), (1, .lookupswitch 43 #[(0, 27), (1, 35)], 28, 27), (28, .aload_n 0, 29, 1), (29, .getfield 18, 32, 3), (32, .getfield 87, 35, 3), (35, .ireturn, 36, 1), (36, .aload_n 0, 37, 1), (37, .getfield 18, 40, 3), (40, .getfield 105, 43, 3), (43, .ireturn, 44, 1), (44, .iconst (-1), 45, 1), (45, .ireturn, 46, 1)])
theorem ok9_fault : MOk m9_fault := ⟨by decide, mem_g 829 (by decide +kernel) rfl, ini9, ⟨by decide, by decide⟩, by decide, by unfold MDe; decide +kernel⟩
def m9_named : MD := (yX9_named, cX9_named, 3, (some (Jvm.ClassFile.FieldType.int)), [(0, .iload_n 1, 1, 1), (1, .lookupswitch 51 #[(0, 27), (1, 39)], 28, 27), (28, .aload_n 0, 29, 1), (29, .getfield 25, 32, 3), (32, .getfield 108, 35, 3), (35, .iload_n 2, 36, 1), (36, .invokevirtual 112, 39, 3), (39, .ireturn, 40, 1), (40, .aload_n 0, 41, 1), (41, .getfield 25, 44, 3), (44, .getfield 118, 47, 3), (47, .iload_n 2, 48, 1), (48, .invokevirtual 112, 51, 3), (51, .ireturn, 52, 1), (52, .iconst (-1), 53, 1), (53, .ireturn, 54, 1)])
theorem ok9_named : MOk m9_named := ⟨by decide, mem_g 833 (by decide +kernel) rfl, ini9, ⟨by decide, by decide⟩, by decide, by unfold MDe; decide +kernel⟩
def m9_tin : MD := (yX9_tin, cX9_tin, 3, (some (Jvm.ClassFile.FieldType.int)), [(0, .aload_n 0, 1, 1), (1, .getfield 41, 4, 3), (4, .iload_n 1, 5, 1), (5, .invokevirtual 121, 8, 3), (8, .ifCond .ne 13, 11, 3), (11, .new 125, 14, 3), (14, .dup, 15, 1), (15, .ldc 127, 17, 2), (17, .invokespecial 129, 20, 3), (20, .athrow, 21, 1), (21, .iload_n 2, 22, 1), (22, .tableswitch 118 0 6 #[42, 55, 65, 78, 88, 98, 108], 64, 42), (64, .aload_n 0, 65, 1), (65, .getfield 25, 68, 3), (68, .getfield 118, 71, 3), (71, .iload_n 1, 72, 1), (72, .iconst 1, 73, 1), (73, .invokevirtual 132, 76, 3), (76, .ireturn, 77, 1), (77, .aload_n 0, 78, 1), (78, .getfield 41, 81, 3), (81, .getfield 136, 84, 3), (84, .iload_n 1, 85, 1), (85, .iaload, 86, 1), (86, .ireturn, 87, 1), (87, .aload_n 0, 88, 1), (88, .getfield 25, 91, 3), (91, .getfield 118, 94, 3), (94, .iload_n 1, 95, 1), (95, .iconst 3, 96, 1), (96, .invokevirtual 132, 99, 3), (99, .ireturn, 100, 1), (100, .aload_n 0, 101, 1), (101, .getfield 41, 104, 3), (104, .getfield 139, 107, 3), (107, .iload_n 1, 108, 1), (108, .iaload, 109, 1), (109, .ireturn, 110, 1), (110, .aload_n 0, 111, 1), (111, .getfield 41, 114, 3), (114, .getfield 142, 117, 3), (117, .iload_n 1, 118, 1), (118, .iaload, 119, 1), (119, .ireturn, 120, 1), (120, .aload_n 0, 121, 1), (121, .getfield 41, 124, 3), (124, .getfield 145, 127, 3), (127, .iload_n 1, 128, 1), (128, .iaload, 129, 1), (129, .ireturn, 130, 1), (130, .aload_n 0, 131, 1), (131, .getfield 41, 134, 3), (134, .getfield 148, 137, 3), (137, .iload_n 1, 138, 1), (138, .iaload, 139, 1), (139, .ireturn, 140, 1), (140, .new 151, 143, 3), (143, .dup, 144, 1), (144, .ldc 153, 146, 2), (146, .invokespecial 155, 149, 3), (149, .athrow, 150, 1)])
theorem ok9_tin : MOk m9_tin := ⟨by decide, mem_g 1222 (by decide +kernel) rfl, ini9, ⟨by decide, by decide⟩, by decide, by unfold MDe; decide +kernel⟩
def m9_kind : MD := (yX9_kind, cX9_kind, 3, (some (Jvm.ClassFile.FieldType.int)), [(0, .aload_n 0, 1, 1), (1, .getfield 25, 4, 3), (4, .getfield 108, 7, 3), (7, .iload_n 1, 8, 1), (8, .invokevirtual 156, 11, 3), (11, .ifCond .ne 5, 14, 3), (14, .iconst (-1), 15, 1), (15, .ireturn, 16, 1), (16, .iload_n 2, 17, 1), (17, .tableswitch 71 0 3 #[31, 44, 57, 64], 48, 31), (48, .aload_n 0, 49, 1), (49, .getfield 25, 52, 3), (52, .getfield 108, 55, 3), (55, .iload_n 1, 56, 1), (56, .iconst 1, 57, 1), (57, .invokevirtual 132, 60, 3), (60, .ireturn, 61, 1), (61, .aload_n 0, 62, 1), (62, .getfield 25, 65, 3), (65, .getfield 108, 68, 3), (68, .iload_n 1, 69, 1), (69, .iconst 2, 70, 1), (70, .invokevirtual 132, 73, 3), (73, .ireturn, 74, 1), (74, .aload_n 0, 75, 1), (75, .iload_n 1, 76, 1), (76, .iconst 0, 77, 1), (77, .invokevirtual 157, 80, 3), (80, .ireturn, 81, 1), (81, .aload_n 0, 82, 1), (82, .iload_n 1, 83, 1), (83, .iconst 1, 84, 1), (84, .invokevirtual 157, 87, 3), (87, .ireturn, 88, 1), (88, .iconst (-1), 89, 1), (89, .ireturn, 90, 1)])
theorem ok9_kind : MOk m9_kind := ⟨by decide, mem_g 838 (by decide +kernel) rfl, ini9, ⟨by decide, by decide⟩, by decide, by unfold MDe; decide +kernel⟩
def m9_tinsOf : MD := (yX9_tinsOf, cX9_tinsOf, 5, (some (Jvm.ClassFile.FieldType.int)), [(0, .iconst 0, 1, 1), (1, .istore_n 3, 2, 1), (2, .iconst 0, 3, 1), (3, .istore 4, 5, 2), (5, .iload 4, 7, 2), (7, .aload_n 0, 8, 1), (8, .getfield 41, 11, 3), (11, .getfield 160, 14, 3), (14, .if_icmp .ge 47, 17, 3), (17, .aload_n 0, 18, 1), (18, .getfield 41, 21, 3), (21, .getfield 142, 24, 3), (24, .iload 4, 26, 2), (26, .iaload, 27, 1), (27, .iload_n 2, 28, 1), (28, .if_icmp .ne 27, 31, 3), (31, .aload_n 0, 32, 1), (32, .getfield 25, 35, 3), (35, .getfield 118, 38, 3), (38, .iload 4, 40, 2), (40, .iconst 1, 41, 1), (41, .invokevirtual 132, 44, 3), (44, .iload_n 1, 45, 1), (45, .if_icmp .ne 10, 48, 3), (48, .iload_n 3, 49, 1), (49, .iconst 1, 50, 1), (50, .iload 4, 52, 2), (52, .ishl, 53, 1), (53, .ior, 54, 1), (54, .istore_n 3, 55, 1), (55, .iinc 4 1, 58, 3), (58, .goto (-53), 61, 3), (61, .iload_n 3, 62, 1), (62, .ireturn, 63, 1)])
theorem ok9_tinsOf : MOk m9_tinsOf := ⟨by decide, mem_g 844 (by decide +kernel) rfl, ini9, ⟨by decide, by decide⟩, by decide, by unfold MDe; decide +kernel⟩
def m9_want : MD := (yX9_want, cX9_want, 3, (some (Jvm.ClassFile.FieldType.int)), [(0, .aload_n 0, 1, 1), (1, .getfield 25, 4, 3), (4, .getfield 162, 7, 3), (7, .iload_n 1, 8, 1), (8, .invokevirtual 156, 11, 3), (11, .ifCond .ne 5, 14, 3), (14, .iconst (-1), 15, 1), (15, .ireturn, 16, 1), (16, .iload_n 2, 17, 1), (17, .tableswitch 80 0 3 #[31, 44, 57, 70], 48, 31), (48, .aload_n 0, 49, 1), (49, .getfield 25, 52, 3), (52, .getfield 162, 55, 3), (55, .iload_n 1, 56, 1), (56, .iconst 0, 57, 1), (57, .invokevirtual 132, 60, 3), (60, .ireturn, 61, 1), (61, .aload_n 0, 62, 1), (62, .getfield 25, 65, 3), (65, .getfield 162, 68, 3), (68, .iload_n 1, 69, 1), (69, .iconst 1, 70, 1), (70, .invokevirtual 132, 73, 3), (73, .ireturn, 74, 1), (74, .aload_n 0, 75, 1), (75, .getfield 25, 78, 3), (78, .getfield 162, 81, 3), (81, .iload_n 1, 82, 1), (82, .iconst 2, 83, 1), (83, .invokevirtual 132, 86, 3), (86, .ireturn, 87, 1), (87, .aload_n 0, 88, 1), (88, .getfield 41, 91, 3), (91, .getfield 165, 94, 3), (94, .iload_n 1, 95, 1), (95, .iaload, 96, 1), (96, .ireturn, 97, 1), (97, .iconst (-1), 98, 1), (98, .ireturn, 99, 1)])
theorem ok9_want : MOk m9_want := ⟨by decide, mem_g 848 (by decide +kernel) rfl, ini9, ⟨by decide, by decide⟩, by decide, by unfold MDe; decide +kernel⟩
def m9_top : MD := (yX9_top, cX9_top, 3, (some (Jvm.ClassFile.FieldType.int)), [(0, .iload_n 1, 1, 1), (1, .ifCond .lt 8, 4, 3), (4, .iload_n 1, 5, 1), (5, .iconst 4, 6, 1), (6, .if_icmp .lt 5, 9, 3), (9, .iconst (-1), 10, 1), (10, .ireturn, 11, 1), (11, .iconst 0, 12, 1), (12, .istore_n 2, 13, 1), (13, .iload_n 2, 14, 1), (14, .aload_n 0, 15, 1), (15, .getfield 41, 18, 3), (18, .getfield 160, 21, 3), (21, .if_icmp .ge 35, 24, 3), (24, .aload_n 0, 25, 1), (25, .getfield 41, 28, 3), (28, .getfield 139, 31, 3), (31, .iload_n 2, 32, 1), (32, .iaload, 33, 1), (33, .iload_n 1, 34, 1), (34, .if_icmp .ne 16, 37, 3), (37, .aload_n 0, 38, 1), (38, .getfield 41, 41, 3), (41, .iload_n 2, 42, 1), (42, .invokevirtual 167, 45, 3), (45, .ifCond .eq 5, 48, 3), (48, .iload_n 2, 49, 1), (49, .ireturn, 50, 1), (50, .iinc 2 1, 53, 3), (53, .goto (-40), 56, 3), (56, .bipush (-2), 58, 2), (58, .ireturn, 59, 1)])
theorem ok9_top : MOk m9_top := ⟨by decide, mem_g 852 (by decide +kernel) rfl, ini9, ⟨by decide, by decide⟩, by decide, by unfold MDe; decide +kernel⟩
def m9_law : MD := (yX9_law, cX9_law, 4, (some (Jvm.ClassFile.FieldType.long)), [(0, .iload_n 1, 1, 1), (1, .ifCond .lt 19, 4, 3), (4, .iload_n 1, 5, 1), (5, .iconst 3, 6, 1), (6, .if_icmp .ge 14, 9, 3), (9, .aload_n 0, 10, 1), (10, .getfield 41, 13, 3), (13, .iload_n 2, 14, 1), (14, .invokevirtual 121, 17, 3), (17, .ifCond .ne 7, 20, 3), (20, .ldc2_w 170, 23, 3), (23, .lreturn, 24, 1), (24, .iload_n 1, 25, 1), (25, .iconst 1, 26, 1), (26, .if_icmp .ne 21, 29, 3), (29, .aload_n 0, 30, 1), (30, .getfield 25, 33, 3), (33, .getfield 162, 36, 3), (36, .iload_n 3, 37, 1), (37, .invokevirtual 156, 40, 3), (40, .ifCond .ne 7, 43, 3), (43, .ldc2_w 170, 46, 3), (46, .lreturn, 47, 1), (47, .aload_n 0, 48, 1), (48, .getfield 25, 51, 3), (51, .getfield 172, 54, 3), (54, .iload_n 1, 55, 1), (55, .aload_n 0, 56, 1), (56, .getfield 34, 59, 3), (59, .aload_n 0, 60, 1), (60, .getfield 41, 63, 3), (63, .iload_n 2, 64, 1), (64, .iload_n 1, 65, 1), (65, .iconst 1, 66, 1), (66, .if_icmp .ne 7, 69, 3), (69, .iload_n 3, 70, 1), (70, .goto 4, 73, 3), (73, .iconst (-1), 74, 1), (74, .invokevirtual 176, 77, 3), (77, .invokevirtual 180, 80, 3), (80, .lreturn, 81, 1)])
theorem ok9_law : MOk m9_law := ⟨by decide, mem_g 872 (by decide +kernel) rfl, ini9, ⟨by decide, by decide⟩, by decide, by unfold MDe; decide +kernel⟩
def m9_open : MD := (yX9_open, cX9_open, 2, (some (Jvm.ClassFile.FieldType.int)), [(0, .aload_n 0, 1, 1), (1, .getfield 41, 4, 3), (4, .iload_n 1, 5, 1), (5, .invokevirtual 121, 8, 3), (8, .ifCond .ne 5, 11, 3), (11, .iconst (-1), 12, 1), (12, .ireturn, 13, 1), (13, .aload_n 0, 14, 1), (14, .getfield 41, 17, 3), (17, .iload_n 1, 18, 1), (18, .invokevirtual 167, 21, 3), (21, .ifCond .eq 13, 24, 3), (24, .aload_n 0, 25, 1), (25, .getfield 41, 28, 3), (28, .getfield 186, 31, 3), (31, .ifCond .gt 6, 34, 3), (34, .bipush (-2), 36, 2), (36, .ireturn, 37, 1), (37, .aload_n 0, 38, 1), (38, .getfield 34, 41, 3), (41, .aload_n 0, 42, 1), (42, .getfield 41, 45, 3), (45, .iload_n 1, 46, 1), (46, .invokevirtual 189, 49, 3), (49, .aload_n 0, 50, 1), (50, .getfield 61, 53, 3), (53, .iconst 0, 54, 1), (54, .iload_n 1, 55, 1), (55, .iconst 0, 56, 1), (56, .iconst 0, 57, 1), (57, .invokevirtual 193, 60, 3), (60, .aload_n 0, 61, 1), (61, .getfield 41, 64, 3), (64, .getfield 145, 67, 3), (67, .iload_n 1, 68, 1), (68, .iaload, 69, 1), (69, .ireturn, 70, 1)])
theorem ok9_open : MOk m9_open := ⟨by decide, mem_g 895 (by decide +kernel) rfl, ini9, ⟨by decide, by decide⟩, by decide, by unfold MDe; decide +kernel⟩
def m9_put : MD := (yX9_put, cX9_put, 3, (some (Jvm.ClassFile.FieldType.boolean)), [(0, .aload_n 0, 1, 1), (1, .getfield 41, 4, 3), (4, .iload_n 1, 5, 1), (5, .invokevirtual 121, 8, 3), (8, .ifCond .eq 12, 11, 3), (11, .iload_n 2, 12, 1), (12, .ifCond .lt 8, 15, 3), (15, .iload_n 2, 16, 1), (16, .iconst 4, 17, 1), (17, .if_icmp .lt 5, 20, 3), (20, .iconst 0, 21, 1), (21, .ireturn, 22, 1), (22, .aload_n 0, 23, 1), (23, .getfield 41, 26, 3), (26, .iload_n 1, 27, 1), (27, .invokevirtual 167, 30, 3), (30, .ifCond .eq 16, 33, 3), (33, .aload_n 0, 34, 1), (34, .getfield 41, 37, 3), (37, .getfield 139, 40, 3), (40, .iload_n 1, 41, 1), (41, .iaload, 42, 1), (42, .iload_n 2, 43, 1), (43, .if_icmp .ne 5, 46, 3), (46, .iconst 0, 47, 1), (47, .ireturn, 48, 1), (48, .aload_n 0, 49, 1), (49, .getfield 61, 52, 3), (52, .iconst 1, 53, 1), (53, .iload_n 1, 54, 1), (54, .aload_n 0, 55, 1), (55, .getfield 41, 58, 3), (58, .getfield 139, 61, 3), (61, .iload_n 1, 62, 1), (62, .iaload, 63, 1), (63, .aload_n 0, 64, 1), (64, .getfield 41, 67, 3), (67, .getfield 197, 70, 3), (70, .iload_n 1, 71, 1), (71, .iaload, 72, 1), (72, .invokevirtual 193, 75, 3), (75, .aload_n 0, 76, 1), (76, .getfield 41, 79, 3), (79, .getfield 197, 82, 3), (82, .iload_n 1, 83, 1), (83, .aload_n 0, 84, 1), (84, .getfield 41, 87, 3), (87, .iload_n 2, 88, 1), (88, .invokevirtual 200, 91, 3), (91, .iastore, 92, 1), (92, .aload_n 0, 93, 1), (93, .getfield 41, 96, 3), (96, .getfield 139, 99, 3), (99, .iload_n 1, 100, 1), (100, .iload_n 2, 101, 1), (101, .iastore, 102, 1), (102, .iconst 1, 103, 1), (103, .ireturn, 104, 1)])
theorem ok9_put : MOk m9_put := ⟨by decide, mem_g 926 (by decide +kernel) rfl, ini9, ⟨by decide, by decide⟩, by decide, by unfold MDe; decide +kernel⟩
def m9_dent : MD := (yX9_dent, cX9_dent, 2, (some (Jvm.ClassFile.FieldType.int)), [(0, .aload_n 0, 1, 1), (1, .getfield 41, 4, 3), (4, .iload_n 1, 5, 1), (5, .invokevirtual 203, 8, 3), (8, .ifCond .eq 17, 11, 3), (11, .aload_n 0, 12, 1), (12, .getfield 41, 15, 3), (15, .getfield 136, 18, 3), (18, .iload_n 1, 19, 1), (19, .iaload, 20, 1), (20, .bipush 10, 22, 2), (22, .if_icmp .lt 5, 25, 3), (25, .iconst (-1), 26, 1), (26, .ireturn, 27, 1), (27, .aload_n 0, 28, 1), (28, .getfield 41, 31, 3), (31, .getfield 136, 34, 3), (34, .iload_n 1, 35, 1), (35, .dup2, 36, 1), (36, .iaload, 37, 1), (37, .iconst 1, 38, 1), (38, .iadd, 39, 1), (39, .iastore, 40, 1), (40, .aload_n 0, 41, 1), (41, .getfield 61, 44, 3), (44, .iconst 2, 45, 1), (45, .iload_n 1, 46, 1), (46, .iconst 0, 47, 1), (47, .iconst 0, 48, 1), (48, .invokevirtual 193, 51, 3), (51, .aload_n 0, 52, 1), (52, .getfield 41, 55, 3), (55, .getfield 136, 58, 3), (58, .iload_n 1, 59, 1), (59, .iaload, 60, 1), (60, .ireturn, 61, 1)])
theorem ok9_dent : MOk m9_dent := ⟨by decide, mem_g 935 (by decide +kernel) rfl, ini9, ⟨by decide, by decide⟩, by decide, by unfold MDe; decide +kernel⟩
def m9_find : MD := (yX9_find, cX9_find, 2, (some (Jvm.ClassFile.FieldType.int)), [(0, .iload_n 1, 1, 1), (1, .iconst 1, 2, 1), (2, .if_icmp .lt 23, 5, 3), (5, .iload_n 1, 6, 1), (6, .bipush 9, 8, 2), (8, .if_icmp .gt 17, 11, 3), (11, .aload_n 0, 12, 1), (12, .getfield 41, 15, 3), (15, .getfield 186, 18, 3), (18, .iload_n 1, 19, 1), (19, .iadd, 20, 1), (20, .bipush 99, 22, 2), (22, .if_icmp .le 5, 25, 3), (25, .iconst (-1), 26, 1), (26, .ireturn, 27, 1), (27, .aload_n 0, 28, 1), (28, .getfield 41, 31, 3), (31, .dup, 32, 1), (32, .getfield 186, 35, 3), (35, .iload_n 1, 36, 1), (36, .iadd, 37, 1), (37, .putfield 186, 40, 3), (40, .aload_n 0, 41, 1), (41, .getfield 61, 44, 3), (44, .iconst 3, 45, 1), (45, .iload_n 1, 46, 1), (46, .iconst 0, 47, 1), (47, .iconst 0, 48, 1), (48, .invokevirtual 193, 51, 3), (51, .aload_n 0, 52, 1), (52, .getfield 41, 55, 3), (55, .getfield 186, 58, 3), (58, .ireturn, 59, 1)])
theorem ok9_find : MOk m9_find := ⟨by decide, mem_g 940 (by decide +kernel) rfl, ini9, ⟨by decide, by decide⟩, by decide, by unfold MDe; decide +kernel⟩
def m9_go : MD := (yX9_go, cX9_go, 3, (some (Jvm.ClassFile.FieldType.int)), [(0, .iload_n 1, 1, 1), (1, .ifCond .lt 24, 4, 3), (4, .iload_n 1, 5, 1), (5, .bipush 99, 7, 2), (7, .if_icmp .gt 18, 10, 3), (10, .aload_n 0, 11, 1), (11, .getfield 41, 14, 3), (14, .getfield 206, 17, 3), (17, .iload_n 1, 18, 1), (18, .iadd, 19, 1), (19, .sipush 9900, 22, 3), (22, .if_icmp .le 5, 25, 3), (25, .iconst (-1), 26, 1), (26, .ireturn, 27, 1), (27, .aload_n 0, 28, 1), (28, .getfield 34, 31, 3), (31, .invokevirtual 209, 34, 3), (34, .iconst 0, 35, 1), (35, .istore_n 2, 36, 1), (36, .iload_n 2, 37, 1), (37, .iload_n 1, 38, 1), (38, .if_icmp .ge 20, 41, 3), (41, .aload_n 0, 42, 1), (42, .getfield 34, 45, 3), (45, .aload_n 0, 46, 1), (46, .getfield 41, 49, 3), (49, .invokevirtual 212, 52, 3), (52, .iinc 2 1, 55, 3), (55, .goto (-19), 58, 3), (58, .iload_n 1, 59, 1), (59, .ifCond .le 10, 62, 3), (62, .aload_n 0, 63, 1), (63, .getfield 61, 66, 3), (66, .invokevirtual 97, 69, 3), (69, .aload_n 0, 70, 1), (70, .getfield 41, 73, 3), (73, .getfield 206, 76, 3), (76, .ireturn, 77, 1)])
theorem ok9_go : MOk m9_go := ⟨by decide, mem_g 944 (by decide +kernel) rfl, ini9, ⟨by decide, by decide⟩, by decide, by unfold MDe; decide +kernel⟩
def m9_ahead : MD := (yX9_ahead, cX9_ahead, 4, (some (Jvm.ClassFile.FieldType.int)), [(0, .iload_n 1, 1, 1), (1, .ifCond .lt 9, 4, 3), (4, .iload_n 1, 5, 1), (5, .bipush 99, 7, 2), (7, .if_icmp .le 5, 10, 3), (10, .iconst (-1), 11, 1), (11, .ireturn, 12, 1), (12, .iload_n 2, 13, 1), (13, .ifCond .lt 8, 16, 3), (16, .iload_n 2, 17, 1), (17, .iconst 4, 18, 1), (18, .if_icmp .le 5, 21, 3), (21, .iconst (-1), 22, 1), (22, .ireturn, 23, 1), (23, .aload_n 0, 24, 1), (24, .getfield 34, 27, 3), (27, .invokevirtual 216, 30, 3), (30, .aload_n 0, 31, 1), (31, .getfield 45, 34, 3), (34, .aload_n 0, 35, 1), (35, .getfield 41, 38, 3), (38, .invokevirtual 219, 41, 3), (41, .iconst 0, 42, 1), (42, .istore_n 3, 43, 1), (43, .iload_n 3, 44, 1), (44, .iload_n 1, 45, 1), (45, .if_icmp .ge 20, 48, 3), (48, .aload_n 0, 49, 1), (49, .getfield 34, 52, 3), (52, .aload_n 0, 53, 1), (53, .getfield 45, 56, 3), (56, .invokevirtual 212, 59, 3), (59, .iinc 3 1, 62, 3), (62, .goto (-19), 65, 3), (65, .iload_n 2, 66, 1), (66, .tableswitch 96 0 3 #[30, 46, 62, 78], 96, 30), (96, .aload_n 0, 97, 1), (97, .getfield 45, 100, 3), (100, .getfield 221, 103, 3), (103, .aload_n 0, 104, 1), (104, .getfield 41, 107, 3), (107, .getfield 221, 110, 3), (110, .isub, 111, 1), (111, .ireturn, 112, 1), (112, .aload_n 0, 113, 1), (113, .getfield 45, 116, 3), (116, .getfield 224, 119, 3), (119, .aload_n 0, 120, 1), (120, .getfield 41, 123, 3), (123, .getfield 224, 126, 3), (126, .isub, 127, 1), (127, .ireturn, 128, 1), (128, .aload_n 0, 129, 1), (129, .getfield 45, 132, 3), (132, .getfield 227, 135, 3), (135, .aload_n 0, 136, 1), (136, .getfield 41, 139, 3), (139, .getfield 227, 142, 3), (142, .isub, 143, 1), (143, .ireturn, 144, 1), (144, .aload_n 0, 145, 1), (145, .getfield 45, 148, 3), (148, .iconst 3, 149, 1), (149, .invokevirtual 230, 152, 3), (152, .aload_n 0, 153, 1), (153, .getfield 41, 156, 3), (156, .iconst 3, 157, 1), (157, .invokevirtual 230, 160, 3), (160, .isub, 161, 1), (161, .ireturn, 162, 1), (162, .aload_n 0, 163, 1), (163, .getfield 45, 166, 3), (166, .getfield 186, 169, 3), (169, .ireturn, 170, 1)])
theorem ok9_ahead : MOk m9_ahead := ⟨by decide, mem_g 999 (by decide +kernel) rfl, ini9, ⟨by decide, by decide⟩, by decide, by unfold MDe; decide +kernel⟩
def m9_above : MD := (yX9_above, cX9_above, 2, (some (Jvm.ClassFile.FieldType.int)), [(0, .aload_n 0, 1, 1), (1, .getfield 41, 4, 3), (4, .iload_n 1, 5, 1), (5, .invokevirtual 121, 8, 3), (8, .ifCond .ne 5, 11, 3), (11, .iconst (-1), 12, 1), (12, .ireturn, 13, 1), (13, .aload_n 0, 14, 1), (14, .getfield 41, 17, 3), (17, .iload_n 1, 18, 1), (18, .invokevirtual 203, 21, 3), (21, .ifCond .eq 14, 24, 3), (24, .aload_n 0, 25, 1), (25, .getfield 41, 28, 3), (28, .iload_n 1, 29, 1), (29, .invokevirtual 233, 32, 3), (32, .goto 5, 35, 3), (35, .bipush (-2), 37, 2), (37, .ireturn, 38, 1)])
theorem ok9_above : MOk m9_above := ⟨by decide, mem_g 1016 (by decide +kernel) rfl, ini9, ⟨by decide, by decide⟩, by decide, by unfold MDe; decide +kernel⟩
def m9_order : MD := (yX9_order, cX9_order, 7, (some (Jvm.ClassFile.FieldType.int)), [(0, .iload_n 1, 1, 1), (1, .ifCond .lt 8, 4, 3), (4, .iload_n 1, 5, 1), (5, .iconst 4, 6, 1), (6, .if_icmp .le 5, 9, 3), (9, .iconst (-1), 10, 1), (10, .ireturn, 11, 1), (11, .aload_n 0, 12, 1), (12, .invokevirtual 236, 15, 3), (15, .istore_n 2, 16, 1), (16, .iconst (-1), 17, 1), (17, .istore_n 3, 18, 1), (18, .iconst 1, 19, 1), (19, .istore 4, 21, 2), (21, .aload_n 0, 22, 1), (22, .getfield 34, 25, 3), (25, .invokevirtual 216, 28, 3), (28, .iconst 0, 29, 1), (29, .istore 5, 31, 2), (31, .iload 5, 33, 2), (33, .bipush 24, 35, 2), (35, .if_icmp .ge 51, 38, 3), (38, .iload 4, 40, 2), (40, .ifCond .eq 46, 43, 3), (43, .aload_n 0, 44, 1), (44, .iload_n 2, 45, 1), (45, .invokevirtual 240, 48, 3), (48, .istore 6, 50, 2), (50, .iload 6, 52, 2), (52, .iload_n 3, 53, 1), (53, .if_icmp .le 20, 56, 3), (56, .iload 6, 58, 2), (58, .istore_n 3, 59, 1), (59, .aload_n 0, 60, 1), (60, .getfield 65, 63, 3), (63, .iconst 0, 64, 1), (64, .aload_n 0, 65, 1), (65, .getfield 69, 68, 3), (68, .iconst 0, 69, 1), (69, .iconst 4, 70, 1), (70, .invokestatic 243, 73, 3), (73, .aload_n 0, 74, 1), (74, .iload_n 2, 75, 1), (75, .invokevirtual 249, 78, 3), (78, .istore 4, 80, 2), (80, .iinc 5 1, 83, 3), (83, .goto (-52), 86, 3), (86, .iload_n 1, 87, 1), (87, .iconst 4, 88, 1), (88, .if_icmp .ne 5, 91, 3), (91, .iload_n 3, 92, 1), (92, .ireturn, 93, 1), (93, .iload_n 1, 94, 1), (94, .iload_n 2, 95, 1), (95, .if_icmp .ge 12, 98, 3), (98, .aload_n 0, 99, 1), (99, .getfield 69, 102, 3), (102, .iload_n 1, 103, 1), (103, .iaload, 104, 1), (104, .goto 5, 107, 3), (107, .bipush (-2), 109, 2), (109, .ireturn, 110, 1)])
theorem ok9_order : MOk m9_order := ⟨by decide, mem_g 1021 (by decide +kernel) rfl, ini9, ⟨by decide, by decide⟩, by decide, by unfold MDe; decide +kernel⟩
def m9_firstClosed : MD := (yX9_firstClosed, cX9_firstClosed, 3, (some (Jvm.ClassFile.FieldType.int)), [(0, .iconst 0, 1, 1), (1, .istore_n 1, 2, 1), (2, .iconst 0, 3, 1), (3, .istore_n 2, 4, 1), (4, .iload_n 2, 5, 1), (5, .aload_n 0, 6, 1), (6, .getfield 41, 9, 3), (9, .getfield 160, 12, 3), (12, .if_icmp .ge 35, 15, 3), (15, .iload_n 1, 16, 1), (16, .iconst 4, 17, 1), (17, .if_icmp .ge 30, 20, 3), (20, .aload_n 0, 21, 1), (21, .getfield 41, 24, 3), (24, .iload_n 2, 25, 1), (25, .invokevirtual 203, 28, 3), (28, .ifCond .eq 13, 31, 3), (31, .aload_n 0, 32, 1), (32, .getfield 65, 35, 3), (35, .iload_n 1, 36, 1), (36, .iload_n 2, 37, 1), (37, .iastore, 38, 1), (38, .iinc 1 1, 41, 3), (41, .iinc 2 1, 44, 3), (44, .goto (-40), 47, 3), (47, .iload_n 1, 48, 1), (48, .ireturn, 49, 1)])
theorem ok9_firstClosed : MOk m9_firstClosed := ⟨by decide, mem_g 1025 (by decide +kernel) rfl, ini9, ⟨by decide, by decide⟩, by decide, by unfold MDe; decide +kernel⟩
def m9_gainedInRow : MD := (yX9_gainedInRow, cX9_gainedInRow, 3, (some (Jvm.ClassFile.FieldType.int)), [(0, .aload_n 0, 1, 1), (1, .getfield 45, 4, 3), (4, .aload_n 0, 5, 1), (5, .getfield 41, 8, 3), (8, .invokevirtual 219, 11, 3), (11, .iconst 0, 12, 1), (12, .istore_n 2, 13, 1), (13, .iload_n 2, 14, 1), (14, .bipush 20, 16, 2), (16, .if_icmp .ge 61, 19, 3), (19, .aload_n 0, 20, 1), (20, .getfield 34, 23, 3), (23, .aload_n 0, 24, 1), (24, .getfield 45, 27, 3), (27, .invokevirtual 252, 30, 3), (30, .ifCond .eq 47, 33, 3), (33, .iload_n 2, 34, 1), (34, .iload_n 1, 35, 1), (35, .if_icmp .ge 25, 38, 3), (38, .iload_n 2, 39, 1), (39, .iconst 4, 40, 1), (40, .if_icmp .ge 20, 43, 3), (43, .aload_n 0, 44, 1), (44, .getfield 34, 47, 3), (47, .aload_n 0, 48, 1), (48, .getfield 45, 51, 3), (51, .aload_n 0, 52, 1), (52, .getfield 65, 55, 3), (55, .iload_n 2, 56, 1), (56, .iaload, 57, 1), (57, .invokevirtual 256, 60, 3), (60, .aload_n 0, 61, 1), (61, .getfield 34, 64, 3), (64, .aload_n 0, 65, 1), (65, .getfield 45, 68, 3), (68, .invokevirtual 212, 71, 3), (71, .iinc 2 1, 74, 3), (74, .goto (-61), 77, 3), (77, .aload_n 0, 78, 1), (78, .getfield 45, 81, 3), (81, .getfield 221, 84, 3), (84, .aload_n 0, 85, 1), (85, .getfield 41, 88, 3), (88, .getfield 221, 91, 3), (91, .isub, 92, 1), (92, .ireturn, 93, 1)])
theorem ok9_gainedInRow : MOk m9_gainedInRow := ⟨by decide, mem_g 1029 (by decide +kernel) rfl, ini9, ⟨by decide, by decide⟩, by decide, by unfold MDe; decide +kernel⟩
def m9_nextRow : MD := (yX9_nextRow, cX9_nextRow, 6, (some (Jvm.ClassFile.FieldType.boolean)), [(0, .iload_n 1, 1, 1), (1, .iconst 4, 2, 1), (2, .invokestatic 259, 5, 3), (5, .iconst 2, 6, 1), (6, .isub, 7, 1), (7, .istore_n 2, 8, 1), (8, .iload_n 2, 9, 1), (9, .ifCond .lt 26, 12, 3), (12, .aload_n 0, 13, 1), (13, .getfield 65, 16, 3), (16, .iload_n 2, 17, 1), (17, .iaload, 18, 1), (18, .aload_n 0, 19, 1), (19, .getfield 65, 22, 3), (22, .iload_n 2, 23, 1), (23, .iconst 1, 24, 1), (24, .iadd, 25, 1), (25, .iaload, 26, 1), (26, .if_icmp .le 9, 29, 3), (29, .iinc 2 (-1), 32, 3), (32, .goto (-24), 35, 3), (35, .iload_n 2, 36, 1), (36, .ifCond .ge 5, 39, 3), (39, .iconst 0, 40, 1), (40, .ireturn, 41, 1), (41, .iload_n 1, 42, 1), (42, .iconst 4, 43, 1), (43, .invokestatic 259, 46, 3), (46, .iconst 1, 47, 1), (47, .isub, 48, 1), (48, .istore_n 3, 49, 1), (49, .iload_n 3, 50, 1), (50, .iload_n 2, 51, 1), (51, .if_icmp .le 24, 54, 3), (54, .aload_n 0, 55, 1), (55, .getfield 65, 58, 3), (58, .iload_n 3, 59, 1), (59, .iaload, 60, 1), (60, .aload_n 0, 61, 1), (61, .getfield 65, 64, 3), (64, .iload_n 2, 65, 1), (65, .iaload, 66, 1), (66, .if_icmp .ge 9, 69, 3), (69, .iinc 3 (-1), 72, 3), (72, .goto (-23), 75, 3), (75, .aload_n 0, 76, 1), (76, .iload_n 2, 77, 1), (77, .iload_n 3, 78, 1), (78, .invokevirtual 264, 81, 3), (81, .iload_n 2, 82, 1), (82, .iconst 1, 83, 1), (83, .iadd, 84, 1), (84, .istore 4, 86, 2), (86, .iload_n 1, 87, 1), (87, .iconst 4, 88, 1), (88, .invokestatic 259, 91, 3), (91, .iconst 1, 92, 1), (92, .isub, 93, 1), (93, .istore 5, 95, 2), (95, .iload 4, 97, 2), (97, .iload 5, 99, 2), (99, .if_icmp .ge 20, 102, 3), (102, .aload_n 0, 103, 1), (103, .iload 4, 105, 2), (105, .iload 5, 107, 2), (107, .invokevirtual 264, 110, 3), (110, .iinc 5 (-1), 113, 3), (113, .iinc 4 1, 116, 3), (116, .goto (-21), 119, 3), (119, .iconst 1, 120, 1), (120, .ireturn, 121, 1)])
theorem ok9_nextRow : MOk m9_nextRow := ⟨by decide, mem_g 1042 (by decide +kernel) rfl, ini9, ⟨by decide, by decide⟩, by decide, by unfold MDe; decide +kernel⟩
def m9_swapInRow : MD := (yX9_swapInRow, cX9_swapInRow, 4, none, [(0, .aload_n 0, 1, 1), (1, .getfield 65, 4, 3), (4, .iload_n 1, 5, 1), (5, .iaload, 6, 1), (6, .istore_n 3, 7, 1), (7, .aload_n 0, 8, 1), (8, .getfield 65, 11, 3), (11, .iload_n 1, 12, 1), (12, .aload_n 0, 13, 1), (13, .getfield 65, 16, 3), (16, .iload_n 2, 17, 1), (17, .iaload, 18, 1), (18, .iastore, 19, 1), (19, .aload_n 0, 20, 1), (20, .getfield 65, 23, 3), (23, .iload_n 2, 24, 1), (24, .iload_n 3, 25, 1), (25, .iastore, 26, 1), (26, .return_, 27, 1)])
theorem ok9_swapInRow : MOk m9_swapInRow := ⟨by decide, mem_g 1047 (by decide +kernel) rfl, ini9, ⟨by decide, by decide⟩, by decide, by unfold MDe; decide +kernel⟩
def m9_best : MD := (yX9_best, cX9_best, 7, (some (Jvm.ClassFile.FieldType.int)), [(0, .aload_n 0, 1, 1), (1, .getfield 41, 4, 3), (4, .iload_n 1, 5, 1), (5, .invokevirtual 121, 8, 3), (8, .ifCond .eq 12, 11, 3), (11, .iload_n 2, 12, 1), (12, .ifCond .lt 8, 15, 3), (15, .iload_n 2, 16, 1), (16, .iconst 1, 17, 1), (17, .if_icmp .le 5, 20, 3), (20, .iconst (-1), 21, 1), (21, .ireturn, 22, 1), (22, .aload_n 0, 23, 1), (23, .getfield 41, 26, 3), (26, .iload_n 1, 27, 1), (27, .invokevirtual 203, 30, 3), (30, .ifCond .ne 6, 33, 3), (33, .bipush (-2), 35, 2), (35, .ireturn, 36, 1), (36, .iconst (-1), 37, 1), (37, .istore_n 3, 38, 1), (38, .iconst 0, 39, 1), (39, .istore 4, 41, 2), (41, .aload_n 0, 42, 1), (42, .getfield 34, 45, 3), (45, .invokevirtual 216, 48, 3), (48, .iconst 0, 49, 1), (49, .istore 5, 51, 2), (51, .iload 5, 53, 2), (53, .bipush 20, 55, 2), (55, .if_icmp .gt 31, 58, 3), (58, .aload_n 0, 59, 1), (59, .iload_n 1, 60, 1), (60, .iload 5, 62, 2), (62, .invokevirtual 268, 65, 3), (65, .istore 6, 67, 2), (67, .iload 6, 69, 2), (69, .iload_n 3, 70, 1), (70, .if_icmp .le 10, 73, 3), (73, .iload 6, 75, 2), (75, .istore_n 3, 76, 1), (76, .iload 5, 78, 2), (78, .istore 4, 80, 2), (80, .iinc 5 1, 83, 3), (83, .goto (-32), 86, 3), (86, .iload_n 2, 87, 1), (87, .ifCond .ne 8, 90, 3), (90, .iload 4, 92, 2), (92, .goto 4, 95, 3), (95, .iload_n 3, 96, 1), (96, .ireturn, 97, 1)])
theorem ok9_best : MOk m9_best := ⟨by decide, mem_g 1051 (by decide +kernel) rfl, ini9, ⟨by decide, by decide⟩, by decide, by unfold MDe; decide +kernel⟩
def m9_gainedByOpening : MD := (yX9_gainedByOpening, cX9_gainedByOpening, 4, (some (Jvm.ClassFile.FieldType.int)), [(0, .aload_n 0, 1, 1), (1, .getfield 45, 4, 3), (4, .aload_n 0, 5, 1), (5, .getfield 41, 8, 3), (8, .invokevirtual 219, 11, 3), (11, .iconst 0, 12, 1), (12, .istore_n 3, 13, 1), (13, .iload_n 3, 14, 1), (14, .bipush 30, 16, 2), (16, .if_icmp .ge 51, 19, 3), (19, .aload_n 0, 20, 1), (20, .getfield 34, 23, 3), (23, .aload_n 0, 24, 1), (24, .getfield 45, 27, 3), (27, .invokevirtual 252, 30, 3), (30, .ifCond .eq 37, 33, 3), (33, .iload_n 3, 34, 1), (34, .iload_n 2, 35, 1), (35, .if_icmp .ne 15, 38, 3), (38, .aload_n 0, 39, 1), (39, .getfield 34, 42, 3), (42, .aload_n 0, 43, 1), (43, .getfield 45, 46, 3), (46, .iload_n 1, 47, 1), (47, .invokevirtual 256, 50, 3), (50, .aload_n 0, 51, 1), (51, .getfield 34, 54, 3), (54, .aload_n 0, 55, 1), (55, .getfield 45, 58, 3), (58, .invokevirtual 212, 61, 3), (61, .iinc 3 1, 64, 3), (64, .goto (-51), 67, 3), (67, .aload_n 0, 68, 1), (68, .getfield 45, 71, 3), (71, .getfield 221, 74, 3), (74, .aload_n 0, 75, 1), (75, .getfield 41, 78, 3), (78, .getfield 221, 81, 3), (81, .isub, 82, 1), (82, .ireturn, 83, 1)])
theorem ok9_gainedByOpening : MOk m9_gainedByOpening := ⟨by decide, mem_g 1055 (by decide +kernel) rfl, ini9, ⟨by decide, by decide⟩, by decide, by unfold MDe; decide +kernel⟩
def m9_tidy : MD := (yX9_tidy, cX9_tidy, 5, (some (Jvm.ClassFile.FieldType.int)), [(0, .iload_n 1, 1, 1), (1, .ifCond .lt 8, 4, 3), (4, .iload_n 1, 5, 1), (5, .iconst 4, 6, 1), (6, .if_icmp .lt 5, 9, 3), (9, .iconst (-1), 10, 1), (10, .ireturn, 11, 1), (11, .bipush 8, 13, 2), (13, .istore_n 2, 14, 1), (14, .iconst 0, 15, 1), (15, .istore_n 3, 16, 1), (16, .iconst 0, 17, 1), (17, .istore 4, 19, 2), (19, .iload 4, 21, 2), (21, .aload_n 0, 22, 1), (22, .getfield 41, 25, 3), (25, .getfield 160, 28, 3), (28, .if_icmp .ge 61, 31, 3), (31, .aload_n 0, 32, 1), (32, .getfield 41, 35, 3), (35, .iload 4, 37, 2), (37, .invokevirtual 203, 40, 3), (40, .ifCond .eq 43, 43, 3), (43, .aload_n 0, 44, 1), (44, .getfield 41, 47, 3), (47, .getfield 139, 50, 3), (50, .iload 4, 52, 2), (52, .iaload, 53, 1), (53, .iload_n 1, 54, 1), (54, .if_icmp .ne 29, 57, 3), (57, .iload_n 2, 58, 1), (58, .aload_n 0, 59, 1), (59, .iload_n 1, 60, 1), (60, .aload_n 0, 61, 1), (61, .getfield 25, 64, 3), (64, .getfield 118, 67, 3), (67, .iload 4, 69, 2), (69, .iconst 3, 70, 1), (70, .invokevirtual 132, 73, 3), (73, .invokevirtual 271, 76, 3), (76, .invokestatic 259, 79, 3), (79, .istore_n 2, 80, 1), (80, .iinc 3 1, 83, 3), (83, .iinc 4 1, 86, 3), (86, .goto (-67), 89, 3), (89, .iload_n 2, 90, 1), (90, .iload_n 3, 91, 1), (91, .invokestatic 259, 94, 3), (94, .ireturn, 95, 1)])
theorem ok9_tidy : MOk m9_tidy := ⟨by decide, mem_g 1059 (by decide +kernel) rfl, ini9, ⟨by decide, by decide⟩, by decide, by unfold MDe; decide +kernel⟩
def m9_takenOut : MD := (yX9_takenOut, cX9_takenOut, 6, (some (Jvm.ClassFile.FieldType.int)), [(0, .iconst 0, 1, 1), (1, .istore_n 3, 2, 1), (2, .iconst 0, 3, 1), (3, .istore 4, 5, 2), (5, .iload 4, 7, 2), (7, .aload_n 0, 8, 1), (8, .getfield 41, 11, 3), (11, .getfield 160, 14, 3), (14, .if_icmp .ge 86, 17, 3), (17, .aload_n 0, 18, 1), (18, .getfield 41, 21, 3), (21, .iload 4, 23, 2), (23, .invokevirtual 203, 26, 3), (26, .ifCond .eq 68, 29, 3), (29, .aload_n 0, 30, 1), (30, .getfield 41, 33, 3), (33, .getfield 139, 36, 3), (36, .iload 4, 38, 2), (38, .iaload, 39, 1), (39, .iload_n 1, 40, 1), (40, .if_icmp .ne 54, 43, 3), (43, .aload_n 0, 44, 1), (44, .getfield 25, 47, 3), (47, .getfield 118, 50, 3), (50, .iload 4, 52, 2), (52, .iconst 3, 53, 1), (53, .invokevirtual 132, 56, 3), (56, .istore 5, 58, 2), (58, .iload 5, 60, 2), (60, .iload_n 2, 61, 1), (61, .if_icmp .le 15, 64, 3), (64, .aload_n 0, 65, 1), (65, .iload 4, 67, 2), (67, .invokevirtual 274, 70, 3), (70, .ifCond .eq 6, 73, 3), (73, .bipush 8, 75, 2), (75, .ireturn, 76, 1), (76, .iload 5, 78, 2), (78, .iload_n 2, 79, 1), (79, .if_icmp .lt 12, 82, 3), (82, .aload_n 0, 83, 1), (83, .iload 4, 85, 2), (85, .invokevirtual 274, 88, 3), (88, .ifCond .eq 6, 91, 3), (91, .iinc 3 1, 94, 3), (94, .iinc 4 1, 97, 3), (97, .goto (-92), 100, 3), (100, .iload_n 3, 101, 1), (101, .ireturn, 102, 1)])
theorem ok9_takenOut : MOk m9_takenOut := ⟨by decide, mem_g 1063 (by decide +kernel) rfl, ini9, ⟨by decide, by decide⟩, by decide, by unfold MDe; decide +kernel⟩
def m9_isBelowLonger : MD := (yX9_isBelowLonger, cX9_isBelowLonger, 5, (some (Jvm.ClassFile.FieldType.boolean)), [(0, .aload_n 0, 1, 1), (1, .getfield 25, 4, 3), (4, .getfield 118, 7, 3), (7, .iconst 3, 8, 1), (8, .invokevirtual 277, 11, 3), (11, .astore_n 2, 12, 1), (12, .iconst 0, 13, 1), (13, .istore_n 3, 14, 1), (14, .iload_n 3, 15, 1), (15, .aload_n 0, 16, 1), (16, .getfield 41, 19, 3), (19, .getfield 160, 22, 3), (22, .if_icmp .ge 96, 25, 3), (25, .aload_n 0, 26, 1), (26, .getfield 41, 29, 3), (29, .iload_n 1, 30, 1), (30, .invokevirtual 121, 33, 3), (33, .ifCond .eq 85, 36, 3), (36, .aload_n 0, 37, 1), (37, .getfield 41, 40, 3), (40, .getfield 139, 43, 3), (43, .iload_n 3, 44, 1), (44, .iaload, 45, 1), (45, .aload_n 0, 46, 1), (46, .getfield 41, 49, 3), (49, .getfield 139, 52, 3), (52, .iload_n 1, 53, 1), (53, .iaload, 54, 1), (54, .if_icmp .ne 28, 57, 3), (57, .aload_n 0, 58, 1), (58, .getfield 41, 61, 3), (61, .getfield 197, 64, 3), (64, .iload_n 3, 65, 1), (65, .iaload, 66, 1), (66, .aload_n 0, 67, 1), (67, .getfield 41, 70, 3), (70, .getfield 197, 73, 3), (73, .iload_n 1, 74, 1), (74, .iaload, 75, 1), (75, .if_icmp .le 7, 78, 3), (78, .iconst 1, 79, 1), (79, .goto 4, 82, 3), (82, .iconst 0, 83, 1), (83, .istore 4, 85, 2), (85, .iload 4, 87, 2), (87, .ifCond .eq 25, 90, 3), (90, .aload_n 0, 91, 1), (91, .getfield 41, 94, 3), (94, .iload_n 3, 95, 1), (95, .invokevirtual 203, 98, 3), (98, .ifCond .eq 14, 101, 3), (101, .aload_n 2, 102, 1), (102, .iload_n 3, 103, 1), (103, .iaload, 104, 1), (104, .aload_n 2, 105, 1), (105, .iload_n 1, 106, 1), (106, .iaload, 107, 1), (107, .if_icmp .le 5, 110, 3), (110, .iconst 1, 111, 1), (111, .ireturn, 112, 1), (112, .iinc 3 1, 115, 3), (115, .goto (-101), 118, 3), (118, .iconst 0, 119, 1), (119, .ireturn, 120, 1)])
theorem ok9_isBelowLonger : MOk m9_isBelowLonger := ⟨by decide, mem_g 1067 (by decide +kernel) rfl, ini9, ⟨by decide, by decide⟩, by decide, by unfold MDe; decide +kernel⟩
def m9_isBit : MD := (yX9_isBit, cX9_isBit, 2, (some (Jvm.ClassFile.FieldType.boolean)), [(0, .iload_n 0, 1, 1), (1, .iload_n 1, 2, 1), (2, .ishr, 3, 1), (3, .iconst 1, 4, 1), (4, .iand, 5, 1), (5, .ifCond .eq 7, 8, 3), (8, .iconst 1, 9, 1), (9, .goto 4, 12, 3), (12, .iconst 0, 13, 1), (13, .ireturn, 14, 1)])
theorem ok9_isBit : MOk m9_isBit := ⟨by decide, mem_g 741 (by decide +kernel) rfl, ini9, ⟨by decide, by decide⟩, by decide, by unfold MDe; decide +kernel⟩
def m9_rests : MD := (yX9_rests, cX9_rests, 5, (some (Jvm.ClassFile.FieldType.int)), [(0, .aload_n 0, 1, 1), (1, .getfield 41, 4, 3), (4, .iload_n 1, 5, 1), (5, .invokevirtual 121, 8, 3), (8, .ifCond .eq 16, 11, 3), (11, .aload_n 0, 12, 1), (12, .getfield 41, 15, 3), (15, .getfield 142, 18, 3), (18, .iload_n 1, 19, 1), (19, .iaload, 20, 1), (20, .iconst 1, 21, 1), (21, .if_icmp .eq 5, 24, 3), (24, .iconst (-1), 25, 1), (25, .ireturn, 26, 1), (26, .iconst 0, 27, 1), (27, .istore_n 2, 28, 1), (28, .iconst 0, 29, 1), (29, .istore_n 3, 30, 1), (30, .iload_n 3, 31, 1), (31, .iconst 4, 32, 1), (32, .if_icmp .gt 45, 35, 3), (35, .iconst 0, 36, 1), (36, .istore 4, 38, 2), (38, .iload 4, 40, 2), (40, .iconst 4, 41, 1), (41, .if_icmp .gt 30, 44, 3), (44, .iload_n 3, 45, 1), (45, .iload 4, 47, 2), (47, .aload_n 0, 48, 1), (48, .getfield 41, 51, 3), (51, .getfield 145, 54, 3), (54, .iload_n 1, 55, 1), (55, .iaload, 56, 1), (56, .invokestatic 281, 59, 3), (59, .ifCond .eq 6, 62, 3), (62, .iinc 2 1, 65, 3), (65, .iinc 4 1, 68, 3), (68, .goto (-30), 71, 3), (71, .iinc 3 1, 74, 3), (74, .goto (-44), 77, 3), (77, .iload_n 2, 78, 1), (78, .ireturn, 79, 1)])
theorem ok9_rests : MOk m9_rests := ⟨by decide, mem_g 1072 (by decide +kernel) rfl, ini9, ⟨by decide, by decide⟩, by decide, by unfold MDe; decide +kernel⟩
def m9_rest : MD := (yX9_rest, cX9_rest, 6, (some (Jvm.ClassFile.FieldType.int)), [(0, .aload_n 0, 1, 1), (1, .getfield 41, 4, 3), (4, .iload_n 1, 5, 1), (5, .invokevirtual 121, 8, 3), (8, .ifCond .eq 20, 11, 3), (11, .aload_n 0, 12, 1), (12, .getfield 41, 15, 3), (15, .getfield 142, 18, 3), (18, .iload_n 1, 19, 1), (19, .iaload, 20, 1), (20, .iconst 1, 21, 1), (21, .if_icmp .ne 7, 24, 3), (24, .iload_n 2, 25, 1), (25, .ifCond .ge 5, 28, 3), (28, .iconst (-1), 29, 1), (29, .ireturn, 30, 1), (30, .iconst 0, 31, 1), (31, .istore_n 3, 32, 1), (32, .iconst 0, 33, 1), (33, .istore 4, 35, 2), (35, .iload 4, 37, 2), (37, .iconst 4, 38, 1), (38, .if_icmp .gt 60, 41, 3), (41, .iconst 0, 42, 1), (42, .istore 5, 44, 2), (44, .iload 5, 46, 2), (46, .iconst 4, 47, 1), (47, .if_icmp .gt 45, 50, 3), (50, .iload 4, 52, 2), (52, .iload 5, 54, 2), (54, .aload_n 0, 55, 1), (55, .getfield 41, 58, 3), (58, .getfield 145, 61, 3), (61, .iload_n 1, 62, 1), (62, .iaload, 63, 1), (63, .invokestatic 281, 66, 3), (66, .ifCond .eq 20, 69, 3), (69, .iload_n 3, 70, 1), (70, .iload_n 2, 71, 1), (71, .if_icmp .ne 12, 74, 3), (74, .bipush 10, 76, 2), (76, .iload 4, 78, 2), (78, .imul, 79, 1), (79, .iload 5, 81, 2), (81, .iadd, 82, 1), (82, .ireturn, 83, 1), (83, .iinc 3 1, 86, 3), (86, .iinc 5 1, 89, 3), (89, .goto (-45), 92, 3), (92, .iinc 4 1, 95, 3), (95, .goto (-60), 98, 3), (98, .bipush (-2), 100, 2), (100, .ireturn, 101, 1)])
theorem ok9_rest : MOk m9_rest := ⟨by decide, mem_g 1082 (by decide +kernel) rfl, ini9, ⟨by decide, by decide⟩, by decide, by unfold MDe; decide +kernel⟩
def m9_isRest : MD := (yX9_isRest, cX9_isRest, 4, (some (Jvm.ClassFile.FieldType.boolean)), [(0, .iconst 0, 1, 1), (1, .istore_n 3, 2, 1), (2, .iload_n 3, 3, 1), (3, .iconst 4, 4, 1), (4, .if_icmp .gt 41, 7, 3), (7, .iload_n 3, 8, 1), (8, .iload_n 1, 9, 1), (9, .iload_n 2, 10, 1), (10, .invokestatic 285, 13, 3), (13, .iload_n 0, 14, 1), (14, .iload_n 1, 15, 1), (15, .iload_n 2, 16, 1), (16, .invokestatic 285, 19, 3), (19, .if_icmp .gt 18, 22, 3), (22, .iload_n 3, 23, 1), (23, .iload_n 0, 24, 1), (24, .iload_n 2, 25, 1), (25, .invokestatic 285, 28, 3), (28, .iload_n 1, 29, 1), (29, .iload_n 0, 30, 1), (30, .iload_n 2, 31, 1), (31, .invokestatic 285, 34, 3), (34, .if_icmp .le 5, 37, 3), (37, .iconst 0, 38, 1), (38, .ireturn, 39, 1), (39, .iinc 3 1, 42, 3), (42, .goto (-40), 45, 3), (45, .iconst 1, 46, 1), (46, .ireturn, 47, 1)])
theorem ok9_isRest : MOk m9_isRest := ⟨by decide, mem_g 1075 (by decide +kernel) rfl, ini9, ⟨by decide, by decide⟩, by decide, by unfold MDe; decide +kernel⟩
def m9_hasOfShare : MD := (yX9_hasOfShare, cX9_hasOfShare, 4, (some (Jvm.ClassFile.FieldType.int)), [(0, .iload_n 0, 1, 1), (1, .iload_n 1, 2, 1), (2, .iadd, 3, 1), (3, .iload_n 2, 4, 1), (4, .if_icmp .gt 7, 7, 3), (7, .iload_n 0, 8, 1), (8, .goto 4, 11, 3), (11, .iconst 0, 12, 1), (12, .istore_n 3, 13, 1), (13, .iload_n 0, 14, 1), (14, .iconst 4, 15, 1), (15, .if_icmp .ne 9, 18, 3), (18, .iload_n 3, 19, 1), (19, .iconst 1, 20, 1), (20, .isub, 21, 1), (21, .goto 4, 24, 3), (24, .iload_n 3, 25, 1), (25, .ireturn, 26, 1)])
theorem ok9_hasOfShare : MOk m9_hasOfShare := ⟨by decide, mem_g 1078 (by decide +kernel) rfl, ini9, ⟨by decide, by decide⟩, by decide, by unfold MDe; decide +kernel⟩
def m9_whole : MD := (yX9_whole, cX9_whole, 9, (some (Jvm.ClassFile.FieldType.long)), [(0, .iload_n 1, 1, 1), (1, .ifCond .lt 18, 4, 3), (4, .iload_n 1, 5, 1), (5, .bipush 6, 7, 2), (7, .if_icmp .gt 12, 10, 3), (10, .iload_n 2, 11, 1), (11, .ifCond .lt 8, 14, 3), (14, .iload_n 2, 15, 1), (15, .iconst 1, 16, 1), (16, .if_icmp .le 7, 19, 3), (19, .ldc2_w 289, 22, 3), (22, .lreturn, 23, 1), (23, .lconst 1, 24, 1), (24, .lstore_n 3, 25, 1), (25, .lconst 1, 26, 1), (26, .lstore 5, 28, 2), (28, .iconst 0, 29, 1), (29, .istore 7, 31, 2), (31, .iload 7, 33, 2), (33, .iload_n 1, 34, 1), (34, .if_icmp .ge 31, 37, 3), (37, .lload_n 3, 38, 1), (38, .bipush 100, 40, 2), (40, .aload_n 0, 41, 1), (41, .getfield 25, 44, 3), (44, .getfield 291, 47, 3), (47, .isub, 48, 1), (48, .i2l, 49, 1), (49, .lmul, 50, 1), (50, .lstore_n 3, 51, 1), (51, .lload 5, 53, 2), (53, .ldc2_w 294, 56, 3), (56, .lmul, 57, 1), (57, .lstore 5, 59, 2), (59, .iinc 7 1, 62, 3), (62, .goto (-31), 65, 3), (65, .lload_n 3, 66, 1), (66, .lload 5, 68, 2), (68, .invokestatic 296, 71, 3), (71, .lstore 7, 73, 2), (73, .lload 7, 75, 2), (75, .lconst 0, 76, 1), (76, .lcmp, 77, 1), (77, .ifCond .gt 7, 80, 3), (80, .ldc2_w 289, 83, 3), (83, .lreturn, 84, 1), (84, .iload_n 2, 85, 1), (85, .ifCond .ne 10, 88, 3), (88, .lload_n 3, 89, 1), (89, .lload 7, 91, 2), (91, .ldiv, 92, 1), (92, .goto 8, 95, 3), (95, .lload 5, 97, 2), (97, .lload 7, 99, 2), (99, .ldiv, 100, 1), (100, .lreturn, 101, 1)])
theorem ok9_whole : MOk m9_whole := ⟨by decide, mem_g 1086 (by decide +kernel) rfl, ini9, ⟨by decide, by decide⟩, by decide, by unfold MDe; decide +kernel⟩
def m9_commonDivisor : MD := (yX9_commonDivisor, cX9_commonDivisor, 11, (some (Jvm.ClassFile.FieldType.long)), [(0, .lload_n 0, 1, 1), (1, .lstore 4, 3, 2), (3, .lload_n 2, 4, 1), (4, .lstore 6, 6, 2), (6, .iconst 0, 7, 1), (7, .istore 8, 9, 2), (9, .iload 8, 11, 2), (11, .sipush 128, 14, 3), (14, .if_icmp .ge 31, 17, 3), (17, .lload 6, 19, 2), (19, .lconst 0, 20, 1), (20, .lcmp, 21, 1), (21, .ifCond .eq 24, 24, 3), (24, .lload 4, 26, 2), (26, .lload 6, 28, 2), (28, .lrem, 29, 1), (29, .lstore 9, 31, 2), (31, .lload 6, 33, 2), (33, .lstore 4, 35, 2), (35, .lload 9, 37, 2), (37, .lstore 6, 39, 2), (39, .iinc 8 1, 42, 3), (42, .goto (-33), 45, 3), (45, .lload 4, 47, 2), (47, .lreturn, 48, 1)])
theorem ok9_commonDivisor : MOk m9_commonDivisor := ⟨by decide, mem_g 1091 (by decide +kernel) rfl, ini9, ⟨by decide, by decide⟩, by decide, by unfold MDe; decide +kernel⟩
def m9_unmet : MD := (yX9_unmet, cX9_unmet, 4, (some (Jvm.ClassFile.FieldType.int)), [(0, .iconst 0, 1, 1), (1, .istore_n 1, 2, 1), (2, .iconst 0, 3, 1), (3, .istore_n 2, 4, 1), (4, .iload_n 2, 5, 1), (5, .aload_n 0, 6, 1), (6, .getfield 25, 9, 3), (9, .getfield 162, 12, 3), (12, .getfield 300, 15, 3), (15, .if_icmp .ge 62, 18, 3), (18, .iload_n 2, 19, 1), (19, .bipush 8, 21, 2), (21, .if_icmp .ge 56, 24, 3), (24, .aload_n 0, 25, 1), (25, .getfield 25, 28, 3), (28, .getfield 162, 31, 3), (31, .iload_n 2, 32, 1), (32, .iconst 0, 33, 1), (33, .invokevirtual 132, 36, 3), (36, .istore_n 3, 37, 1), (37, .aload_n 0, 38, 1), (38, .getfield 41, 41, 3), (41, .getfield 165, 44, 3), (44, .iload_n 2, 45, 1), (45, .iaload, 46, 1), (46, .ifCond .ne 25, 49, 3), (49, .aload_n 0, 50, 1), (50, .iload_n 3, 51, 1), (51, .iconst 0, 52, 1), (52, .invokevirtual 157, 55, 3), (55, .aload_n 0, 56, 1), (56, .iload_n 3, 57, 1), (57, .iconst 1, 58, 1), (58, .invokevirtual 157, 61, 3), (61, .ior, 62, 1), (62, .ifCond .ne 9, 65, 3), (65, .iload_n 1, 66, 1), (66, .iconst 1, 67, 1), (67, .iload_n 2, 68, 1), (68, .ishl, 69, 1), (69, .ior, 70, 1), (70, .istore_n 1, 71, 1), (71, .iinc 2 1, 74, 3), (74, .goto (-70), 77, 3), (77, .iload_n 1, 78, 1), (78, .ireturn, 79, 1)])
theorem ok9_unmet : MOk m9_unmet := ⟨by decide, mem_g 1095 (by decide +kernel) rfl, ini9, ⟨by decide, by decide⟩, by decide, by unfold MDe; decide +kernel⟩
def m9_blows : MD := (yX9_blows, cX9_blows, 3, (some (Jvm.ClassFile.FieldType.int)), [(0, .aload_n 0, 1, 1), (1, .getfield 41, 4, 3), (4, .iload_n 1, 5, 1), (5, .invokevirtual 121, 8, 3), (8, .ifCond .ne 5, 11, 3), (11, .iconst (-1), 12, 1), (12, .ireturn, 13, 1), (13, .aload_n 0, 14, 1), (14, .getfield 34, 17, 3), (17, .invokevirtual 216, 20, 3), (20, .aload_n 0, 21, 1), (21, .getfield 45, 24, 3), (24, .aload_n 0, 25, 1), (25, .getfield 41, 28, 3), (28, .invokevirtual 219, 31, 3), (31, .iconst 0, 32, 1), (32, .istore_n 2, 33, 1), (33, .iload_n 2, 34, 1), (34, .bipush 99, 36, 2), (36, .if_icmp .ge 31, 39, 3), (39, .aload_n 0, 40, 1), (40, .getfield 45, 43, 3), (43, .iload_n 1, 44, 1), (44, .invokevirtual 203, 47, 3), (47, .ifCond .eq 20, 50, 3), (50, .aload_n 0, 51, 1), (51, .getfield 34, 54, 3), (54, .aload_n 0, 55, 1), (55, .getfield 45, 58, 3), (58, .invokevirtual 212, 61, 3), (61, .iinc 2 1, 64, 3), (64, .goto (-31), 67, 3), (67, .aload_n 0, 68, 1), (68, .getfield 45, 71, 3), (71, .getfield 142, 74, 3), (74, .iload_n 1, 75, 1), (75, .iaload, 76, 1), (76, .iconst 3, 77, 1), (77, .if_icmp .ne 21, 80, 3), (80, .aload_n 0, 81, 1), (81, .getfield 45, 84, 3), (84, .getfield 206, 87, 3), (87, .aload_n 0, 88, 1), (88, .getfield 41, 91, 3), (91, .getfield 206, 94, 3), (94, .isub, 95, 1), (95, .goto 5, 98, 3), (98, .bipush (-2), 100, 2), (100, .ireturn, 101, 1)])
theorem ok9_blows : MOk m9_blows := ⟨by decide, mem_g 1099 (by decide +kernel) rfl, ini9, ⟨by decide, by decide⟩, by decide, by unfold MDe; decide +kernel⟩
def m9_note : MD := (yX9_note, cX9_note, 4, (some (Jvm.ClassFile.FieldType.int)), [(0, .iload_n 1, 1, 1), (1, .ifCond .lt 27, 4, 3), (4, .iload_n 1, 5, 1), (5, .iconst 1, 6, 1), (6, .if_icmp .gt 22, 9, 3), (9, .iload_n 2, 10, 1), (10, .ifCond .lt 18, 13, 3), (13, .iload_n 2, 14, 1), (14, .iload_n 1, 15, 1), (15, .ifCond .ne 8, 18, 3), (18, .bipush 99, 20, 2), (20, .goto 5, 23, 3), (23, .bipush 9, 25, 2), (25, .if_icmp .le 5, 28, 3), (28, .iconst (-1), 29, 1), (29, .ireturn, 30, 1), (30, .aload_n 0, 31, 1), (31, .getfield 54, 34, 3), (34, .iload_n 1, 35, 1), (35, .ifCond .ne 7, 38, 3), (38, .iconst 0, 39, 1), (39, .goto 4, 42, 3), (42, .iconst 1, 43, 1), (43, .iload_n 2, 44, 1), (44, .iconst 0, 45, 1), (45, .iload_n 3, 46, 1), (46, .invokevirtual 303, 49, 3), (49, .ireturn, 50, 1)])
theorem ok9_note : MOk m9_note := ⟨by decide, mem_g 1103 (by decide +kernel) rfl, ini9, ⟨by decide, by decide⟩, by decide, by unfold MDe; decide +kernel⟩
def m9_see : MD := (yX9_see, cX9_see, 4, (some (Jvm.ClassFile.FieldType.int)), [(0, .iload_n 1, 1, 1), (1, .iconst 1, 2, 1), (2, .if_icmp .lt 20, 5, 3), (5, .iload_n 1, 6, 1), (6, .bipush 60, 8, 2), (8, .if_icmp .gt 14, 11, 3), (11, .aload_n 0, 12, 1), (12, .getfield 41, 15, 3), (15, .iload_n 2, 16, 1), (16, .invokevirtual 121, 19, 3), (19, .ifCond .ne 5, 22, 3), (22, .iconst (-1), 23, 1), (23, .ireturn, 24, 1), (24, .aload_n 0, 25, 1), (25, .getfield 54, 28, 3), (28, .iconst 2, 29, 1), (29, .iload_n 1, 30, 1), (30, .iload_n 2, 31, 1), (31, .iload_n 3, 32, 1), (32, .invokevirtual 303, 35, 3), (35, .ireturn, 36, 1)])
theorem ok9_see : MOk m9_see := ⟨by decide, mem_g 1114 (by decide +kernel) rfl, ini9, ⟨by decide, by decide⟩, by decide, by unfold MDe; decide +kernel⟩
def m9_strike : MD := (yX9_strike, cX9_strike, 2, (some (Jvm.ClassFile.FieldType.int)), [(0, .aload_n 0, 1, 1), (1, .getfield 54, 4, 3), (4, .getfield 306, 7, 3), (7, .iload_n 1, 8, 1), (8, .invokevirtual 156, 11, 3), (11, .ifCond .ne 5, 14, 3), (14, .iconst (-1), 15, 1), (15, .ireturn, 16, 1), (16, .aload_n 0, 17, 1), (17, .getfield 54, 20, 3), (20, .iconst 3, 21, 1), (21, .iload_n 1, 22, 1), (22, .iconst 0, 23, 1), (23, .iconst 1, 24, 1), (24, .invokevirtual 303, 27, 3), (27, .ireturn, 28, 1)])
theorem ok9_strike : MOk m9_strike := ⟨by decide, mem_g 1118 (by decide +kernel) rfl, ini9, ⟨by decide, by decide⟩, by decide, by unfold MDe; decide +kernel⟩
def m9_known : MD := (yX9_known, cX9_known, 2, (some (Jvm.ClassFile.FieldType.boolean)), [(0, .iload_n 1, 1, 1), (1, .iconst (-1), 2, 1), (2, .if_icmp .lt 17, 5, 3), (5, .iload_n 1, 6, 1), (6, .aload_n 0, 7, 1), (7, .getfield 54, 10, 3), (10, .getfield 306, 13, 3), (13, .getfield 300, 16, 3), (16, .if_icmp .le 5, 19, 3), (19, .iconst 0, 20, 1), (20, .ireturn, 21, 1), (21, .aload_n 0, 22, 1), (22, .getfield 54, 25, 3), (25, .iload_n 1, 26, 1), (26, .putfield 309, 29, 3), (29, .iconst 1, 30, 1), (30, .ireturn, 31, 1)])
theorem ok9_known : MOk m9_known := ⟨by decide, mem_g 1122 (by decide +kernel) rfl, ini9, ⟨by decide, by decide⟩, by decide, by unfold MDe; decide +kernel⟩
def m9_which : MD := (yX9_which, cX9_which, 6, (some (Jvm.ClassFile.FieldType.int)), [(0, .iconst 0, 1, 1), (1, .istore_n 1, 2, 1), (2, .aload_n 0, 3, 1), (3, .getfield 54, 6, 3), (6, .invokevirtual 312, 9, 3), (9, .istore_n 2, 10, 1), (10, .iconst 0, 11, 1), (11, .istore_n 3, 12, 1), (12, .iload_n 3, 13, 1), (13, .aload_n 0, 14, 1), (14, .getfield 25, 17, 3), (17, .getfield 108, 20, 3), (20, .getfield 300, 23, 3), (23, .if_icmp .ge 58, 26, 3), (26, .aload_n 0, 27, 1), (27, .getfield 25, 30, 3), (30, .getfield 108, 33, 3), (33, .iload_n 3, 34, 1), (34, .iconst 1, 35, 1), (35, .invokevirtual 132, 38, 3), (38, .istore 4, 40, 2), (40, .aload_n 0, 41, 1), (41, .getfield 25, 44, 3), (44, .getfield 108, 47, 3), (47, .iload_n 3, 48, 1), (48, .iconst 2, 49, 1), (49, .invokevirtual 132, 52, 3), (52, .istore 5, 54, 2), (54, .aload_n 0, 55, 1), (55, .getfield 54, 58, 3), (58, .iload_n 2, 59, 1), (59, .iload 4, 61, 2), (61, .iload 5, 63, 2), (63, .invokevirtual 315, 66, 3), (66, .ifCond .eq 9, 69, 3), (69, .iload_n 1, 70, 1), (70, .iconst 1, 71, 1), (71, .iload_n 3, 72, 1), (72, .ishl, 73, 1), (73, .ior, 74, 1), (74, .istore_n 1, 75, 1), (75, .iinc 3 1, 78, 3), (78, .goto (-66), 81, 3), (81, .iload_n 1, 82, 1), (82, .ireturn, 83, 1)])
theorem ok9_which : MOk m9_which := ⟨by decide, mem_g 1126 (by decide +kernel) rfl, ini9, ⟨by decide, by decide⟩, by decide, by unfold MDe; decide +kernel⟩
def m9_ask : MD := (yX9_ask, cX9_ask, 8, (some (Jvm.ClassFile.FieldType.int)), [(0, .iload_n 1, 1, 1), (1, .ifCond .lt 8, 4, 3), (4, .iload_n 1, 5, 1), (5, .iconst 1, 6, 1), (6, .if_icmp .le 5, 9, 3), (9, .iconst (-1), 10, 1), (10, .ireturn, 11, 1), (11, .aload_n 0, 12, 1), (12, .invokevirtual 318, 15, 3), (15, .istore_n 2, 16, 1), (16, .ldc_w 323, 19, 3), (19, .istore_n 3, 20, 1), (20, .iconst 0, 21, 1), (21, .istore 4, 23, 2), (23, .iconst 1, 24, 1), (24, .istore 5, 26, 2), (26, .iload 5, 28, 2), (28, .bipush 99, 30, 2), (30, .if_icmp .gt 93, 33, 3), (33, .iconst 0, 34, 1), (34, .istore 6, 36, 2), (36, .iconst 0, 37, 1), (37, .istore 7, 39, 2), (39, .iload 7, 41, 2), (41, .aload_n 0, 42, 1), (42, .getfield 25, 45, 3), (45, .getfield 108, 48, 3), (48, .getfield 300, 51, 3), (51, .if_icmp .ge 39, 54, 3), (54, .iload_n 2, 55, 1), (55, .iload 7, 57, 2), (57, .invokestatic 324, 60, 3), (60, .ifCond .eq 24, 63, 3), (63, .aload_n 0, 64, 1), (64, .getfield 25, 67, 3), (67, .getfield 108, 70, 3), (70, .iload 7, 72, 2), (72, .iconst 1, 73, 1), (73, .invokevirtual 132, 76, 3), (76, .iload 5, 78, 2), (78, .if_icmp .lt 6, 81, 3), (81, .iinc 6 1, 84, 3), (84, .iinc 7 1, 87, 3), (87, .goto (-48), 90, 3), (90, .iload 6, 92, 2), (92, .iload_n 2, 93, 1), (93, .invokestatic 328, 96, 3), (96, .iload 6, 98, 2), (98, .isub, 99, 1), (99, .invokestatic 331, 102, 3), (102, .istore 7, 104, 2), (104, .iload 7, 106, 2), (106, .iload_n 3, 107, 1), (107, .if_icmp .ge 10, 110, 3), (110, .iload 7, 112, 2), (112, .istore_n 3, 113, 1), (113, .iload 5, 115, 2), (115, .istore 4, 117, 2), (117, .iinc 5 1, 120, 3), (120, .goto (-94), 123, 3), (123, .iload_n 1, 124, 1), (124, .ifCond .ne 8, 127, 3), (127, .iload 4, 129, 2), (129, .goto 4, 132, 3), (132, .iload_n 3, 133, 1), (133, .ireturn, 134, 1)])
theorem ok9_ask : MOk m9_ask := ⟨by decide, mem_g 1145 (by decide +kernel) rfl, ini9, ⟨by decide, by decide⟩, by decide, by unfold MDe; decide +kernel⟩
def m9_dented : MD := (yX9_dented, cX9_dented, 5, (some (Jvm.ClassFile.FieldType.int)), [(0, .aload_n 0, 1, 1), (1, .getfield 41, 4, 3), (4, .iload_n 1, 5, 1), (5, .invokevirtual 121, 8, 3), (8, .ifCond .ne 5, 11, 3), (11, .iconst (-1), 12, 1), (12, .ireturn, 13, 1), (13, .iconst 0, 14, 1), (14, .istore_n 2, 15, 1), (15, .aload_n 0, 16, 1), (16, .getfield 54, 19, 3), (19, .invokevirtual 312, 22, 3), (22, .istore_n 3, 23, 1), (23, .aload_n 0, 24, 1), (24, .getfield 34, 27, 3), (27, .invokevirtual 216, 30, 3), (30, .iconst 0, 31, 1), (31, .istore 4, 33, 2), (33, .iload 4, 35, 2), (35, .bipush 9, 37, 2), (37, .if_icmp .gt 46, 40, 3), (40, .aload_n 0, 41, 1), (41, .getfield 45, 44, 3), (44, .aload_n 0, 45, 1), (45, .getfield 25, 48, 3), (48, .invokevirtual 72, 51, 3), (51, .aload_n 0, 52, 1), (52, .getfield 45, 55, 3), (55, .getfield 136, 58, 3), (58, .iload_n 1, 59, 1), (59, .iload 4, 61, 2), (61, .iastore, 62, 1), (62, .aload_n 0, 63, 1), (63, .iload_n 3, 64, 1), (64, .invokevirtual 334, 67, 3), (67, .ifCond .eq 10, 70, 3), (70, .iload_n 2, 71, 1), (71, .iconst 1, 72, 1), (72, .iload 4, 74, 2), (74, .ishl, 75, 1), (75, .ior, 76, 1), (76, .istore_n 2, 77, 1), (77, .iinc 4 1, 80, 3), (80, .goto (-47), 83, 3), (83, .iload_n 2, 84, 1), (84, .ireturn, 85, 1)])
theorem ok9_dented : MOk m9_dented := ⟨by decide, mem_g 1159 (by decide +kernel) rfl, ini9, ⟨by decide, by decide⟩, by decide, by unfold MDe; decide +kernel⟩
def m9_isSeenSo : MD := (yX9_isSeenSo, cX9_isSeenSo, 4, (some (Jvm.ClassFile.FieldType.boolean)), [(0, .aload_n 0, 1, 1), (1, .getfield 54, 4, 3), (4, .iload_n 1, 5, 1), (5, .invokevirtual 337, 8, 3), (8, .istore_n 2, 9, 1), (9, .iconst 1, 10, 1), (10, .istore_n 3, 11, 1), (11, .iload_n 3, 12, 1), (12, .iload_n 2, 13, 1), (13, .if_icmp .gt 38, 16, 3), (16, .aload_n 0, 17, 1), (17, .getfield 34, 20, 3), (20, .aload_n 0, 21, 1), (21, .getfield 45, 24, 3), (24, .invokevirtual 212, 27, 3), (27, .aload_n 0, 28, 1), (28, .getfield 54, 31, 3), (31, .iload_n 1, 32, 1), (32, .iload_n 3, 33, 1), (33, .aload_n 0, 34, 1), (34, .getfield 45, 37, 3), (37, .invokevirtual 340, 40, 3), (40, .ifCond .ne 5, 43, 3), (43, .iconst 0, 44, 1), (44, .ireturn, 45, 1), (45, .iinc 3 1, 48, 3), (48, .goto (-37), 51, 3), (51, .iconst 1, 52, 1), (52, .ireturn, 53, 1)])
theorem ok9_isSeenSo : MOk m9_isSeenSo := ⟨by decide, mem_g 1163 (by decide +kernel) rfl, ini9, ⟨by decide, by decide⟩, by decide, by unfold MDe; decide +kernel⟩
def m9_chance : MD := (yX9_chance, cX9_chance, 9, (some (Jvm.ClassFile.FieldType.int)), [(0, .iload_n 1, 1, 1), (1, .ifCond .lt 14, 4, 3), (4, .iload_n 2, 5, 1), (5, .iconst 1, 6, 1), (6, .if_icmp .lt 9, 9, 3), (9, .iload_n 2, 10, 1), (10, .bipush 99, 12, 2), (12, .if_icmp .le 5, 15, 3), (15, .iconst (-1), 16, 1), (16, .ireturn, 17, 1), (17, .iload_n 3, 18, 1), (18, .ifCond .lt 9, 21, 3), (21, .iload_n 3, 22, 1), (22, .bipush 8, 24, 2), (24, .if_icmp .le 5, 27, 3), (27, .iconst (-1), 28, 1), (28, .ireturn, 29, 1), (29, .iload_n 1, 30, 1), (30, .i2l, 31, 1), (31, .lstore 4, 33, 2), (33, .iconst 0, 34, 1), (34, .istore 6, 36, 2), (36, .aload_n 0, 37, 1), (37, .getfield 34, 40, 3), (40, .invokevirtual 209, 43, 3), (43, .iconst 0, 44, 1), (44, .istore 7, 46, 2), (46, .iload 7, 48, 2), (48, .bipush 10, 50, 2), (50, .if_icmp .ge 79, 53, 3), (53, .aload_n 0, 54, 1), (54, .getfield 45, 57, 3), (57, .aload_n 0, 58, 1), (58, .getfield 41, 61, 3), (61, .invokevirtual 219, 64, 3), (64, .aload_n 0, 65, 1), (65, .getfield 45, 68, 3), (68, .lload 4, 70, 2), (70, .putfield 343, 73, 3), (73, .iconst 0, 74, 1), (74, .istore 8, 76, 2), (76, .iload 8, 78, 2), (78, .iload_n 2, 79, 1), (79, .if_icmp .ge 20, 82, 3), (82, .aload_n 0, 83, 1), (83, .getfield 34, 86, 3), (86, .aload_n 0, 87, 1), (87, .getfield 45, 90, 3), (90, .invokevirtual 212, 93, 3), (93, .iinc 8 1, 96, 3), (96, .goto (-20), 99, 3), (99, .aload_n 0, 100, 1), (100, .getfield 45, 103, 3), (103, .getfield 343, 106, 3), (106, .lstore 4, 108, 2), (108, .aload_n 0, 109, 1), (109, .getfield 45, 112, 3), (112, .iconst 3, 113, 1), (113, .invokevirtual 230, 116, 3), (116, .iload_n 3, 117, 1), (117, .if_icmp .lt 6, 120, 3), (120, .iinc 6 1, 123, 3), (123, .iinc 7 1, 126, 3), (126, .goto (-80), 129, 3), (129, .iload 6, 131, 2), (131, .ireturn, 132, 1)])
theorem ok9_chance : MOk m9_chance := ⟨by decide, mem_g 1177 (by decide +kernel) rfl, ini9, ⟨by decide, by decide⟩, by decide, by unfold MDe; decide +kernel⟩
def m9_tried : MD := (yX9_tried, cX9_tried, 5, (some (Jvm.ClassFile.FieldType.int)), [(0, .iload_n 1, 1, 1), (1, .ifCond .lt 18, 4, 3), (4, .iload_n 1, 5, 1), (5, .iconst 5, 6, 1), (6, .if_icmp .gt 13, 9, 3), (9, .iload_n 3, 10, 1), (10, .ifCond .lt 9, 13, 3), (13, .iload_n 3, 14, 1), (14, .bipush 99, 16, 2), (16, .if_icmp .le 5, 19, 3), (19, .iconst (-1), 20, 1), (20, .ireturn, 21, 1), (21, .iload_n 1, 22, 1), (22, .iconst 2, 23, 1), (23, .if_icmp .ne 17, 26, 3), (26, .aload_n 0, 27, 1), (27, .getfield 41, 30, 3), (30, .iload_n 2, 31, 1), (31, .invokevirtual 121, 34, 3), (34, .ifCond .ne 12, 37, 3), (37, .goto 7, 40, 3), (40, .iload_n 2, 41, 1), (41, .ifCond .eq 5, 44, 3), (44, .iconst (-1), 45, 1), (45, .ireturn, 46, 1), (46, .aload_n 0, 47, 1), (47, .getfield 34, 50, 3), (50, .iload_n 1, 51, 1), (51, .iload_n 2, 52, 1), (52, .invokevirtual 347, 55, 3), (55, .aload_n 0, 56, 1), (56, .getfield 45, 59, 3), (59, .aload_n 0, 60, 1), (60, .getfield 41, 63, 3), (63, .invokevirtual 219, 66, 3), (66, .iload_n 1, 67, 1), (67, .iconst 4, 68, 1), (68, .if_icmp .ne 12, 71, 3), (71, .aload_n 0, 72, 1), (72, .getfield 45, 75, 3), (75, .bipush 20, 77, 2), (77, .putfield 186, 80, 3), (80, .iconst 0, 81, 1), (81, .istore 4, 83, 2), (83, .iload 4, 85, 2), (85, .iload_n 3, 86, 1), (86, .if_icmp .ge 34, 89, 3), (89, .aload_n 0, 90, 1), (90, .getfield 34, 93, 3), (93, .aload_n 0, 94, 1), (94, .getfield 45, 97, 3), (97, .invokevirtual 252, 100, 3), (100, .ifCond .eq 20, 103, 3), (103, .aload_n 0, 104, 1), (104, .getfield 34, 107, 3), (107, .aload_n 0, 108, 1), (108, .getfield 45, 111, 3), (111, .invokevirtual 212, 114, 3), (114, .iinc 4 1, 117, 3), (117, .goto (-34), 120, 3), (120, .aload_n 0, 121, 1), (121, .getfield 45, 124, 3), (124, .getfield 221, 127, 3), (127, .aload_n 0, 128, 1), (128, .getfield 41, 131, 3), (131, .getfield 221, 134, 3), (134, .isub, 135, 1), (135, .ireturn, 136, 1)])
theorem ok9_tried : MOk m9_tried := ⟨by decide, mem_g 1181 (by decide +kernel) rfl, ini9, ⟨by decide, by decide⟩, by decide, by unfold MDe; decide +kernel⟩
def m9_undo : MD := (yX9_undo, cX9_undo, 1, (some (Jvm.ClassFile.FieldType.int)), [(0, .aload_n 0, 1, 1), (1, .getfield 61, 4, 3), (4, .getfield 350, 7, 3), (7, .getfield 300, 10, 3), (10, .ifCond .ne 5, 13, 3), (13, .iconst (-1), 14, 1), (14, .ireturn, 15, 1), (15, .aload_n 0, 16, 1), (16, .getfield 61, 19, 3), (19, .aload_n 0, 20, 1), (20, .getfield 41, 23, 3), (23, .invokevirtual 351, 26, 3), (26, .aload_n 0, 27, 1), (27, .getfield 61, 30, 3), (30, .getfield 350, 33, 3), (33, .getfield 300, 36, 3), (36, .ireturn, 37, 1)])
theorem ok9_undo : MOk m9_undo := ⟨by decide, mem_g 1189 (by decide +kernel) rfl, ini9, ⟨by decide, by decide⟩, by decide, by unfold MDe; decide +kernel⟩
def m9_keep : MD := (yX9_keep, cX9_keep, 1, (some (Jvm.ClassFile.FieldType.int)), [(0, .aload_n 0, 1, 1), (1, .getfield 48, 4, 3), (4, .aload_n 0, 5, 1), (5, .getfield 41, 8, 3), (8, .invokevirtual 219, 11, 3), (11, .aload_n 0, 12, 1), (12, .iconst 1, 13, 1), (13, .putfield 98, 16, 3), (16, .aload_n 0, 17, 1), (17, .getfield 41, 20, 3), (20, .getfield 206, 23, 3), (23, .ireturn, 24, 1)])
theorem ok9_keep : MOk m9_keep := ⟨by decide, mem_g 1204 (by decide +kernel) rfl, ini9, ⟨by decide, by decide⟩, by decide, by unfold MDe; decide +kernel⟩
def m9_back : MD := (yX9_back, cX9_back, 1, (some (Jvm.ClassFile.FieldType.int)), [(0, .aload_n 0, 1, 1), (1, .getfield 98, 4, 3), (4, .ifCond .ne 5, 7, 3), (7, .iconst (-1), 8, 1), (8, .ireturn, 9, 1), (9, .aload_n 0, 10, 1), (10, .getfield 41, 13, 3), (13, .aload_n 0, 14, 1), (14, .getfield 48, 17, 3), (17, .invokevirtual 219, 20, 3), (20, .aload_n 0, 21, 1), (21, .getfield 61, 24, 3), (24, .invokevirtual 97, 27, 3), (27, .aload_n 0, 28, 1), (28, .getfield 41, 31, 3), (31, .getfield 206, 34, 3), (34, .ireturn, 35, 1)])
theorem ok9_back : MOk m9_back := ⟨by decide, mem_g 1208 (by decide +kernel) rfl, ini9, ⟨by decide, by decide⟩, by decide, by unfold MDe; decide +kernel⟩
def m9_count : MD := (yX9_count, cX9_count, 2, (some (Jvm.ClassFile.FieldType.int)), [(0, .iload_n 1, 1, 1), (1, .tableswitch 228 0 15 #[79, 90, 101, 112, 123, 131, 140, 149, 158, 166, 174, 182, 190, 198, 209, 217], 80, 79), (80, .aload_n 0, 81, 1), (81, .getfield 25, 84, 3), (84, .getfield 108, 87, 3), (87, .getfield 300, 90, 3), (90, .ireturn, 91, 1), (91, .aload_n 0, 92, 1), (92, .getfield 25, 95, 3), (95, .getfield 118, 98, 3), (98, .getfield 300, 101, 3), (101, .ireturn, 102, 1), (102, .aload_n 0, 103, 1), (103, .getfield 25, 106, 3), (106, .getfield 162, 109, 3), (109, .getfield 300, 112, 3), (112, .ireturn, 113, 1), (113, .aload_n 0, 114, 1), (114, .getfield 25, 117, 3), (117, .getfield 172, 120, 3), (120, .getfield 354, 123, 3), (123, .ireturn, 124, 1), (124, .aload_n 0, 125, 1), (125, .getfield 41, 128, 3), (128, .getfield 206, 131, 3), (131, .ireturn, 132, 1), (132, .aload_n 0, 133, 1), (133, .getfield 41, 136, 3), (136, .iconst 0, 137, 1), (137, .invokevirtual 230, 140, 3), (140, .ireturn, 141, 1), (141, .aload_n 0, 142, 1), (142, .getfield 41, 145, 3), (145, .iconst 1, 146, 1), (146, .invokevirtual 230, 149, 3), (149, .ireturn, 150, 1), (150, .aload_n 0, 151, 1), (151, .getfield 41, 154, 3), (154, .iconst 3, 155, 1), (155, .invokevirtual 230, 158, 3), (158, .ireturn, 159, 1), (159, .aload_n 0, 160, 1), (160, .getfield 41, 163, 3), (163, .getfield 221, 166, 3), (166, .ireturn, 167, 1), (167, .aload_n 0, 168, 1), (168, .getfield 41, 171, 3), (171, .getfield 224, 174, 3), (174, .ireturn, 175, 1), (175, .aload_n 0, 176, 1), (176, .getfield 41, 179, 3), (179, .getfield 227, 182, 3), (182, .ireturn, 183, 1), (183, .aload_n 0, 184, 1), (184, .getfield 41, 187, 3), (187, .getfield 357, 190, 3), (190, .ireturn, 191, 1), (191, .aload_n 0, 192, 1), (192, .getfield 41, 195, 3), (195, .getfield 186, 198, 3), (198, .ireturn, 199, 1), (199, .aload_n 0, 200, 1), (200, .getfield 54, 203, 3), (203, .getfield 306, 206, 3), (206, .getfield 300, 209, 3), (209, .ireturn, 210, 1), (210, .aload_n 0, 211, 1), (211, .getfield 54, 214, 3), (214, .invokevirtual 360, 217, 3), (217, .ireturn, 218, 1), (218, .aload_n 0, 219, 1), (219, .getfield 61, 222, 3), (222, .getfield 350, 225, 3), (225, .getfield 300, 228, 3), (228, .ireturn, 229, 1), (229, .iconst (-1), 230, 1), (230, .ireturn, 231, 1)])
theorem ok9_count : MOk m9_count := ⟨by decide, mem_g 1212 (by decide +kernel) rfl, ini9, ⟨by decide, by decide⟩, by decide, by unfold MDe; decide +kernel⟩
end
section
def m10_init : MD := (yX10_init, cX10_init, 1, none, [(0, .aload_n 0, 1, 1), (1, .invokespecial 1, 4, 3), (4, .aload_n 0, 5, 1), (5, .sipush 700, 8, 3), (8, .newarray .int, 10, 2), (10, .putfield 7, 13, 3), (13, .aload_n 0, 14, 1), (14, .bipush 16, 16, 2), (16, .newarray .int, 18, 2), (18, .dup, 19, 1), (19, .iconst 0, 20, 1), (20, .iconst 0, 21, 1), (21, .iastore, 22, 1), (22, .dup, 23, 1), (23, .iconst 1, 24, 1), (24, .iconst 0, 25, 1), (25, .iastore, 26, 1), (26, .dup, 27, 1), (27, .iconst 2, 28, 1), (28, .iconst 0, 29, 1), (29, .iastore, 30, 1), (30, .dup, 31, 1), (31, .iconst 3, 32, 1), (32, .iconst 0, 33, 1), (33, .iastore, 34, 1), (34, .dup, 35, 1), (35, .iconst 4, 36, 1), (36, .bipush 20, 38, 2), (38, .iastore, 39, 1), (39, .dup, 40, 1), (40, .iconst 5, 41, 1), (41, .iconst 0, 42, 1), (42, .iastore, 43, 1), (43, .dup, 44, 1), (44, .bipush 6, 46, 2), (46, .iconst 0, 47, 1), (47, .iastore, 48, 1), (48, .dup, 49, 1), (49, .bipush 7, 51, 2), (51, .iconst 0, 52, 1), (52, .iastore, 53, 1), (53, .dup, 54, 1), (54, .bipush 8, 56, 2), (56, .iconst 0, 57, 1), (57, .iastore, 58, 1), (58, .dup, 59, 1), (59, .bipush 9, 61, 2), (61, .iconst 0, 62, 1), (62, .iastore, 63, 1), (63, .dup, 64, 1), (64, .bipush 10, 66, 2), (66, .iconst 0, 67, 1), (67, .iastore, 68, 1), (68, .dup, 69, 1), (69, .bipush 11, 71, 2), (71, .iconst 0, 72, 1), (72, .iastore, 73, 1), (73, .dup, 74, 1), (74, .bipush 12, 76, 2), (76, .bipush 20, 78, 2), (78, .iastore, 79, 1), (79, .dup, 80, 1), (80, .bipush 13, 82, 2), (82, .iconst 0, 83, 1), (83, .iastore, 84, 1), (84, .dup, 85, 1), (85, .bipush 14, 87, 2), (87, .iconst 0, 88, 1), (88, .iastore, 89, 1), (89, .dup, 90, 1), (90, .bipush 15, 92, 2), (92, .iconst 0, 93, 1), (93, .iastore, 94, 1), (94, .putfield 13, 97, 3), (97, .aload_n 0, 98, 1), (98, .bipush 12, 100, 2), (100, .newarray .int, 102, 2), (102, .putfield 16, 105, 3), (105, .aload_n 0, 106, 1), (106, .bipush 12, 108, 2), (108, .newarray .int, 110, 2), (110, .putfield 19, 113, 3), (113, .aload_n 0, 114, 1), (114, .bipush 12, 116, 2), (116, .newarray .int, 118, 2), (118, .putfield 22, 121, 3), (121, .aload_n 0, 122, 1), (122, .bipush 16, 124, 2), (124, .newarray .int, 126, 2), (126, .putfield 25, 129, 3), (129, .aload_n 0, 130, 1), (130, .bipush 16, 132, 2), (132, .newarray .int, 134, 2), (134, .putfield 28, 137, 3), (137, .aload_n 0, 138, 1), (138, .bipush 16, 140, 2), (140, .newarray .int, 142, 2), (142, .putfield 31, 145, 3), (145, .aload_n 0, 146, 1), (146, .bipush 16, 148, 2), (148, .newarray .int, 150, 2), (150, .putfield 34, 153, 3), (153, .aload_n 0, 154, 1), (154, .bipush 16, 156, 2), (156, .newarray .int, 158, 2), (158, .putfield 37, 161, 3), (161, .aload_n 0, 162, 1), (162, .bipush 20, 164, 2), (164, .newarray .int, 166, 2), (166, .putfield 40, 169, 3), (169, .aload_n 0, 170, 1), (170, .bipush 20, 172, 2), (172, .newarray .int, 174, 2), (174, .putfield 43, 177, 3), (177, .aload_n 0, 178, 1), (178, .bipush 16, 180, 2), (180, .newarray .int, 182, 2), (182, .putfield 46, 185, 3), (185, .aload_n 0, 186, 1), (186, .bipush 16, 188, 2), (188, .newarray .int, 190, 2), (190, .putfield 49, 193, 3), (193, .aload_n 0, 194, 1), (194, .bipush 16, 196, 2), (196, .newarray .int, 198, 2), (198, .putfield 52, 201, 3), (201, .aload_n 0, 202, 1), (202, .bipush 6, 204, 2), (204, .newarray .int, 206, 2), (206, .putfield 55, 209, 3), (209, .aload_n 0, 210, 1), (210, .bipush 6, 212, 2), (212, .newarray .int, 214, 2), (214, .putfield 58, 217, 3), (217, .aload_n 0, 218, 1), (218, .sipush 128, 221, 3), (221, .newarray .int, 223, 2), (223, .putfield 61, 226, 3), (226, .aload_n 0, 227, 1), (227, .sipush 128, 230, 3), (230, .newarray .int, 232, 2), (232, .putfield 64, 235, 3), (235, .aload_n 0, 236, 1), (236, .iconst (-1), 237, 1), (237, .putfield 67, 240, 3), (240, .aload_n 0, 241, 1), (241, .bipush 7, 243, 2), (243, .newarray .long, 245, 2), (245, .putfield 71, 248, 3), (248, .aload_n 0, 249, 1), (249, .bipush 64, 251, 2), (251, .newarray .long, 253, 2), (253, .putfield 75, 256, 3), (256, .aload_n 0, 257, 1), (257, .bipush 23, 259, 2), (259, .newarray .int, 261, 2), (261, .putfield 78, 264, 3), (264, .aload_n 0, 265, 1), (265, .bipush 23, 267, 2), (267, .newarray .int, 269, 2), (269, .putfield 81, 272, 3), (272, .aload_n 0, 273, 1), (273, .bipush 23, 275, 2), (275, .newarray .int, 277, 2), (277, .putfield 84, 280, 3), (280, .aload_n 0, 281, 1), (281, .bipush 23, 283, 2), (283, .newarray .int, 285, 2), (285, .putfield 87, 288, 3), (288, .aload_n 0, 289, 1), (289, .bipush 23, 291, 2), (291, .newarray .int, 293, 2), (293, .putfield 90, 296, 3), (296, .aload_n 0, 297, 1), (297, .bipush 23, 299, 2), (299, .newarray .int, 301, 2), (301, .putfield 93, 304, 3), (304, .aload_n 0, 305, 1), (305, .sipush 184, 308, 3), (308, .newarray .int, 310, 2), (310, .putfield 96, 313, 3), (313, .aload_n 0, 314, 1), (314, .sipush 184, 317, 3), (317, .newarray .int, 319, 2), (319, .putfield 99, 322, 3), (322, .aload_n 0, 323, 1), (323, .sipush 184, 326, 3), (326, .newarray .int, 328, 2), (328, .putfield 102, 331, 3), (331, .aload_n 0, 332, 1), (332, .sipush 184, 335, 3), (335, .newarray .int, 337, 2), (337, .putfield 105, 340, 3), (340, .aload_n 0, 341, 1), (341, .sipush 184, 344, 3), (344, .newarray .int, 346, 2), (346, .putfield 108, 349, 3), (349, .aload_n 0, 350, 1), (350, .sipush 184, 353, 3), (353, .newarray .int, 355, 2), (355, .putfield 111, 358, 3), (358, .aload_n 0, 359, 1), (359, .sipush 184, 362, 3), (362, .newarray .int, 364, 2), (364, .putfield 114, 367, 3), (367, .aload_n 0, 368, 1), (368, .iconst (-1), 369, 1), (369, .putfield 117, 372, 3), (372, .aload_n 0, 373, 1), (373, .iconst 4, 374, 1), (374, .newarray .int, 376, 2), (376, .putfield 120, 379, 3), (379, .aload_n 0, 380, 1), (380, .iconst 4, 381, 1), (381, .newarray .int, 383, 2), (383, .putfield 123, 386, 3), (386, .aload_n 0, 387, 1), (387, .iconst 4, 388, 1), (388, .newarray .int, 390, 2), (390, .putfield 126, 393, 3), (393, .aload_n 0, 394, 1), (394, .iconst (-1), 395, 1), (395, .putfield 129, 398, 3), (398, .aload_n 0, 399, 1), (399, .bipush 24, 401, 2), (401, .newarray .int, 403, 2), (403, .putfield 132, 406, 3), (406, .aload_n 0, 407, 1), (407, .bipush 24, 409, 2), (409, .newarray .int, 411, 2), (411, .putfield 135, 414, 3), (414, .aload_n 0, 415, 1), (415, .bipush 24, 417, 2), (417, .newarray .int, 419, 2), (419, .putfield 138, 422, 3), (422, .aload_n 0, 423, 1), (423, .bipush 24, 425, 2), (425, .newarray .boolean, 427, 2), (427, .putfield 141, 430, 3), (430, .aload_n 0, 431, 1), (431, .bipush 24, 433, 2), (433, .newarray .boolean, 435, 2), (435, .putfield 145, 438, 3), (438, .aload_n 0, 439, 1), (439, .invokevirtual 148, 442, 3), (442, .return_, 443, 1)])
theorem ok10_init : MOk m10_init := ⟨by decide, mem_g 1309 (by decide +kernel) rfl, ini10, ⟨by decide, by decide⟩, by decide, by unfold MDe; decide +kernel⟩
def m10_thrown : MD := (yX10_thrown, cX10_thrown, 1, (some (Jvm.ClassFile.FieldType.int)), [(0, .aload_n 0, 1, 1), (1, .getfield 151, 4, 3), (4, .ireturn, 5, 1)])
theorem ok10_thrown : MOk m10_thrown := ⟨by decide, mem_g 1522 (by decide +kernel) rfl, ini10, ⟨by decide, by decide⟩, by decide, by unfold MDe; decide +kernel⟩
def m10_feed : MD := (yX10_feed, cX10_feed, 8, (some (Jvm.ClassFile.FieldType.int)), [(0, .aload_n 0, 1, 1), (1, .iconst 0, 2, 1), (2, .putfield 151, 5, 3), (5, .aload_n 0, 6, 1), (6, .getfield 154, 9, 3), (9, .sipush 680, 12, 3), (12, .if_icmp .le 5, 15, 3), (15, .iconst (-1), 16, 1), (16, .ireturn, 17, 1), (17, .iconst 0, 18, 1), (18, .istore 6, 20, 2), (20, .iload 6, 22, 2), (22, .bipush 20, 24, 2), (24, .if_icmp .ge 86, 27, 3), (27, .iload 6, 29, 2), (29, .iconst 4, 30, 1), (30, .if_icmp .ge 7, 33, 3), (33, .iload_n 1, 34, 1), (34, .goto 39, 37, 3), (37, .iload 6, 39, 2), (39, .bipush 8, 41, 2), (41, .if_icmp .ge 7, 44, 3), (44, .iload_n 2, 45, 1), (45, .goto 28, 48, 3), (48, .iload 6, 50, 2), (50, .bipush 12, 52, 2), (52, .if_icmp .ge 7, 55, 3), (55, .iload_n 3, 56, 1), (56, .goto 17, 59, 3), (59, .iload 6, 61, 2), (61, .bipush 16, 63, 2), (63, .if_icmp .ge 8, 66, 3), (66, .iload 4, 68, 2), (68, .goto 5, 71, 3), (71, .iload 5, 73, 2), (73, .istore 7, 75, 2), (75, .aload_n 0, 76, 1), (76, .getfield 7, 79, 3), (79, .aload_n 0, 80, 1), (80, .getfield 154, 83, 3), (83, .iload 6, 85, 2), (85, .iadd, 86, 1), (86, .iload 7, 88, 2), (88, .bipush 24, 90, 2), (90, .bipush 8, 92, 2), (92, .iload 6, 94, 2), (94, .iconst 4, 95, 1), (95, .irem, 96, 1), (96, .imul, 97, 1), (97, .isub, 98, 1), (98, .ishr, 99, 1), (99, .sipush 255, 102, 3), (102, .iand, 103, 1), (103, .iastore, 104, 1), (104, .iinc 6 1, 107, 3), (107, .goto (-87), 110, 3), (110, .aload_n 0, 111, 1), (111, .dup, 112, 1), (112, .getfield 154, 115, 3), (115, .bipush 20, 117, 2), (117, .iadd, 118, 1), (118, .putfield 154, 121, 3), (121, .aload_n 0, 122, 1), (122, .getfield 154, 125, 3), (125, .ireturn, 126, 1)])
theorem ok10_feed : MOk m10_feed := ⟨by decide, mem_g 1526 (by decide +kernel) rfl, ini10, ⟨by decide, by decide⟩, by decide, by unfold MDe; decide +kernel⟩
def m10_here : MD := (yX10_here, cX10_here, 1, (some (Jvm.ClassFile.FieldType.int)), [(0, .aload_n 0, 1, 1), (1, .getfield 157, 4, 3), (4, .aload_n 0, 5, 1), (5, .getfield 160, 8, 3), (8, .if_icmp .ge 15, 11, 3), (11, .aload_n 0, 12, 1), (12, .getfield 7, 15, 3), (15, .aload_n 0, 16, 1), (16, .getfield 157, 19, 3), (19, .iaload, 20, 1), (20, .goto 4, 23, 3), (23, .iconst (-1), 24, 1), (24, .ireturn, 25, 1)])
theorem ok10_here : MOk m10_here := ⟨by decide, mem_g 1542 (by decide +kernel) rfl, ini10, ⟨by decide, by decide⟩, by decide, by unfold MDe; decide +kernel⟩
def m10_isSmall : MD := (yX10_isSmall, cX10_isSmall, 1, (some (Jvm.ClassFile.FieldType.boolean)), [(0, .iload_n 0, 1, 1), (1, .bipush 97, 3, 2), (3, .if_icmp .lt 13, 6, 3), (6, .iload_n 0, 7, 1), (7, .bipush 122, 9, 2), (9, .if_icmp .gt 7, 12, 3), (12, .iconst 1, 13, 1), (13, .goto 4, 16, 3), (16, .iconst 0, 17, 1), (17, .ireturn, 18, 1)])
theorem ok10_isSmall : MOk m10_isSmall := ⟨by decide, mem_g 1545 (by decide +kernel) rfl, ini10, ⟨by decide, by decide⟩, by decide, by unfold MDe; decide +kernel⟩
def m10_isDigit : MD := (yX10_isDigit, cX10_isDigit, 1, (some (Jvm.ClassFile.FieldType.boolean)), [(0, .iload_n 0, 1, 1), (1, .bipush 48, 3, 2), (3, .if_icmp .lt 13, 6, 3), (6, .iload_n 0, 7, 1), (7, .bipush 57, 9, 2), (9, .if_icmp .gt 7, 12, 3), (12, .iconst 1, 13, 1), (13, .goto 4, 16, 3), (16, .iconst 0, 17, 1), (17, .ireturn, 18, 1)])
theorem ok10_isDigit : MOk m10_isDigit := ⟨by decide, mem_g 1559 (by decide +kernel) rfl, ini10, ⟨by decide, by decide⟩, by decide, by unfold MDe; decide +kernel⟩
def m10_token : MD := (yX10_token, cX10_token, 2, none, [(0, .aload_n 0, 1, 1), (1, .invokevirtual 163, 4, 3), (4, .bipush 10, 6, 2), (6, .if_icmp .eq 12, 9, 3), (9, .aload_n 0, 10, 1), (10, .invokevirtual 163, 13, 3), (13, .bipush 32, 15, 2), (15, .if_icmp .ne 16, 18, 3), (18, .aload_n 0, 19, 1), (19, .dup, 20, 1), (20, .getfield 157, 23, 3), (23, .iconst 1, 24, 1), (24, .iadd, 25, 1), (25, .putfield 157, 28, 3), (28, .goto (-28), 31, 3), (31, .aload_n 0, 32, 1), (32, .aload_n 0, 33, 1), (33, .getfield 157, 36, 3), (36, .putfield 167, 39, 3), (39, .aload_n 0, 40, 1), (40, .invokevirtual 163, 43, 3), (43, .istore_n 1, 44, 1), (44, .iload_n 1, 45, 1), (45, .iconst (-1), 46, 1), (46, .if_icmp .ne 11, 49, 3), (49, .aload_n 0, 50, 1), (50, .iconst 4, 51, 1), (51, .putfield 170, 54, 3), (54, .goto 171, 57, 3), (57, .iload_n 1, 58, 1), (58, .invokestatic 173, 61, 3), (61, .ifCond .eq 84, 64, 3), (64, .aload_n 0, 65, 1), (65, .invokevirtual 163, 68, 3), (68, .invokestatic 173, 71, 3), (71, .ifCond .eq 16, 74, 3), (74, .aload_n 0, 75, 1), (75, .dup, 76, 1), (76, .getfield 157, 79, 3), (79, .iconst 1, 80, 1), (80, .iadd, 81, 1), (81, .putfield 157, 84, 3), (84, .goto (-20), 87, 3), (87, .aload_n 0, 88, 1), (88, .aload_n 0, 89, 1), (89, .invokevirtual 177, 92, 3), (92, .putfield 180, 95, 3), (95, .aload_n 0, 96, 1), (96, .aload_n 0, 97, 1), (97, .getfield 180, 100, 3), (100, .iconst (-1), 101, 1), (101, .if_icmp .eq 7, 104, 3), (104, .iconst 0, 105, 1), (105, .goto 22, 108, 3), (108, .aload_n 0, 109, 1), (109, .getfield 157, 112, 3), (112, .aload_n 0, 113, 1), (113, .getfield 167, 116, 3), (116, .isub, 117, 1), (117, .bipush 6, 119, 2), (119, .if_icmp .le 7, 122, 3), (122, .iconst 5, 123, 1), (123, .goto 4, 126, 3), (126, .iconst 1, 127, 1), (127, .putfield 170, 130, 3), (130, .aload_n 0, 131, 1), (131, .getfield 170, 134, 3), (134, .iconst 1, 135, 1), (135, .if_icmp .ne 90, 138, 3), (138, .aload_n 0, 139, 1), (139, .invokevirtual 183, 142, 3), (142, .goto 83, 145, 3), (145, .iload_n 1, 146, 1), (146, .invokestatic 186, 149, 3), (149, .ifCond .eq 71, 152, 3), (152, .aload_n 0, 153, 1), (153, .iconst 2, 154, 1), (154, .putfield 170, 157, 3), (157, .aload_n 0, 158, 1), (158, .iconst 0, 159, 1), (159, .putfield 180, 162, 3), (162, .aload_n 0, 163, 1), (163, .invokevirtual 163, 166, 3), (166, .invokestatic 186, 169, 3), (169, .ifCond .eq 56, 172, 3), (172, .aload_n 0, 173, 1), (173, .aload_n 0, 174, 1), (174, .getfield 180, 177, 3), (177, .ldc 189, 179, 2), (179, .if_icmp .le 10, 182, 3), (182, .aload_n 0, 183, 1), (183, .getfield 180, 186, 3), (186, .goto 18, 189, 3), (189, .bipush 10, 191, 2), (191, .aload_n 0, 192, 1), (192, .getfield 180, 195, 3), (195, .imul, 196, 1), (196, .aload_n 0, 197, 1), (197, .invokevirtual 163, 200, 3), (200, .iadd, 201, 1), (201, .bipush 48, 203, 2), (203, .isub, 204, 1), (204, .putfield 180, 207, 3), (207, .aload_n 0, 208, 1), (208, .dup, 209, 1), (209, .getfield 157, 212, 3), (212, .iconst 1, 213, 1), (213, .iadd, 214, 1), (214, .putfield 157, 217, 3), (217, .goto (-55), 220, 3), (220, .aload_n 0, 221, 1), (221, .iload_n 1, 222, 1), (222, .invokevirtual 190, 225, 3), (225, .return_, 226, 1)])
theorem ok10_token : MOk m10_token := ⟨by decide, mem_g 1538 (by decide +kernel) rfl, ini10, ⟨by decide, by decide⟩, by decide, by unfold MDe; decide +kernel⟩
def m10_sign : MD := (yX10_sign, cX10_sign, 2, none, [(0, .aload_n 0, 1, 1), (1, .dup, 2, 1), (2, .getfield 157, 5, 3), (5, .iconst 1, 6, 1), (6, .iadd, 7, 1), (7, .putfield 157, 10, 3), (10, .aload_n 0, 11, 1), (11, .iload_n 1, 12, 1), (12, .bipush 59, 14, 2), (14, .if_icmp .eq 57, 17, 3), (17, .iload_n 1, 18, 1), (18, .bipush 40, 20, 2), (20, .if_icmp .eq 51, 23, 3), (23, .iload_n 1, 24, 1), (24, .bipush 41, 26, 2), (26, .if_icmp .eq 45, 29, 3), (29, .iload_n 1, 30, 1), (30, .bipush 43, 32, 2), (32, .if_icmp .eq 39, 35, 3), (35, .iload_n 1, 36, 1), (36, .bipush 45, 38, 2), (38, .if_icmp .eq 33, 41, 3), (41, .iload_n 1, 42, 1), (42, .bipush 42, 44, 2), (44, .if_icmp .eq 27, 47, 3), (47, .iload_n 1, 48, 1), (48, .bipush 47, 50, 2), (50, .if_icmp .eq 21, 53, 3), (53, .iload_n 1, 54, 1), (54, .bipush 60, 56, 2), (56, .if_icmp .eq 15, 59, 3), (59, .iload_n 1, 60, 1), (60, .bipush 61, 62, 2), (62, .if_icmp .eq 9, 65, 3), (65, .iload_n 1, 66, 1), (66, .bipush 62, 68, 2), (68, .if_icmp .ne 7, 71, 3), (71, .iconst 3, 72, 1), (72, .goto 4, 75, 3), (75, .iconst 5, 76, 1), (76, .putfield 170, 79, 3), (79, .aload_n 0, 80, 1), (80, .iload_n 1, 81, 1), (81, .putfield 180, 84, 3), (84, .iload_n 1, 85, 1), (85, .bipush 60, 87, 2), (87, .if_icmp .ne 19, 90, 3), (90, .aload_n 0, 91, 1), (91, .invokevirtual 163, 94, 3), (94, .bipush 61, 96, 2), (96, .if_icmp .ne 10, 99, 3), (99, .aload_n 0, 100, 1), (100, .sipush 256, 103, 3), (103, .putfield 180, 106, 3), (106, .iload_n 1, 107, 1), (107, .bipush 60, 109, 2), (109, .if_icmp .ne 19, 112, 3), (112, .aload_n 0, 113, 1), (113, .invokevirtual 163, 116, 3), (116, .bipush 62, 118, 2), (118, .if_icmp .ne 10, 121, 3), (121, .aload_n 0, 122, 1), (122, .sipush 257, 125, 3), (125, .putfield 180, 128, 3), (128, .iload_n 1, 129, 1), (129, .bipush 62, 131, 2), (131, .if_icmp .ne 19, 134, 3), (134, .aload_n 0, 135, 1), (135, .invokevirtual 163, 138, 3), (138, .bipush 61, 140, 2), (140, .if_icmp .ne 10, 143, 3), (143, .aload_n 0, 144, 1), (144, .sipush 258, 147, 3), (147, .putfield 180, 150, 3), (150, .aload_n 0, 151, 1), (151, .getfield 180, 154, 3), (154, .sipush 256, 157, 3), (157, .if_icmp .lt 13, 160, 3), (160, .aload_n 0, 161, 1), (161, .dup, 162, 1), (162, .getfield 157, 165, 3), (165, .iconst 1, 166, 1), (166, .iadd, 167, 1), (167, .putfield 157, 170, 3), (170, .return_, 171, 1)])
theorem ok10_sign : MOk m10_sign := ⟨by decide, mem_g 1564 (by decide +kernel) rfl, ini10, ⟨by decide, by decide⟩, by decide, by unfold MDe; decide +kernel⟩
def m10_word : MD := (yX10_word, cX10_word, 4, (some (Jvm.ClassFile.FieldType.int)), [(0, .iconst 0, 1, 1), (1, .istore_n 1, 2, 1), (2, .iconst 0, 3, 1), (3, .istore_n 2, 4, 1), (4, .iload_n 2, 5, 1), (5, .ldc 194, 7, 2), (7, .invokevirtual 196, 10, 3), (10, .if_icmp .ge 113, 13, 3), (13, .iconst 0, 14, 1), (14, .istore_n 3, 15, 1), (15, .ldc 194, 17, 2), (17, .iload_n 2, 18, 1), (18, .iload_n 3, 19, 1), (19, .iadd, 20, 1), (20, .invokevirtual 201, 23, 3), (23, .bipush 32, 25, 2), (25, .if_icmp .eq 44, 28, 3), (28, .aload_n 0, 29, 1), (29, .getfield 167, 32, 3), (32, .iload_n 3, 33, 1), (33, .iadd, 34, 1), (34, .aload_n 0, 35, 1), (35, .getfield 157, 38, 3), (38, .if_icmp .ge 31, 41, 3), (41, .aload_n 0, 42, 1), (42, .getfield 7, 45, 3), (45, .aload_n 0, 46, 1), (46, .getfield 167, 49, 3), (49, .iload_n 3, 50, 1), (50, .iadd, 51, 1), (51, .iaload, 52, 1), (52, .ldc 194, 54, 2), (54, .iload_n 2, 55, 1), (55, .iload_n 3, 56, 1), (56, .iadd, 57, 1), (57, .invokevirtual 201, 60, 3), (60, .if_icmp .ne 9, 63, 3), (63, .iinc 3 1, 66, 3), (66, .goto (-51), 69, 3), (69, .ldc 194, 71, 2), (71, .iload_n 2, 72, 1), (72, .iload_n 3, 73, 1), (73, .iadd, 74, 1), (74, .invokevirtual 201, 77, 3), (77, .bipush 32, 79, 2), (79, .if_icmp .ne 18, 82, 3), (82, .aload_n 0, 83, 1), (83, .getfield 167, 86, 3), (86, .iload_n 3, 87, 1), (87, .iadd, 88, 1), (88, .aload_n 0, 89, 1), (89, .getfield 157, 92, 3), (92, .if_icmp .ne 5, 95, 3), (95, .iload_n 1, 96, 1), (96, .ireturn, 97, 1), (97, .ldc 194, 99, 2), (99, .iload_n 2, 100, 1), (100, .invokevirtual 201, 103, 3), (103, .bipush 32, 105, 2), (105, .if_icmp .eq 9, 108, 3), (108, .iinc 2 1, 111, 3), (111, .goto (-14), 114, 3), (114, .iinc 2 1, 117, 3), (117, .iinc 1 1, 120, 3), (120, .goto (-116), 123, 3), (123, .iconst (-1), 124, 1), (124, .ireturn, 125, 1)])
theorem ok10_word : MOk m10_word := ⟨by decide, mem_g 1549 (by decide +kernel) rfl, ini10, ⟨by decide, by decide⟩, by decide, by unfold MDe; decide +kernel⟩
def m10_name : MD := (yX10_name, cX10_name, 2, none, [(0, .aload_n 0, 1, 1), (1, .iconst 0, 2, 1), (2, .putfield 180, 5, 3), (5, .iconst 0, 6, 1), (6, .istore_n 1, 7, 1), (7, .iload_n 1, 8, 1), (8, .bipush 6, 10, 2), (10, .if_icmp .ge 53, 13, 3), (13, .aload_n 0, 14, 1), (14, .aload_n 0, 15, 1), (15, .getfield 180, 18, 3), (18, .iconst 5, 19, 1), (19, .ishl, 20, 1), (20, .aload_n 0, 21, 1), (21, .getfield 167, 24, 3), (24, .iload_n 1, 25, 1), (25, .iadd, 26, 1), (26, .aload_n 0, 27, 1), (27, .getfield 157, 30, 3), (30, .if_icmp .ge 22, 33, 3), (33, .aload_n 0, 34, 1), (34, .getfield 7, 37, 3), (37, .aload_n 0, 38, 1), (38, .getfield 167, 41, 3), (41, .iload_n 1, 42, 1), (42, .iadd, 43, 1), (43, .iaload, 44, 1), (44, .bipush 97, 46, 2), (46, .isub, 47, 1), (47, .iconst 1, 48, 1), (48, .iadd, 49, 1), (49, .goto 4, 52, 3), (52, .iconst 0, 53, 1), (53, .ior, 54, 1), (54, .putfield 180, 57, 3), (57, .iinc 1 1, 60, 3), (60, .goto (-53), 63, 3), (63, .return_, 64, 1)])
theorem ok10_name : MOk m10_name := ⟨by decide, mem_g 1556 (by decide +kernel) rfl, ini10, ⟨by decide, by decide⟩, by decide, by unfold MDe; decide +kernel⟩
def m10_wrong : MD := (yX10_wrong, cX10_wrong, 2, none, [(0, .aload_n 0, 1, 1), (1, .getfield 205, 4, 3), (4, .ifCond .eq 4, 7, 3), (7, .return_, 8, 1), (8, .aload_n 0, 9, 1), (9, .iload_n 1, 10, 1), (10, .putfield 205, 13, 3), (13, .aload_n 0, 14, 1), (14, .aload_n 0, 15, 1), (15, .getfield 167, 18, 3), (18, .putfield 208, 21, 3), (21, .return_, 22, 1)])
theorem ok10_wrong : MOk m10_wrong := ⟨by decide, mem_g 1572 (by decide +kernel) rfl, ini10, ⟨by decide, by decide⟩, by decide, by unfold MDe; decide +kernel⟩
def m10_isWord : MD := (yX10_isWord, cX10_isWord, 2, (some (Jvm.ClassFile.FieldType.boolean)), [(0, .aload_n 0, 1, 1), (1, .getfield 205, 4, 3), (4, .ifCond .ne 22, 7, 3), (7, .aload_n 0, 8, 1), (8, .getfield 170, 11, 3), (11, .ifCond .ne 15, 14, 3), (14, .aload_n 0, 15, 1), (15, .getfield 180, 18, 3), (18, .iload_n 1, 19, 1), (19, .if_icmp .ne 7, 22, 3), (22, .iconst 1, 23, 1), (23, .goto 4, 26, 3), (26, .iconst 0, 27, 1), (27, .ireturn, 28, 1)])
theorem ok10_isWord : MOk m10_isWord := ⟨by decide, mem_g 1619 (by decide +kernel) rfl, ini10, ⟨by decide, by decide⟩, by decide, by unfold MDe; decide +kernel⟩
def m10_isSign : MD := (yX10_isSign, cX10_isSign, 2, (some (Jvm.ClassFile.FieldType.boolean)), [(0, .aload_n 0, 1, 1), (1, .getfield 205, 4, 3), (4, .ifCond .ne 23, 7, 3), (7, .aload_n 0, 8, 1), (8, .getfield 170, 11, 3), (11, .iconst 3, 12, 1), (12, .if_icmp .ne 15, 15, 3), (15, .aload_n 0, 16, 1), (16, .getfield 180, 19, 3), (19, .iload_n 1, 20, 1), (20, .if_icmp .ne 7, 23, 3), (23, .iconst 1, 24, 1), (24, .goto 4, 27, 3), (27, .iconst 0, 28, 1), (28, .ireturn, 29, 1)])
theorem ok10_isSign : MOk m10_isSign := ⟨by decide, mem_g 1643 (by decide +kernel) rfl, ini10, ⟨by decide, by decide⟩, by decide, by unfold MDe; decide +kernel⟩
def m10_goOn : MD := (yX10_goOn, cX10_goOn, 1, none, [(0, .aload_n 0, 1, 1), (1, .getfield 205, 4, 3), (4, .ifCond .ne 7, 7, 3), (7, .aload_n 0, 8, 1), (8, .invokevirtual 211, 11, 3), (11, .return_, 12, 1)])
theorem ok10_goOn : MOk m10_goOn := ⟨by decide, mem_g 1599 (by decide +kernel) rfl, ini10, ⟨by decide, by decide⟩, by decide, by unfold MDe; decide +kernel⟩
def m10_numeral : MD := (yX10_numeral, cX10_numeral, 4, (some (Jvm.ClassFile.FieldType.int)), [(0, .aload_n 0, 1, 1), (1, .getfield 205, 4, 3), (4, .ifCond .eq 5, 7, 3), (7, .iload_n 1, 8, 1), (8, .ireturn, 9, 1), (9, .aload_n 0, 10, 1), (10, .getfield 170, 13, 3), (13, .iconst 2, 14, 1), (14, .if_icmp .eq 11, 17, 3), (17, .aload_n 0, 18, 1), (18, .iconst 1, 19, 1), (19, .invokevirtual 214, 22, 3), (22, .goto 24, 25, 3), (25, .aload_n 0, 26, 1), (26, .getfield 180, 29, 3), (29, .iload_n 1, 30, 1), (30, .if_icmp .lt 11, 33, 3), (33, .aload_n 0, 34, 1), (34, .getfield 180, 37, 3), (37, .iload_n 2, 38, 1), (38, .if_icmp .le 8, 41, 3), (41, .aload_n 0, 42, 1), (42, .iconst 2, 43, 1), (43, .invokevirtual 214, 46, 3), (46, .aload_n 0, 47, 1), (47, .getfield 205, 50, 3), (50, .ifCond .eq 5, 53, 3), (53, .iload_n 1, 54, 1), (54, .ireturn, 55, 1), (55, .aload_n 0, 56, 1), (56, .getfield 180, 59, 3), (59, .istore_n 3, 60, 1), (60, .aload_n 0, 61, 1), (61, .invokevirtual 211, 64, 3), (64, .iload_n 3, 65, 1), (65, .ireturn, 66, 1)])
theorem ok10_numeral : MOk m10_numeral := ⟨by decide, mem_g 1591 (by decide +kernel) rfl, ini10, ⟨by decide, by decide⟩, by decide, by unfold MDe; decide +kernel⟩
def m10_found : MD := (yX10_found, cX10_found, 5, (some (Jvm.ClassFile.FieldType.int)), [(0, .iconst 0, 1, 1), (1, .istore 4, 3, 2), (3, .iload 4, 5, 2), (5, .iload_n 2, 6, 1), (6, .if_icmp .ge 22, 9, 3), (9, .aload_n 0, 10, 1), (10, .iload_n 1, 11, 1), (11, .iload 4, 13, 2), (13, .iadd, 14, 1), (14, .iaload, 15, 1), (15, .iload_n 3, 16, 1), (16, .if_icmp .ne 6, 19, 3), (19, .iload 4, 21, 2), (21, .ireturn, 22, 1), (22, .iinc 4 1, 25, 3), (25, .goto (-22), 28, 3), (28, .iconst (-1), 29, 1), (29, .ireturn, 30, 1)])
theorem ok10_found : MOk m10_found := ⟨by decide, mem_g 1587 (by decide +kernel) rfl, ini10, ⟨by decide, by decide⟩, by decide, by unfold MDe; decide +kernel⟩
def m10_fresh : MD := (yX10_fresh, cX10_fresh, 5, (some (Jvm.ClassFile.FieldType.int)), [(0, .aload_n 0, 1, 1), (1, .getfield 205, 4, 3), (4, .ifCond .eq 5, 7, 3), (7, .iconst 0, 8, 1), (8, .ireturn, 9, 1), (9, .aload_n 0, 10, 1), (10, .getfield 170, 13, 3), (13, .iconst 1, 14, 1), (14, .if_icmp .eq 11, 17, 3), (17, .aload_n 0, 18, 1), (18, .iconst 1, 19, 1), (19, .invokevirtual 214, 22, 3), (22, .goto 22, 25, 3), (25, .aload_n 1, 26, 1), (26, .iload_n 2, 27, 1), (27, .iload_n 3, 28, 1), (28, .aload_n 0, 29, 1), (29, .getfield 180, 32, 3), (32, .invokestatic 217, 35, 3), (35, .iconst (-1), 36, 1), (36, .if_icmp .eq 8, 39, 3), (39, .aload_n 0, 40, 1), (40, .iconst 3, 41, 1), (41, .invokevirtual 214, 44, 3), (44, .aload_n 0, 45, 1), (45, .getfield 205, 48, 3), (48, .ifCond .eq 5, 51, 3), (51, .iconst 0, 52, 1), (52, .ireturn, 53, 1), (53, .aload_n 0, 54, 1), (54, .getfield 180, 57, 3), (57, .istore 4, 59, 2), (59, .aload_n 0, 60, 1), (60, .invokevirtual 211, 63, 3), (63, .iload 4, 65, 2), (65, .ireturn, 66, 1)])
theorem ok10_fresh : MOk m10_fresh := ⟨by decide, mem_g 1584 (by decide +kernel) rfl, ini10, ⟨by decide, by decide⟩, by decide, by unfold MDe; decide +kernel⟩
def m10_fresher : MD := (yX10_fresher, cX10_fresher, 2, (some (Jvm.ClassFile.FieldType.int)), [(0, .aload_n 0, 1, 1), (1, .getfield 13, 4, 3), (4, .bipush 8, 6, 2), (6, .iload_n 1, 7, 1), (7, .iadd, 8, 1), (8, .iaload, 9, 1), (9, .ireturn, 10, 1)])
theorem ok10_fresher : MOk m10_fresher := ⟨by decide, mem_g 1580 (by decide +kernel) rfl, ini10, ⟨by decide, by decide⟩, by decide, by unfold MDe; decide +kernel⟩
def m10_reads : MD := (yX10_reads, cX10_reads, 3, none, [(0, .aload_n 0, 1, 1), (1, .getfield 13, 4, 3), (4, .bipush 8, 6, 2), (6, .iload_n 1, 7, 1), (7, .iadd, 8, 1), (8, .iload_n 2, 9, 1), (9, .iastore, 10, 1), (10, .return_, 11, 1)])
theorem ok10_reads : MOk m10_reads := ⟨by decide, mem_g 1534 (by decide +kernel) rfl, ini10, ⟨by decide, by decide⟩, by decide, by unfold MDe; decide +kernel⟩
def m10_toldAhead : MD := (yX10_toldAhead, cX10_toldAhead, 5, (some (Jvm.ClassFile.FieldType.int)), [(0, .aload_n 0, 1, 1), (1, .getfield 205, 4, 3), (4, .ifCond .eq 5, 7, 3), (7, .iconst 0, 8, 1), (8, .ireturn, 9, 1), (9, .aload_n 0, 10, 1), (10, .getfield 170, 13, 3), (13, .iconst 1, 14, 1), (14, .if_icmp .eq 8, 17, 3), (17, .aload_n 0, 18, 1), (18, .iconst 1, 19, 1), (19, .invokevirtual 214, 22, 3), (22, .aload_n 0, 23, 1), (23, .getfield 205, 26, 3), (26, .ifCond .ne 16, 29, 3), (29, .aload_n 1, 30, 1), (30, .iload_n 2, 31, 1), (31, .iload_n 3, 32, 1), (32, .aload_n 0, 33, 1), (33, .getfield 180, 36, 3), (36, .invokestatic 217, 39, 3), (39, .goto 4, 42, 3), (42, .iconst 0, 43, 1), (43, .istore 4, 45, 2), (45, .aload_n 0, 46, 1), (46, .getfield 205, 49, 3), (49, .ifCond .ne 14, 52, 3), (52, .iload 4, 54, 2), (54, .iconst (-1), 55, 1), (55, .if_icmp .ne 8, 58, 3), (58, .aload_n 0, 59, 1), (59, .iconst 4, 60, 1), (60, .invokevirtual 214, 63, 3), (63, .aload_n 0, 64, 1), (64, .invokevirtual 221, 67, 3), (67, .aload_n 0, 68, 1), (68, .getfield 205, 71, 3), (71, .ifCond .eq 7, 74, 3), (74, .iconst 0, 75, 1), (75, .goto 5, 78, 3), (78, .iload 4, 80, 2), (80, .ireturn, 81, 1)])
theorem ok10_toldAhead : MOk m10_toldAhead := ⟨by decide, mem_g 1595 (by decide +kernel) rfl, ini10, ⟨by decide, by decide⟩, by decide, by unfold MDe; decide +kernel⟩
def m10_isFull : MD := (yX10_isFull, cX10_isFull, 2, (some (Jvm.ClassFile.FieldType.boolean)), [(0, .iload_n 1, 1, 1), (1, .ifCond .ne 13, 4, 3), (4, .aload_n 0, 5, 1), (5, .iconst 0, 6, 1), (6, .invokevirtual 224, 9, 3), (9, .bipush 6, 11, 2), (11, .if_icmp .eq 48, 14, 3), (14, .iload_n 1, 15, 1), (15, .iconst 1, 16, 1), (16, .if_icmp .ne 13, 19, 3), (19, .aload_n 0, 20, 1), (20, .iconst 1, 21, 1), (21, .invokevirtual 224, 24, 3), (24, .bipush 8, 26, 2), (26, .if_icmp .eq 33, 29, 3), (29, .iload_n 1, 30, 1), (30, .iconst 2, 31, 1), (31, .if_icmp .ne 13, 34, 3), (34, .aload_n 0, 35, 1), (35, .iconst 2, 36, 1), (36, .invokevirtual 224, 39, 3), (39, .bipush 10, 41, 2), (41, .if_icmp .eq 18, 44, 3), (44, .iload_n 1, 45, 1), (45, .iconst 3, 46, 1), (46, .if_icmp .ne 17, 49, 3), (49, .aload_n 0, 50, 1), (50, .iconst 3, 51, 1), (51, .invokevirtual 224, 54, 3), (54, .bipush 8, 56, 2), (56, .if_icmp .ne 7, 59, 3), (59, .iconst 1, 60, 1), (60, .goto 4, 63, 3), (63, .iconst 0, 64, 1), (64, .ireturn, 65, 1)])
theorem ok10_isFull : MOk m10_isFull := ⟨by decide, mem_g 1576 (by decide +kernel) rfl, ini10, ⟨by decide, by decide⟩, by decide, by unfold MDe; decide +kernel⟩
def m10_line : MD := (yX10_line, cX10_line, 6, none, [(0, .aload_n 0, 1, 1), (1, .getfield 170, 4, 3), (4, .ifCond .ne 12, 7, 3), (7, .aload_n 0, 8, 1), (8, .getfield 180, 11, 3), (11, .bipush 7, 13, 2), (13, .if_icmp .le 9, 16, 3), (16, .aload_n 0, 17, 1), (17, .iconst 1, 18, 1), (18, .invokevirtual 214, 21, 3), (21, .return_, 22, 1), (22, .aload_n 0, 23, 1), (23, .getfield 180, 26, 3), (26, .istore_n 1, 27, 1), (27, .aload_n 0, 28, 1), (28, .iload_n 1, 29, 1), (29, .invokevirtual 228, 32, 3), (32, .ifCond .eq 11, 35, 3), (35, .aload_n 0, 36, 1), (36, .iconst 2, 37, 1), (37, .invokevirtual 214, 40, 3), (40, .goto 31, 43, 3), (43, .iload_n 1, 44, 1), (44, .iconst 4, 45, 1), (45, .if_icmp .lt 26, 48, 3), (48, .iload_n 1, 49, 1), (49, .bipush 6, 51, 2), (51, .if_icmp .gt 20, 54, 3), (54, .aload_n 0, 55, 1), (55, .getfield 231, 58, 3), (58, .iload_n 1, 59, 1), (59, .ishr, 60, 1), (60, .iconst 1, 61, 1), (61, .iand, 62, 1), (62, .iconst 1, 63, 1), (63, .if_icmp .ne 8, 66, 3), (66, .aload_n 0, 67, 1), (67, .iconst 3, 68, 1), (68, .invokevirtual 214, 71, 3), (71, .aload_n 0, 72, 1), (72, .getfield 205, 75, 3), (75, .ifCond .eq 4, 78, 3), (78, .return_, 79, 1), (79, .aload_n 0, 80, 1), (80, .dup, 81, 1), (81, .getfield 231, 84, 3), (84, .iconst 1, 85, 1), (85, .iload_n 1, 86, 1), (86, .ishl, 87, 1), (87, .ior, 88, 1), (88, .putfield 231, 91, 3), (91, .aload_n 0, 92, 1), (92, .invokevirtual 211, 95, 3), (95, .iload_n 1, 96, 1), (96, .tableswitch 401 0 6 #[44, 115, 219, 280, 355, 370, 385], 140, 44), (140, .bipush 6, 142, 2), (142, .aload_n 0, 143, 1), (143, .iconst 0, 144, 1), (144, .invokevirtual 224, 147, 3), (147, .iadd, 148, 1), (148, .istore_n 2, 149, 1), (149, .aload_n 0, 150, 1), (150, .getfield 16, 153, 3), (153, .iload_n 2, 154, 1), (154, .aload_n 0, 155, 1), (155, .aload_n 0, 156, 1), (156, .getfield 16, 159, 3), (159, .bipush 6, 161, 2), (161, .aload_n 0, 162, 1), (162, .iconst 0, 163, 1), (163, .invokevirtual 224, 166, 3), (166, .invokevirtual 234, 169, 3), (169, .iastore, 170, 1), (170, .aload_n 0, 171, 1), (171, .getfield 19, 174, 3), (174, .iload_n 2, 175, 1), (175, .aload_n 0, 176, 1), (176, .iconst 1, 177, 1), (177, .bipush 99, 179, 2), (179, .invokevirtual 238, 182, 3), (182, .iastore, 183, 1), (183, .aload_n 0, 184, 1), (184, .getfield 22, 187, 3), (187, .iload_n 2, 188, 1), (188, .aload_n 0, 189, 1), (189, .iconst 0, 190, 1), (190, .bipush 9, 192, 2), (192, .invokevirtual 238, 195, 3), (195, .iastore, 196, 1), (196, .aload_n 0, 197, 1), (197, .iconst 0, 198, 1), (198, .aload_n 0, 199, 1), (199, .iconst 0, 200, 1), (200, .invokevirtual 224, 203, 3), (203, .iconst 1, 204, 1), (204, .iadd, 205, 1), (205, .invokevirtual 242, 208, 3), (208, .goto 293, 211, 3), (211, .bipush 8, 213, 2), (213, .aload_n 0, 214, 1), (214, .iconst 1, 215, 1), (215, .invokevirtual 224, 218, 3), (218, .iadd, 219, 1), (219, .istore_n 3, 220, 1), (220, .aload_n 0, 221, 1), (221, .getfield 25, 224, 3), (224, .iload_n 3, 225, 1), (225, .aload_n 0, 226, 1), (226, .aload_n 0, 227, 1), (227, .getfield 25, 230, 3), (230, .bipush 8, 232, 2), (232, .aload_n 0, 233, 1), (233, .iconst 1, 234, 1), (234, .invokevirtual 224, 237, 3), (237, .invokevirtual 234, 240, 3), (240, .iastore, 241, 1), (241, .aload_n 0, 242, 1), (242, .getfield 28, 245, 3), (245, .iload_n 3, 246, 1), (246, .aload_n 0, 247, 1), (247, .aload_n 0, 248, 1), (248, .getfield 16, 251, 3), (251, .bipush 6, 253, 2), (253, .aload_n 0, 254, 1), (254, .iconst 0, 255, 1), (255, .invokevirtual 224, 258, 3), (258, .invokevirtual 246, 261, 3), (261, .iastore, 262, 1), (262, .aload_n 0, 263, 1), (263, .getfield 31, 266, 3), (266, .iload_n 3, 267, 1), (267, .aload_n 0, 268, 1), (268, .iconst 0, 269, 1), (269, .bipush 9, 271, 2), (271, .invokevirtual 238, 274, 3), (274, .iastore, 275, 1), (275, .aload_n 0, 276, 1), (276, .getfield 34, 279, 3), (279, .iload_n 3, 280, 1), (280, .aload_n 0, 281, 1), (281, .iconst 1, 282, 1), (282, .bipush 99, 284, 2), (284, .invokevirtual 238, 287, 3), (287, .iastore, 288, 1), (288, .aload_n 0, 289, 1), (289, .getfield 37, 292, 3), (292, .iload_n 3, 293, 1), (293, .aload_n 0, 294, 1), (294, .iconst 0, 295, 1), (295, .iconst 3, 296, 1), (296, .invokevirtual 238, 299, 3), (299, .iastore, 300, 1), (300, .aload_n 0, 301, 1), (301, .iconst 1, 302, 1), (302, .aload_n 0, 303, 1), (303, .iconst 1, 304, 1), (304, .invokevirtual 224, 307, 3), (307, .iconst 1, 308, 1), (308, .iadd, 309, 1), (309, .invokevirtual 242, 312, 3), (312, .goto 189, 315, 3), (315, .bipush 10, 317, 2), (317, .aload_n 0, 318, 1), (318, .iconst 2, 319, 1), (319, .invokevirtual 224, 322, 3), (322, .iadd, 323, 1), (323, .istore 4, 325, 2), (325, .aload_n 0, 326, 1), (326, .getfield 40, 329, 3), (329, .iload 4, 331, 2), (331, .aload_n 0, 332, 1), (332, .aload_n 0, 333, 1), (333, .getfield 25, 336, 3), (336, .bipush 8, 338, 2), (338, .aload_n 0, 339, 1), (339, .iconst 1, 340, 1), (340, .invokevirtual 224, 343, 3), (343, .invokevirtual 246, 346, 3), (346, .iastore, 347, 1), (347, .aload_n 0, 348, 1), (348, .getfield 43, 351, 3), (351, .iload 4, 353, 2), (353, .aload_n 0, 354, 1), (354, .iconst 0, 355, 1), (355, .bipush 99, 357, 2), (357, .invokevirtual 238, 360, 3), (360, .iastore, 361, 1), (361, .aload_n 0, 362, 1), (362, .iconst 2, 363, 1), (363, .aload_n 0, 364, 1), (364, .iconst 2, 365, 1), (365, .invokevirtual 224, 368, 3), (368, .iconst 1, 369, 1), (369, .iadd, 370, 1), (370, .invokevirtual 242, 373, 3), (373, .goto 128, 376, 3), (376, .bipush 8, 378, 2), (378, .aload_n 0, 379, 1), (379, .iconst 3, 380, 1), (380, .invokevirtual 224, 383, 3), (383, .iadd, 384, 1), (384, .istore 5, 386, 2), (386, .aload_n 0, 387, 1), (387, .getfield 46, 390, 3), (390, .iload 5, 392, 2), (392, .aload_n 0, 393, 1), (393, .aload_n 0, 394, 1), (394, .getfield 16, 397, 3), (397, .bipush 6, 399, 2), (399, .aload_n 0, 400, 1), (400, .iconst 0, 401, 1), (401, .invokevirtual 224, 404, 3), (404, .invokevirtual 246, 407, 3), (407, .iastore, 408, 1), (408, .aload_n 0, 409, 1), (409, .getfield 49, 412, 3), (412, .iload 5, 414, 2), (414, .aload_n 0, 415, 1), (415, .iconst 0, 416, 1), (416, .bipush 99, 418, 2), (418, .invokevirtual 238, 421, 3), (421, .iastore, 422, 1), (422, .aload_n 0, 423, 1), (423, .getfield 52, 426, 3), (426, .iload 5, 428, 2), (428, .aload_n 0, 429, 1), (429, .iconst 1, 430, 1), (430, .bipush 99, 432, 2), (432, .invokevirtual 238, 435, 3), (435, .iastore, 436, 1), (436, .aload_n 0, 437, 1), (437, .iconst 3, 438, 1), (438, .aload_n 0, 439, 1), (439, .iconst 3, 440, 1), (440, .invokevirtual 224, 443, 3), (443, .iconst 1, 444, 1), (444, .iadd, 445, 1), (445, .invokevirtual 242, 448, 3), (448, .goto 53, 451, 3), (451, .aload_n 0, 452, 1), (452, .iconst 4, 453, 1), (453, .aload_n 0, 454, 1), (454, .iconst 0, 455, 1), (455, .bipush 20, 457, 2), (457, .invokevirtual 238, 460, 3), (460, .invokevirtual 242, 463, 3), (463, .goto 38, 466, 3), (466, .aload_n 0, 467, 1), (467, .iconst 5, 468, 1), (468, .aload_n 0, 469, 1), (469, .iconst 0, 470, 1), (470, .bipush 100, 472, 2), (472, .invokevirtual 238, 475, 3), (475, .invokevirtual 242, 478, 3), (478, .goto 23, 481, 3), (481, .aload_n 0, 482, 1), (482, .bipush 6, 484, 2), (484, .aload_n 0, 485, 1), (485, .iconst 0, 486, 1), (486, .ldc 189, 488, 2), (488, .invokevirtual 238, 491, 3), (491, .invokevirtual 242, 494, 3), (494, .goto 7, 497, 3), (497, .aload_n 0, 498, 1), (498, .invokevirtual 249, 501, 3), (501, .aload_n 0, 502, 1), (502, .getfield 205, 505, 3), (505, .ifCond .eq 4, 508, 3), (508, .return_, 509, 1), (509, .aload_n 0, 510, 1), (510, .bipush 59, 512, 2), (512, .invokevirtual 252, 515, 3), (515, .ifCond .ne 11, 518, 3), (518, .aload_n 0, 519, 1), (519, .iconst 1, 520, 1), (520, .invokevirtual 214, 523, 3), (523, .goto 7, 526, 3), (526, .aload_n 0, 527, 1), (527, .invokevirtual 211, 530, 3), (530, .aload_n 0, 531, 1), (531, .dup, 532, 1), (532, .getfield 255, 535, 3), (535, .iconst 1, 536, 1), (536, .iadd, 537, 1), (537, .putfield 255, 540, 3), (540, .return_, 541, 1)])
theorem ok10_line : MOk m10_line := ⟨by decide, mem_g 1568 (by decide +kernel) rfl, ini10, ⟨by decide, by decide⟩, by decide, by unfold MDe; decide +kernel⟩
def m10_lawLine : MD := (yX10_lawLine, cX10_lawLine, 2, none, [(0, .aload_n 0, 1, 1), (1, .getfield 170, 4, 3), (4, .ifCond .ne 21, 7, 3), (7, .aload_n 0, 8, 1), (8, .getfield 180, 11, 3), (11, .bipush 8, 13, 2), (13, .if_icmp .lt 12, 16, 3), (16, .aload_n 0, 17, 1), (17, .getfield 180, 20, 3), (20, .bipush 10, 22, 2), (22, .if_icmp .le 8, 25, 3), (25, .aload_n 0, 26, 1), (26, .iconst 1, 27, 1), (27, .invokevirtual 214, 30, 3), (30, .aload_n 0, 31, 1), (31, .getfield 180, 34, 3), (34, .bipush 8, 36, 2), (36, .isub, 37, 1), (37, .istore_n 1, 38, 1), (38, .aload_n 0, 39, 1), (39, .getfield 205, 42, 3), (42, .ifCond .ne 23, 45, 3), (45, .aload_n 0, 46, 1), (46, .getfield 231, 49, 3), (49, .bipush 16, 51, 2), (51, .iload_n 1, 52, 1), (52, .iadd, 53, 1), (53, .ishr, 54, 1), (54, .iconst 1, 55, 1), (55, .iand, 56, 1), (56, .iconst 1, 57, 1), (57, .if_icmp .ne 8, 60, 3), (60, .aload_n 0, 61, 1), (61, .iconst 3, 62, 1), (62, .invokevirtual 214, 65, 3), (65, .aload_n 0, 66, 1), (66, .getfield 205, 69, 3), (69, .ifCond .eq 4, 72, 3), (72, .return_, 73, 1), (73, .aload_n 0, 74, 1), (74, .dup, 75, 1), (75, .getfield 231, 78, 3), (78, .iconst 1, 79, 1), (79, .bipush 16, 81, 2), (81, .iload_n 1, 82, 1), (82, .iadd, 83, 1), (83, .ishl, 84, 1), (84, .ior, 85, 1), (85, .putfield 231, 88, 3), (88, .aload_n 0, 89, 1), (89, .invokevirtual 211, 92, 3), (92, .aload_n 0, 93, 1), (93, .getfield 55, 96, 3), (96, .iconst 3, 97, 1), (97, .iload_n 1, 98, 1), (98, .iadd, 99, 1), (99, .aload_n 0, 100, 1), (100, .bipush 7, 102, 2), (102, .invokevirtual 224, 105, 3), (105, .iastore, 106, 1), (106, .aload_n 0, 107, 1), (107, .invokevirtual 258, 110, 3), (110, .aload_n 0, 111, 1), (111, .getfield 58, 114, 3), (114, .iconst 3, 115, 1), (115, .iload_n 1, 116, 1), (116, .iadd, 117, 1), (117, .aload_n 0, 118, 1), (118, .bipush 7, 120, 2), (120, .invokevirtual 224, 123, 3), (123, .iastore, 124, 1), (124, .return_, 125, 1)])
theorem ok10_lawLine : MOk m10_lawLine := ⟨by decide, mem_g 1603 (by decide +kernel) rfl, ini10, ⟨by decide, by decide⟩, by decide, by unfold MDe; decide +kernel⟩
def m10_puts : MD := (yX10_puts, cX10_puts, 3, none, [(0, .aload_n 0, 1, 1), (1, .getfield 205, 4, 3), (4, .ifCond .eq 4, 7, 3), (7, .return_, 8, 1), (8, .aload_n 0, 9, 1), (9, .getfield 61, 12, 3), (12, .bipush 64, 14, 2), (14, .aload_n 0, 15, 1), (15, .bipush 7, 17, 2), (17, .invokevirtual 224, 20, 3), (20, .iadd, 21, 1), (21, .iload_n 1, 22, 1), (22, .iastore, 23, 1), (23, .aload_n 0, 24, 1), (24, .getfield 64, 27, 3), (27, .bipush 64, 29, 2), (29, .aload_n 0, 30, 1), (30, .bipush 7, 32, 2), (32, .invokevirtual 224, 35, 3), (35, .iadd, 36, 1), (36, .iload_n 2, 37, 1), (37, .iastore, 38, 1), (38, .aload_n 0, 39, 1), (39, .bipush 7, 41, 2), (41, .aload_n 0, 42, 1), (42, .bipush 7, 44, 2), (44, .invokevirtual 224, 47, 3), (47, .iconst 1, 48, 1), (48, .iadd, 49, 1), (49, .invokevirtual 242, 52, 3), (52, .return_, 53, 1)])
theorem ok10_puts : MOk m10_puts := ⟨by decide, mem_g 1627 (by decide +kernel) rfl, ini10, ⟨by decide, by decide⟩, by decide, by unfold MDe; decide +kernel⟩
def m10_knot : MD := (yX10_knot, cX10_knot, 1, none, [(0, .aload_n 0, 1, 1), (1, .getfield 205, 4, 3), (4, .ifCond .eq 4, 7, 3), (7, .return_, 8, 1), (8, .aload_n 0, 9, 1), (9, .getfield 261, 12, 3), (12, .bipush 64, 14, 2), (14, .if_icmp .ne 11, 17, 3), (17, .aload_n 0, 18, 1), (18, .iconst 2, 19, 1), (19, .invokevirtual 214, 22, 3), (22, .goto 13, 25, 3), (25, .aload_n 0, 26, 1), (26, .dup, 27, 1), (27, .getfield 261, 30, 3), (30, .iconst 1, 31, 1), (31, .iadd, 32, 1), (32, .putfield 261, 35, 3), (35, .return_, 36, 1)])
theorem ok10_knot : MOk m10_knot := ⟨by decide, mem_g 1623 (by decide +kernel) rfl, ini10, ⟨by decide, by decide⟩, by decide, by unfold MDe; decide +kernel⟩
def m10_expression : MD := (yX10_expression, cX10_expression, 1, none, [(0, .aload_n 0, 1, 1), (1, .invokevirtual 264, 4, 3), (4, .aload_n 0, 5, 1), (5, .bipush 11, 7, 2), (7, .invokevirtual 267, 10, 3), (10, .ifCond .eq 26, 13, 3), (13, .aload_n 0, 14, 1), (14, .invokevirtual 270, 17, 3), (17, .aload_n 0, 18, 1), (18, .invokevirtual 221, 21, 3), (21, .aload_n 0, 22, 1), (22, .invokevirtual 264, 25, 3), (25, .aload_n 0, 26, 1), (26, .iconst 2, 27, 1), (27, .sipush 262, 30, 3), (30, .invokevirtual 273, 33, 3), (33, .goto (-29), 36, 3), (36, .return_, 37, 1)])
theorem ok10_expression : MOk m10_expression := ⟨by decide, mem_g 1607 (by decide +kernel) rfl, ini10, ⟨by decide, by decide⟩, by decide, by unfold MDe; decide +kernel⟩
def m10_conjunction : MD := (yX10_conjunction, cX10_conjunction, 1, none, [(0, .aload_n 0, 1, 1), (1, .invokevirtual 275, 4, 3), (4, .aload_n 0, 5, 1), (5, .bipush 12, 7, 2), (7, .invokevirtual 267, 10, 3), (10, .ifCond .eq 26, 13, 3), (13, .aload_n 0, 14, 1), (14, .invokevirtual 270, 17, 3), (17, .aload_n 0, 18, 1), (18, .invokevirtual 221, 21, 3), (21, .aload_n 0, 22, 1), (22, .invokevirtual 275, 25, 3), (25, .aload_n 0, 26, 1), (26, .iconst 2, 27, 1), (27, .sipush 261, 30, 3), (30, .invokevirtual 273, 33, 3), (33, .goto (-29), 36, 3), (36, .return_, 37, 1)])
theorem ok10_conjunction : MOk m10_conjunction := ⟨by decide, mem_g 1611 (by decide +kernel) rfl, ini10, ⟨by decide, by decide⟩, by decide, by unfold MDe; decide +kernel⟩
def m10_negation : MD := (yX10_negation, cX10_negation, 2, none, [(0, .aload_n 0, 1, 1), (1, .bipush 13, 3, 2), (3, .invokevirtual 267, 6, 3), (6, .ifCond .eq 24, 9, 3), (9, .aload_n 0, 10, 1), (10, .invokevirtual 270, 13, 3), (13, .aload_n 0, 14, 1), (14, .invokevirtual 221, 17, 3), (17, .aload_n 0, 18, 1), (18, .invokevirtual 275, 21, 3), (21, .aload_n 0, 22, 1), (22, .iconst 2, 23, 1), (23, .sipush 260, 26, 3), (26, .invokevirtual 273, 29, 3), (29, .return_, 30, 1), (30, .aload_n 0, 31, 1), (31, .invokevirtual 278, 34, 3), (34, .aload_n 0, 35, 1), (35, .getfield 205, 38, 3), (38, .ifCond .ne 48, 41, 3), (41, .aload_n 0, 42, 1), (42, .getfield 170, 45, 3), (45, .iconst 3, 46, 1), (46, .if_icmp .ne 40, 49, 3), (49, .aload_n 0, 50, 1), (50, .getfield 180, 53, 3), (53, .bipush 60, 55, 2), (55, .if_icmp .eq 32, 58, 3), (58, .aload_n 0, 59, 1), (59, .getfield 180, 62, 3), (62, .bipush 62, 64, 2), (64, .if_icmp .eq 23, 67, 3), (67, .aload_n 0, 68, 1), (68, .getfield 180, 71, 3), (71, .bipush 61, 73, 2), (73, .if_icmp .eq 14, 76, 3), (76, .aload_n 0, 77, 1), (77, .getfield 180, 80, 3), (80, .sipush 256, 83, 3), (83, .if_icmp .ge 4, 86, 3), (86, .return_, 87, 1), (87, .aload_n 0, 88, 1), (88, .getfield 180, 91, 3), (91, .istore_n 1, 92, 1), (92, .aload_n 0, 93, 1), (93, .invokevirtual 270, 96, 3), (96, .aload_n 0, 97, 1), (97, .invokevirtual 221, 100, 3), (100, .aload_n 0, 101, 1), (101, .invokevirtual 278, 104, 3), (104, .aload_n 0, 105, 1), (105, .iconst 2, 106, 1), (106, .iload_n 1, 107, 1), (107, .invokevirtual 273, 110, 3), (110, .return_, 111, 1)])
theorem ok10_negation : MOk m10_negation := ⟨by decide, mem_g 1615 (by decide +kernel) rfl, ini10, ⟨by decide, by decide⟩, by decide, by unfold MDe; decide +kernel⟩
def m10_sum : MD := (yX10_sum, cX10_sum, 2, none, [(0, .aload_n 0, 1, 1), (1, .invokevirtual 281, 4, 3), (4, .aload_n 0, 5, 1), (5, .bipush 43, 7, 2), (7, .invokevirtual 252, 10, 3), (10, .ifCond .ne 12, 13, 3), (13, .aload_n 0, 14, 1), (14, .bipush 45, 16, 2), (16, .invokevirtual 252, 19, 3), (19, .ifCond .eq 29, 22, 3), (22, .aload_n 0, 23, 1), (23, .getfield 180, 26, 3), (26, .istore_n 1, 27, 1), (27, .aload_n 0, 28, 1), (28, .invokevirtual 270, 31, 3), (31, .aload_n 0, 32, 1), (32, .invokevirtual 221, 35, 3), (35, .aload_n 0, 36, 1), (36, .invokevirtual 281, 39, 3), (39, .aload_n 0, 40, 1), (40, .iconst 2, 41, 1), (41, .iload_n 1, 42, 1), (42, .invokevirtual 273, 45, 3), (45, .goto (-41), 48, 3), (48, .return_, 49, 1)])
theorem ok10_sum : MOk m10_sum := ⟨by decide, mem_g 1631 (by decide +kernel) rfl, ini10, ⟨by decide, by decide⟩, by decide, by unfold MDe; decide +kernel⟩
def m10_product : MD := (yX10_product, cX10_product, 2, none, [(0, .aload_n 0, 1, 1), (1, .invokevirtual 284, 4, 3), (4, .aload_n 0, 5, 1), (5, .bipush 42, 7, 2), (7, .invokevirtual 252, 10, 3), (10, .ifCond .ne 12, 13, 3), (13, .aload_n 0, 14, 1), (14, .bipush 47, 16, 2), (16, .invokevirtual 252, 19, 3), (19, .ifCond .eq 29, 22, 3), (22, .aload_n 0, 23, 1), (23, .getfield 180, 26, 3), (26, .istore_n 1, 27, 1), (27, .aload_n 0, 28, 1), (28, .invokevirtual 270, 31, 3), (31, .aload_n 0, 32, 1), (32, .invokevirtual 221, 35, 3), (35, .aload_n 0, 36, 1), (36, .invokevirtual 284, 39, 3), (39, .aload_n 0, 40, 1), (40, .iconst 2, 41, 1), (41, .iload_n 1, 42, 1), (42, .invokevirtual 273, 45, 3), (45, .goto (-41), 48, 3), (48, .return_, 49, 1)])
theorem ok10_product : MOk m10_product := ⟨by decide, mem_g 1635 (by decide +kernel) rfl, ini10, ⟨by decide, by decide⟩, by decide, by unfold MDe; decide +kernel⟩
def m10_primary : MD := (yX10_primary, cX10_primary, 2, none, [(0, .aload_n 0, 1, 1), (1, .getfield 205, 4, 3), (4, .ifCond .eq 4, 7, 3), (7, .return_, 8, 1), (8, .aload_n 0, 9, 1), (9, .bipush 40, 11, 2), (11, .invokevirtual 252, 14, 3), (14, .ifCond .eq 87, 17, 3), (17, .aload_n 0, 18, 1), (18, .getfield 287, 21, 3), (21, .bipush 8, 23, 2), (23, .if_icmp .ne 8, 26, 3), (26, .aload_n 0, 27, 1), (27, .iconst 2, 28, 1), (28, .invokevirtual 214, 31, 3), (31, .aload_n 0, 32, 1), (32, .getfield 205, 35, 3), (35, .ifCond .eq 4, 38, 3), (38, .return_, 39, 1), (39, .aload_n 0, 40, 1), (40, .dup, 41, 1), (41, .getfield 287, 44, 3), (44, .iconst 1, 45, 1), (45, .iadd, 46, 1), (46, .putfield 287, 49, 3), (49, .aload_n 0, 50, 1), (50, .invokevirtual 211, 53, 3), (53, .aload_n 0, 54, 1), (54, .invokevirtual 258, 57, 3), (57, .aload_n 0, 58, 1), (58, .getfield 205, 61, 3), (61, .ifCond .ne 17, 64, 3), (64, .aload_n 0, 65, 1), (65, .bipush 41, 67, 2), (67, .invokevirtual 252, 70, 3), (70, .ifCond .ne 8, 73, 3), (73, .aload_n 0, 74, 1), (74, .iconst 1, 75, 1), (75, .invokevirtual 214, 78, 3), (78, .aload_n 0, 79, 1), (79, .getfield 205, 82, 3), (82, .ifCond .eq 4, 85, 3), (85, .return_, 86, 1), (86, .aload_n 0, 87, 1), (87, .dup, 88, 1), (88, .getfield 287, 91, 3), (91, .iconst 1, 92, 1), (92, .isub, 93, 1), (93, .putfield 287, 96, 3), (96, .aload_n 0, 97, 1), (97, .invokevirtual 211, 100, 3), (100, .return_, 101, 1), (101, .aload_n 0, 102, 1), (102, .getfield 170, 105, 3), (105, .iconst 2, 106, 1), (106, .if_icmp .ne 7, 109, 3), (109, .iconst 1, 110, 1), (110, .goto 4, 113, 3), (113, .iconst 0, 114, 1), (114, .istore_n 1, 115, 1), (115, .iload_n 1, 116, 1), (116, .ifCond .eq 21, 119, 3), (119, .aload_n 0, 120, 1), (120, .getfield 180, 123, 3), (123, .sipush 9999, 126, 3), (126, .if_icmp .le 11, 129, 3), (129, .aload_n 0, 130, 1), (130, .iconst 2, 131, 1), (131, .invokevirtual 214, 134, 3), (134, .goto 28, 137, 3), (137, .iload_n 1, 138, 1), (138, .ifCond .ne 24, 141, 3), (141, .aload_n 0, 142, 1), (142, .getfield 170, 145, 3), (145, .ifCond .ne 12, 148, 3), (148, .aload_n 0, 149, 1), (149, .getfield 180, 152, 3), (152, .bipush 14, 154, 2), (154, .if_icmp .ge 8, 157, 3), (157, .aload_n 0, 158, 1), (158, .iconst 1, 159, 1), (159, .invokevirtual 214, 162, 3), (162, .aload_n 0, 163, 1), (163, .invokevirtual 270, 166, 3), (166, .aload_n 0, 167, 1), (167, .iload_n 1, 168, 1), (168, .ifCond .eq 7, 171, 3), (171, .iconst 0, 172, 1), (172, .goto 4, 175, 3), (175, .iconst 1, 176, 1), (176, .iload_n 1, 177, 1), (177, .ifCond .eq 10, 180, 3), (180, .aload_n 0, 181, 1), (181, .getfield 180, 184, 3), (184, .goto 10, 187, 3), (187, .aload_n 0, 188, 1), (188, .getfield 180, 191, 3), (191, .bipush 14, 193, 2), (193, .isub, 194, 1), (194, .invokevirtual 273, 197, 3), (197, .aload_n 0, 198, 1), (198, .invokevirtual 221, 201, 3), (201, .return_, 202, 1)])
theorem ok10_primary : MOk m10_primary := ⟨by decide, mem_g 1639 (by decide +kernel) rfl, ini10, ⟨by decide, by decide⟩, by decide, by unfold MDe; decide +kernel⟩
def m10_half : MD := (yX10_half, cX10_half, 3, none, [(0, .aload_n 0, 1, 1), (1, .arraylength, 2, 1), (2, .iconst 2, 3, 1), (3, .idiv, 4, 1), (4, .istore_n 1, 5, 1), (5, .iconst 0, 6, 1), (6, .istore_n 2, 7, 1), (7, .iload_n 2, 8, 1), (8, .iload_n 1, 9, 1), (9, .if_icmp .ge 17, 12, 3), (12, .aload_n 0, 13, 1), (13, .iload_n 2, 14, 1), (14, .aload_n 0, 15, 1), (15, .iload_n 1, 16, 1), (16, .iload_n 2, 17, 1), (17, .iadd, 18, 1), (18, .iaload, 19, 1), (19, .iastore, 20, 1), (20, .iinc 2 1, 23, 3), (23, .goto (-16), 26, 3), (26, .return_, 27, 1)])
theorem ok10_half : MOk m10_half := ⟨by decide, mem_g 1646 (by decide +kernel) rfl, ini10, ⟨by decide, by decide⟩, by decide, by unfold MDe; decide +kernel⟩
def m10_text : MD := (yX10_text, cX10_text, 3, (some (Jvm.ClassFile.FieldType.int)), [(0, .aload_n 0, 1, 1), (1, .iconst 0, 2, 1), (2, .putfield 151, 5, 3), (5, .iload_n 1, 6, 1), (6, .ifCond .lt 11, 9, 3), (9, .iload_n 1, 10, 1), (10, .aload_n 0, 11, 1), (11, .getfield 154, 14, 3), (14, .if_icmp .le 6, 17, 3), (17, .bipush (-2), 19, 2), (19, .ireturn, 20, 1), (20, .aload_n 0, 21, 1), (21, .iload_n 1, 22, 1), (22, .putfield 160, 25, 3), (25, .aload_n 0, 26, 1), (26, .iconst 0, 27, 1), (27, .putfield 154, 30, 3), (30, .aload_n 0, 31, 1), (31, .iconst 0, 32, 1), (32, .putfield 157, 35, 3), (35, .aload_n 0, 36, 1), (36, .iconst 0, 37, 1), (37, .putfield 205, 40, 3), (40, .aload_n 0, 41, 1), (41, .iconst (-1), 42, 1), (42, .putfield 208, 45, 3), (45, .iconst 0, 46, 1), (46, .istore_n 2, 47, 1), (47, .iload_n 2, 48, 1), (48, .bipush 8, 50, 2), (50, .if_icmp .ge 25, 53, 3), (53, .aload_n 0, 54, 1), (54, .iload_n 2, 55, 1), (55, .iload_n 2, 56, 1), (56, .iconst 4, 57, 1), (57, .if_icmp .ne 8, 60, 3), (60, .bipush 20, 62, 2), (62, .goto 4, 65, 3), (65, .iconst 0, 66, 1), (66, .invokevirtual 242, 69, 3), (69, .iinc 2 1, 72, 3), (72, .goto (-25), 75, 3), (75, .iconst 3, 76, 1), (76, .istore_n 2, 77, 1), (77, .iload_n 2, 78, 1), (78, .bipush 6, 80, 2), (80, .if_icmp .ge 23, 83, 3), (83, .aload_n 0, 84, 1), (84, .getfield 55, 87, 3), (87, .iload_n 2, 88, 1), (88, .iconst 0, 89, 1), (89, .iastore, 90, 1), (90, .aload_n 0, 91, 1), (91, .getfield 58, 94, 3), (94, .iload_n 2, 95, 1), (95, .iconst 0, 96, 1), (96, .iastore, 97, 1), (97, .iinc 2 1, 100, 3), (100, .goto (-23), 103, 3), (103, .aload_n 0, 104, 1), (104, .iconst 0, 105, 1), (105, .putfield 231, 108, 3), (108, .aload_n 0, 109, 1), (109, .iconst 0, 110, 1), (110, .putfield 255, 113, 3), (113, .aload_n 0, 114, 1), (114, .iconst 0, 115, 1), (115, .putfield 287, 118, 3), (118, .aload_n 0, 119, 1), (119, .iconst 0, 120, 1), (120, .putfield 261, 123, 3), (123, .aload_n 0, 124, 1), (124, .invokevirtual 211, 127, 3), (127, .aload_n 0, 128, 1), (128, .getfield 205, 131, 3), (131, .ifCond .ne 18, 134, 3), (134, .aload_n 0, 135, 1), (135, .getfield 170, 138, 3), (138, .iconst 4, 139, 1), (139, .if_icmp .eq 10, 142, 3), (142, .aload_n 0, 143, 1), (143, .invokevirtual 290, 146, 3), (146, .goto (-19), 149, 3), (149, .aload_n 0, 150, 1), (150, .aload_n 0, 151, 1), (151, .getfield 205, 154, 3), (154, .putfield 293, 157, 3), (157, .aload_n 0, 158, 1), (158, .aload_n 0, 159, 1), (159, .getfield 208, 162, 3), (162, .putfield 67, 165, 3), (165, .aload_n 0, 166, 1), (166, .getfield 205, 169, 3), (169, .ifCond .eq 5, 172, 3), (172, .iconst (-1), 173, 1), (173, .ireturn, 174, 1), (174, .aload_n 0, 175, 1), (175, .getfield 13, 178, 3), (178, .invokestatic 296, 181, 3), (181, .aload_n 0, 182, 1), (182, .getfield 16, 185, 3), (185, .invokestatic 296, 188, 3), (188, .aload_n 0, 189, 1), (189, .getfield 19, 192, 3), (192, .invokestatic 296, 195, 3), (195, .aload_n 0, 196, 1), (196, .getfield 22, 199, 3), (199, .invokestatic 296, 202, 3), (202, .aload_n 0, 203, 1), (203, .getfield 25, 206, 3), (206, .invokestatic 296, 209, 3), (209, .aload_n 0, 210, 1), (210, .getfield 28, 213, 3), (213, .invokestatic 296, 216, 3), (216, .aload_n 0, 217, 1), (217, .getfield 31, 220, 3), (220, .invokestatic 296, 223, 3), (223, .aload_n 0, 224, 1), (224, .getfield 34, 227, 3), (227, .invokestatic 296, 230, 3), (230, .aload_n 0, 231, 1), (231, .getfield 37, 234, 3), (234, .invokestatic 296, 237, 3), (237, .aload_n 0, 238, 1), (238, .getfield 40, 241, 3), (241, .invokestatic 296, 244, 3), (244, .aload_n 0, 245, 1), (245, .getfield 43, 248, 3), (248, .invokestatic 296, 251, 3), (251, .aload_n 0, 252, 1), (252, .getfield 46, 255, 3), (255, .invokestatic 296, 258, 3), (258, .aload_n 0, 259, 1), (259, .getfield 49, 262, 3), (262, .invokestatic 296, 265, 3), (265, .aload_n 0, 266, 1), (266, .getfield 52, 269, 3), (269, .invokestatic 296, 272, 3), (272, .aload_n 0, 273, 1), (273, .getfield 55, 276, 3), (276, .invokestatic 296, 279, 3), (279, .aload_n 0, 280, 1), (280, .getfield 58, 283, 3), (283, .invokestatic 296, 286, 3), (286, .aload_n 0, 287, 1), (287, .getfield 61, 290, 3), (290, .invokestatic 296, 293, 3), (293, .aload_n 0, 294, 1), (294, .getfield 64, 297, 3), (297, .invokestatic 296, 300, 3), (300, .aload_n 0, 301, 1), (301, .iconst 0, 302, 1), (302, .putfield 300, 305, 3), (305, .aload_n 0, 306, 1), (306, .iconst (-1), 307, 1), (307, .putfield 129, 310, 3), (310, .aload_n 0, 311, 1), (311, .iconst 0, 312, 1), (312, .putfield 303, 315, 3), (315, .aload_n 0, 316, 1), (316, .iconst 0, 317, 1), (317, .putfield 307, 320, 3), (320, .aload_n 0, 321, 1), (321, .invokevirtual 148, 324, 3), (324, .aload_n 0, 325, 1), (325, .getfield 255, 328, 3), (328, .ireturn, 329, 1)])
theorem ok10_text : MOk m10_text := ⟨by decide, mem_g 1530 (by decide +kernel) rfl, ini10, ⟨by decide, by decide⟩, by decide, by unfold MDe; decide +kernel⟩
def m10_fault : MD := (yX10_fault, cX10_fault, 2, (some (Jvm.ClassFile.FieldType.int)), [(0, .aload_n 0, 1, 1), (1, .iconst 0, 2, 1), (2, .putfield 151, 5, 3), (5, .iload_n 1, 6, 1), (6, .ifCond .ne 10, 9, 3), (9, .aload_n 0, 10, 1), (10, .getfield 293, 13, 3), (13, .goto 16, 16, 3), (16, .iload_n 1, 17, 1), (17, .iconst 1, 18, 1), (18, .if_icmp .ne 10, 21, 3), (21, .aload_n 0, 22, 1), (22, .getfield 67, 25, 3), (25, .goto 4, 28, 3), (28, .iconst (-1), 29, 1), (29, .ireturn, 30, 1)])
theorem ok10_fault : MOk m10_fault := ⟨by decide, mem_g 1650 (by decide +kernel) rfl, ini10, ⟨by decide, by decide⟩, by decide, by unfold MDe; decide +kernel⟩
def m10_named : MD := (yX10_named, cX10_named, 3, (some (Jvm.ClassFile.FieldType.int)), [(0, .aload_n 0, 1, 1), (1, .iconst 0, 2, 1), (2, .putfield 151, 5, 3), (5, .iload_n 1, 6, 1), (6, .lookupswitch 58 #[(0, 26), (1, 42)], 32, 26), (32, .aload_n 0, 33, 1), (33, .getfield 16, 36, 3), (36, .iconst 0, 37, 1), (37, .aload_n 0, 38, 1), (38, .getfield 13, 41, 3), (41, .iconst 0, 42, 1), (42, .iaload, 43, 1), (43, .iload_n 2, 44, 1), (44, .invokestatic 217, 47, 3), (47, .ireturn, 48, 1), (48, .aload_n 0, 49, 1), (49, .getfield 25, 52, 3), (52, .iconst 0, 53, 1), (53, .aload_n 0, 54, 1), (54, .getfield 13, 57, 3), (57, .iconst 1, 58, 1), (58, .iaload, 59, 1), (59, .iload_n 2, 60, 1), (60, .invokestatic 217, 63, 3), (63, .ireturn, 64, 1), (64, .iconst (-1), 65, 1), (65, .ireturn, 66, 1)])
theorem ok10_named : MOk m10_named := ⟨by decide, mem_g 1654 (by decide +kernel) rfl, ini10, ⟨by decide, by decide⟩, by decide, by unfold MDe; decide +kernel⟩
def m10_is : MD := (yX10_is, cX10_is, 1, (some (Jvm.ClassFile.FieldType.long)), [(0, .iload_n 0, 1, 1), (1, .ifCond .eq 7, 4, 3), (4, .lconst 1, 5, 1), (5, .goto 4, 8, 3), (8, .lconst 0, 9, 1), (9, .lreturn, 10, 1)])
theorem ok10_is : MOk m10_is := ⟨by decide, mem_g 1721 (by decide +kernel) rfl, ini10, ⟨by decide, by decide⟩, by decide, by unfold MDe; decide +kernel⟩
def m10_works : MD := (yX10_works, cX10_works, 8, (some (Jvm.ClassFile.FieldType.boolean)), [(0, .aload_n 0, 1, 1), (1, .getfield 75, 4, 3), (4, .aload_n 0, 5, 1), (5, .getfield 310, 8, 3), (8, .iconst 1, 9, 1), (9, .isub, 10, 1), (10, .laload, 11, 1), (11, .lstore_n 2, 12, 1), (12, .iload_n 1, 13, 1), (13, .sipush 260, 16, 3), (16, .if_icmp .ne 30, 19, 3), (19, .aload_n 0, 20, 1), (20, .getfield 75, 23, 3), (23, .aload_n 0, 24, 1), (24, .getfield 310, 27, 3), (27, .iconst 1, 28, 1), (28, .isub, 29, 1), (29, .lload_n 2, 30, 1), (30, .lconst 0, 31, 1), (31, .lcmp, 32, 1), (32, .ifCond .ne 7, 35, 3), (35, .iconst 1, 36, 1), (36, .goto 4, 39, 3), (39, .iconst 0, 40, 1), (40, .invokestatic 313, 43, 3), (43, .lastore, 44, 1), (44, .iconst 1, 45, 1), (45, .ireturn, 46, 1), (46, .aload_n 0, 47, 1), (47, .getfield 75, 50, 3), (50, .aload_n 0, 51, 1), (51, .getfield 310, 54, 3), (54, .iconst 2, 55, 1), (55, .isub, 56, 1), (56, .laload, 57, 1), (57, .lstore 4, 59, 2), (59, .aload_n 0, 60, 1), (60, .dup, 61, 1), (61, .getfield 310, 64, 3), (64, .iconst 1, 65, 1), (65, .isub, 66, 1), (66, .putfield 310, 69, 3), (69, .iload_n 1, 70, 1), (70, .lookupswitch 314 #[(42, 116), (43, 98), (45, 107), (47, 151), (60, 168), (61, 208), (62, 188), (256, 228), (257, 268), (258, 248), (261, 288)], 168, 98), (168, .lload 4, 170, 2), (170, .lload_n 2, 171, 1), (171, .ladd, 172, 1), (172, .lstore 6, 174, 2), (174, .goto 233, 177, 3), (177, .lload 4, 179, 2), (179, .lload_n 2, 180, 1), (180, .lsub, 181, 1), (181, .lstore 6, 183, 2), (183, .goto 224, 186, 3), (186, .lload 4, 188, 2), (188, .lconst 0, 189, 1), (189, .lcmp, 190, 1), (190, .ifCond .eq 22, 193, 3), (193, .lload_n 2, 194, 1), (194, .invokestatic 317, 197, 3), (197, .ldc2_w 323, 200, 3), (200, .lload 4, 202, 2), (202, .invokestatic 317, 205, 3), (205, .ldiv, 206, 1), (206, .lcmp, 207, 1), (207, .ifCond .le 5, 210, 3), (210, .iconst 0, 211, 1), (211, .ireturn, 212, 1), (212, .lload 4, 214, 2), (214, .lload_n 2, 215, 1), (215, .lmul, 216, 1), (216, .lstore 6, 218, 2), (218, .goto 189, 221, 3), (221, .lload_n 2, 222, 1), (222, .lconst 0, 223, 1), (223, .lcmp, 224, 1), (224, .ifCond .ne 5, 227, 3), (227, .iconst 0, 228, 1), (228, .ireturn, 229, 1), (229, .lload 4, 231, 2), (231, .lload_n 2, 232, 1), (232, .ldiv, 233, 1), (233, .lstore 6, 235, 2), (235, .goto 172, 238, 3), (238, .lload 4, 240, 2), (240, .lload_n 2, 241, 1), (241, .lcmp, 242, 1), (242, .ifCond .ge 7, 245, 3), (245, .iconst 1, 246, 1), (246, .goto 4, 249, 3), (249, .iconst 0, 250, 1), (250, .invokestatic 313, 253, 3), (253, .lstore 6, 255, 2), (255, .goto 152, 258, 3), (258, .lload 4, 260, 2), (260, .lload_n 2, 261, 1), (261, .lcmp, 262, 1), (262, .ifCond .le 7, 265, 3), (265, .iconst 1, 266, 1), (266, .goto 4, 269, 3), (269, .iconst 0, 270, 1), (270, .invokestatic 313, 273, 3), (273, .lstore 6, 275, 2), (275, .goto 132, 278, 3), (278, .lload 4, 280, 2), (280, .lload_n 2, 281, 1), (281, .lcmp, 282, 1), (282, .ifCond .ne 7, 285, 3), (285, .iconst 1, 286, 1), (286, .goto 4, 289, 3), (289, .iconst 0, 290, 1), (290, .invokestatic 313, 293, 3), (293, .lstore 6, 295, 2), (295, .goto 112, 298, 3), (298, .lload 4, 300, 2), (300, .lload_n 2, 301, 1), (301, .lcmp, 302, 1), (302, .ifCond .gt 7, 305, 3), (305, .iconst 1, 306, 1), (306, .goto 4, 309, 3), (309, .iconst 0, 310, 1), (310, .invokestatic 313, 313, 3), (313, .lstore 6, 315, 2), (315, .goto 92, 318, 3), (318, .lload 4, 320, 2), (320, .lload_n 2, 321, 1), (321, .lcmp, 322, 1), (322, .ifCond .lt 7, 325, 3), (325, .iconst 1, 326, 1), (326, .goto 4, 329, 3), (329, .iconst 0, 330, 1), (330, .invokestatic 313, 333, 3), (333, .lstore 6, 335, 2), (335, .goto 72, 338, 3), (338, .lload 4, 340, 2), (340, .lload_n 2, 341, 1), (341, .lcmp, 342, 1), (342, .ifCond .eq 7, 345, 3), (345, .iconst 1, 346, 1), (346, .goto 4, 349, 3), (349, .iconst 0, 350, 1), (350, .invokestatic 313, 353, 3), (353, .lstore 6, 355, 2), (355, .goto 52, 358, 3), (358, .lload 4, 360, 2), (360, .lconst 0, 361, 1), (361, .lcmp, 362, 1), (362, .ifCond .eq 13, 365, 3), (365, .lload_n 2, 366, 1), (366, .lconst 0, 367, 1), (367, .lcmp, 368, 1), (368, .ifCond .eq 7, 371, 3), (371, .iconst 1, 372, 1), (372, .goto 4, 375, 3), (375, .iconst 0, 376, 1), (376, .invokestatic 313, 379, 3), (379, .lstore 6, 381, 2), (381, .goto 26, 384, 3), (384, .lload 4, 386, 2), (386, .lconst 0, 387, 1), (387, .lcmp, 388, 1), (388, .ifCond .ne 9, 391, 3), (391, .lload_n 2, 392, 1), (392, .lconst 0, 393, 1), (393, .lcmp, 394, 1), (394, .ifCond .eq 7, 397, 3), (397, .iconst 1, 398, 1), (398, .goto 4, 401, 3), (401, .iconst 0, 402, 1), (402, .invokestatic 313, 405, 3), (405, .lstore 6, 407, 2), (407, .aload_n 0, 408, 1), (408, .getfield 75, 411, 3), (411, .aload_n 0, 412, 1), (412, .getfield 310, 415, 3), (415, .iconst 1, 416, 1), (416, .isub, 417, 1), (417, .lload 6, 419, 2), (419, .lastore, 420, 1), (420, .lload 6, 422, 2), (422, .ldc2_w 323, 425, 3), (425, .lcmp, 426, 1), (426, .ifCond .gt 16, 429, 3), (429, .lload 6, 431, 2), (431, .ldc2_w 325, 434, 3), (434, .lcmp, 435, 1), (435, .ifCond .lt 7, 438, 3), (438, .iconst 1, 439, 1), (439, .goto 4, 442, 3), (442, .iconst 0, 443, 1), (443, .ireturn, 444, 1)])
theorem ok10_works : MOk m10_works := ⟨by decide, mem_g 1718 (by decide +kernel) rfl, ini10, ⟨by decide, by decide⟩, by decide, by unfold MDe; decide +kernel⟩
def m10_goes : MD := (yX10_goes, cX10_goes, 3, (some (Jvm.ClassFile.FieldType.boolean)), [(0, .aload_n 0, 1, 1), (1, .iconst 0, 2, 1), (2, .putfield 310, 5, 3), (5, .aload_n 0, 6, 1), (6, .getfield 55, 9, 3), (9, .iload_n 1, 10, 1), (10, .iaload, 11, 1), (11, .istore_n 2, 12, 1), (12, .iload_n 2, 13, 1), (13, .aload_n 0, 14, 1), (14, .getfield 58, 17, 3), (17, .iload_n 1, 18, 1), (18, .iaload, 19, 1), (19, .if_icmp .ge 83, 22, 3), (22, .aload_n 0, 23, 1), (23, .getfield 61, 26, 3), (26, .iload_n 2, 27, 1), (27, .iaload, 28, 1), (28, .iconst 2, 29, 1), (29, .if_icmp .ne 18, 32, 3), (32, .aload_n 0, 33, 1), (33, .aload_n 0, 34, 1), (34, .getfield 64, 37, 3), (37, .iload_n 2, 38, 1), (38, .iaload, 39, 1), (39, .invokevirtual 327, 42, 3), (42, .ifCond .ne 54, 45, 3), (45, .iconst 0, 46, 1), (46, .ireturn, 47, 1), (47, .aload_n 0, 48, 1), (48, .getfield 75, 51, 3), (51, .aload_n 0, 52, 1), (52, .getfield 310, 55, 3), (55, .aload_n 0, 56, 1), (56, .getfield 61, 59, 3), (59, .iload_n 2, 60, 1), (60, .iaload, 61, 1), (61, .ifCond .ne 13, 64, 3), (64, .aload_n 0, 65, 1), (65, .getfield 64, 68, 3), (68, .iload_n 2, 69, 1), (69, .iaload, 70, 1), (70, .i2l, 71, 1), (71, .goto 14, 74, 3), (74, .aload_n 0, 75, 1), (75, .getfield 71, 78, 3), (78, .aload_n 0, 79, 1), (79, .getfield 64, 82, 3), (82, .iload_n 2, 83, 1), (83, .iaload, 84, 1), (84, .laload, 85, 1), (85, .lastore, 86, 1), (86, .aload_n 0, 87, 1), (87, .dup, 88, 1), (88, .getfield 310, 91, 3), (91, .iconst 1, 92, 1), (92, .iadd, 93, 1), (93, .putfield 310, 96, 3), (96, .iinc 2 1, 99, 3), (99, .goto (-87), 102, 3), (102, .iconst 1, 103, 1), (103, .ireturn, 104, 1)])
theorem ok10_goes : MOk m10_goes := ⟨by decide, mem_g 1714 (by decide +kernel) rfl, ini10, ⟨by decide, by decide⟩, by decide, by unfold MDe; decide +kernel⟩
def m10_hasLaw : MD := (yX10_hasLaw, cX10_hasLaw, 2, (some (Jvm.ClassFile.FieldType.boolean)), [(0, .aload_n 0, 1, 1), (1, .getfield 58, 4, 3), (4, .iload_n 1, 5, 1), (5, .iaload, 6, 1), (6, .aload_n 0, 7, 1), (7, .getfield 55, 10, 3), (10, .iload_n 1, 11, 1), (11, .iaload, 12, 1), (12, .if_icmp .le 7, 15, 3), (15, .iconst 1, 16, 1), (16, .goto 4, 19, 3), (19, .iconst 0, 20, 1), (20, .ireturn, 21, 1)])
theorem ok10_hasLaw : MOk m10_hasLaw := ⟨by decide, mem_g 1705 (by decide +kernel) rfl, ini10, ⟨by decide, by decide⟩, by decide, by unfold MDe; decide +kernel⟩
def m10_starts : MD := (yX10_starts, cX10_starts, 5, none, [(0, .aload_n 0, 1, 1), (1, .getfield 78, 4, 3), (4, .iload_n 1, 5, 1), (5, .iconst 0, 6, 1), (6, .iastore, 7, 1), (7, .aload_n 0, 8, 1), (8, .getfield 81, 11, 3), (11, .iload_n 1, 12, 1), (12, .aload_n 0, 13, 1), (13, .getfield 13, 16, 3), (16, .bipush 6, 18, 2), (18, .iaload, 19, 1), (19, .iastore, 20, 1), (20, .aload_n 0, 21, 1), (21, .getfield 84, 24, 3), (24, .iload_n 1, 25, 1), (25, .aload_n 0, 26, 1), (26, .getfield 13, 29, 3), (29, .iconst 4, 30, 1), (30, .iaload, 31, 1), (31, .iastore, 32, 1), (32, .aload_n 0, 33, 1), (33, .getfield 87, 36, 3), (36, .iload_n 1, 37, 1), (37, .iconst 0, 38, 1), (38, .iastore, 39, 1), (39, .aload_n 0, 40, 1), (40, .getfield 90, 43, 3), (43, .iload_n 1, 44, 1), (44, .iconst 0, 45, 1), (45, .iastore, 46, 1), (46, .aload_n 0, 47, 1), (47, .getfield 93, 50, 3), (50, .iload_n 1, 51, 1), (51, .bipush 8, 53, 2), (53, .iastore, 54, 1), (54, .iconst 0, 55, 1), (55, .istore_n 2, 56, 1), (56, .iload_n 2, 57, 1), (57, .bipush 8, 59, 2), (59, .if_icmp .ge 112, 62, 3), (62, .bipush 8, 64, 2), (64, .iload_n 1, 65, 1), (65, .imul, 66, 1), (66, .iload_n 2, 67, 1), (67, .iadd, 68, 1), (68, .istore_n 3, 69, 1), (69, .iload_n 2, 70, 1), (70, .aload_n 0, 71, 1), (71, .getfield 13, 74, 3), (74, .iconst 1, 75, 1), (75, .iaload, 76, 1), (76, .if_icmp .ge 7, 79, 3), (79, .iconst 1, 80, 1), (80, .goto 4, 83, 3), (83, .iconst 0, 84, 1), (84, .istore 4, 86, 2), (86, .aload_n 0, 87, 1), (87, .getfield 96, 90, 3), (90, .iload_n 3, 91, 1), (91, .iload_n 2, 92, 1), (92, .iastore, 93, 1), (93, .aload_n 0, 94, 1), (94, .getfield 99, 97, 3), (97, .iload_n 3, 98, 1), (98, .iload 4, 100, 2), (100, .ifCond .eq 12, 103, 3), (103, .aload_n 0, 104, 1), (104, .getfield 37, 107, 3), (107, .iload_n 2, 108, 1), (108, .iaload, 109, 1), (109, .goto 4, 112, 3), (112, .iconst 0, 113, 1), (113, .iastore, 114, 1), (114, .aload_n 0, 115, 1), (115, .getfield 102, 118, 3), (118, .iload_n 3, 119, 1), (119, .iload 4, 121, 2), (121, .ifCond .eq 12, 124, 3), (124, .aload_n 0, 125, 1), (125, .getfield 31, 128, 3), (128, .iload_n 2, 129, 1), (129, .iaload, 130, 1), (130, .goto 4, 133, 3), (133, .iconst 0, 134, 1), (134, .iastore, 135, 1), (135, .aload_n 0, 136, 1), (136, .getfield 105, 139, 3), (139, .iload_n 3, 140, 1), (140, .iload 4, 142, 2), (142, .ifCond .eq 7, 145, 3), (145, .iconst 0, 146, 1), (146, .goto 4, 149, 3), (149, .iconst 2, 150, 1), (150, .iastore, 151, 1), (151, .aload_n 0, 152, 1), (152, .getfield 108, 155, 3), (155, .iload_n 3, 156, 1), (156, .iconst 0, 157, 1), (157, .iastore, 158, 1), (158, .aload_n 0, 159, 1), (159, .getfield 111, 162, 3), (162, .iload_n 3, 163, 1), (163, .iconst 0, 164, 1), (164, .iastore, 165, 1), (165, .iinc 2 1, 168, 3), (168, .goto (-112), 171, 3), (171, .iconst 0, 172, 1), (172, .istore_n 2, 173, 1), (173, .iload_n 2, 174, 1), (174, .bipush 8, 176, 2), (176, .if_icmp .ge 21, 179, 3), (179, .aload_n 0, 180, 1), (180, .getfield 114, 183, 3), (183, .bipush 8, 185, 2), (185, .iload_n 1, 186, 1), (186, .imul, 187, 1), (187, .iload_n 2, 188, 1), (188, .iadd, 189, 1), (189, .iconst 0, 190, 1), (190, .iastore, 191, 1), (191, .iinc 2 1, 194, 3), (194, .goto (-21), 197, 3), (197, .return_, 198, 1)])
theorem ok10_starts : MOk m10_starts := ⟨by decide, mem_g 1318 (by decide +kernel) rfl, ini10, ⟨by decide, by decide⟩, by decide, by unfold MDe; decide +kernel⟩
def m10_begins : MD := (yX10_begins, cX10_begins, 1, none, [(0, .aload_n 0, 1, 1), (1, .iconst 0, 2, 1), (2, .invokevirtual 330, 5, 3), (5, .return_, 6, 1)])
theorem ok10_begins : MOk m10_begins := ⟨by decide, mem_g 1314 (by decide +kernel) rfl, ini10, ⟨by decide, by decide⟩, by decide, by unfold MDe; decide +kernel⟩
def m10_copies : MD := (yX10_copies, cX10_copies, 6, none, [(0, .aload_n 0, 1, 1), (1, .getfield 78, 4, 3), (4, .iload_n 1, 5, 1), (5, .aload_n 0, 6, 1), (6, .getfield 78, 9, 3), (9, .iload_n 2, 10, 1), (10, .iaload, 11, 1), (11, .iastore, 12, 1), (12, .aload_n 0, 13, 1), (13, .getfield 81, 16, 3), (16, .iload_n 1, 17, 1), (17, .aload_n 0, 18, 1), (18, .getfield 81, 21, 3), (21, .iload_n 2, 22, 1), (22, .iaload, 23, 1), (23, .iastore, 24, 1), (24, .aload_n 0, 25, 1), (25, .getfield 84, 28, 3), (28, .iload_n 1, 29, 1), (29, .aload_n 0, 30, 1), (30, .getfield 84, 33, 3), (33, .iload_n 2, 34, 1), (34, .iaload, 35, 1), (35, .iastore, 36, 1), (36, .aload_n 0, 37, 1), (37, .getfield 87, 40, 3), (40, .iload_n 1, 41, 1), (41, .aload_n 0, 42, 1), (42, .getfield 87, 45, 3), (45, .iload_n 2, 46, 1), (46, .iaload, 47, 1), (47, .iastore, 48, 1), (48, .aload_n 0, 49, 1), (49, .getfield 90, 52, 3), (52, .iload_n 1, 53, 1), (53, .aload_n 0, 54, 1), (54, .getfield 90, 57, 3), (57, .iload_n 2, 58, 1), (58, .iaload, 59, 1), (59, .iastore, 60, 1), (60, .aload_n 0, 61, 1), (61, .getfield 93, 64, 3), (64, .iload_n 1, 65, 1), (65, .aload_n 0, 66, 1), (66, .getfield 93, 69, 3), (69, .iload_n 2, 70, 1), (70, .iaload, 71, 1), (71, .iastore, 72, 1), (72, .iconst 0, 73, 1), (73, .istore_n 3, 74, 1), (74, .iload_n 3, 75, 1), (75, .bipush 8, 77, 2), (77, .if_icmp .ge 109, 80, 3), (80, .bipush 8, 82, 2), (82, .iload_n 1, 83, 1), (83, .imul, 84, 1), (84, .iload_n 3, 85, 1), (85, .iadd, 86, 1), (86, .istore 4, 88, 2), (88, .bipush 8, 90, 2), (90, .iload_n 2, 91, 1), (91, .imul, 92, 1), (92, .iload_n 3, 93, 1), (93, .iadd, 94, 1), (94, .istore 5, 96, 2), (96, .aload_n 0, 97, 1), (97, .getfield 96, 100, 3), (100, .iload 4, 102, 2), (102, .aload_n 0, 103, 1), (103, .getfield 96, 106, 3), (106, .iload 5, 108, 2), (108, .iaload, 109, 1), (109, .iastore, 110, 1), (110, .aload_n 0, 111, 1), (111, .getfield 99, 114, 3), (114, .iload 4, 116, 2), (116, .aload_n 0, 117, 1), (117, .getfield 99, 120, 3), (120, .iload 5, 122, 2), (122, .iaload, 123, 1), (123, .iastore, 124, 1), (124, .aload_n 0, 125, 1), (125, .getfield 102, 128, 3), (128, .iload 4, 130, 2), (130, .aload_n 0, 131, 1), (131, .getfield 102, 134, 3), (134, .iload 5, 136, 2), (136, .iaload, 137, 1), (137, .iastore, 138, 1), (138, .aload_n 0, 139, 1), (139, .getfield 105, 142, 3), (142, .iload 4, 144, 2), (144, .aload_n 0, 145, 1), (145, .getfield 105, 148, 3), (148, .iload 5, 150, 2), (150, .iaload, 151, 1), (151, .iastore, 152, 1), (152, .aload_n 0, 153, 1), (153, .getfield 108, 156, 3), (156, .iload 4, 158, 2), (158, .aload_n 0, 159, 1), (159, .getfield 108, 162, 3), (162, .iload 5, 164, 2), (164, .iaload, 165, 1), (165, .iastore, 166, 1), (166, .aload_n 0, 167, 1), (167, .getfield 111, 170, 3), (170, .iload 4, 172, 2), (172, .aload_n 0, 173, 1), (173, .getfield 111, 176, 3), (176, .iload 5, 178, 2), (178, .iaload, 179, 1), (179, .iastore, 180, 1), (180, .iinc 3 1, 183, 3), (183, .goto (-109), 186, 3), (186, .iconst 0, 187, 1), (187, .istore_n 3, 188, 1), (188, .iload_n 3, 189, 1), (189, .bipush 8, 191, 2), (191, .if_icmp .ge 31, 194, 3), (194, .aload_n 0, 195, 1), (195, .getfield 114, 198, 3), (198, .bipush 8, 200, 2), (200, .iload_n 1, 201, 1), (201, .imul, 202, 1), (202, .iload_n 3, 203, 1), (203, .iadd, 204, 1), (204, .aload_n 0, 205, 1), (205, .getfield 114, 208, 3), (208, .bipush 8, 210, 2), (210, .iload_n 2, 211, 1), (211, .imul, 212, 1), (212, .iload_n 3, 213, 1), (213, .iadd, 214, 1), (214, .iaload, 215, 1), (215, .iastore, 216, 1), (216, .iinc 3 1, 219, 3), (219, .goto (-31), 222, 3), (222, .return_, 223, 1)])
theorem ok10_copies : MOk m10_copies := ⟨by decide, mem_g 1738 (by decide +kernel) rfl, ini10, ⟨by decide, by decide⟩, by decide, by unfold MDe; decide +kernel⟩
def m10_isTin : MD := (yX10_isTin, cX10_isTin, 2, (some (Jvm.ClassFile.FieldType.boolean)), [(0, .iload_n 1, 1, 1), (1, .ifCond .lt 17, 4, 3), (4, .iload_n 1, 5, 1), (5, .aload_n 0, 6, 1), (6, .getfield 13, 9, 3), (9, .iconst 1, 10, 1), (10, .iaload, 11, 1), (11, .if_icmp .ge 7, 14, 3), (14, .iconst 1, 15, 1), (15, .goto 4, 18, 3), (18, .iconst 0, 19, 1), (19, .ireturn, 20, 1)])
theorem ok10_isTin : MOk m10_isTin := ⟨by decide, mem_g 1662 (by decide +kernel) rfl, ini10, ⟨by decide, by decide⟩, by decide, by unfold MDe; decide +kernel⟩
def m10_isKind : MD := (yX10_isKind, cX10_isKind, 2, (some (Jvm.ClassFile.FieldType.boolean)), [(0, .iload_n 1, 1, 1), (1, .ifCond .lt 17, 4, 3), (4, .iload_n 1, 5, 1), (5, .aload_n 0, 6, 1), (6, .getfield 13, 9, 3), (9, .iconst 0, 10, 1), (10, .iaload, 11, 1), (11, .if_icmp .ge 7, 14, 3), (14, .iconst 1, 15, 1), (15, .goto 4, 18, 3), (18, .iconst 0, 19, 1), (19, .ireturn, 20, 1)])
theorem ok10_isKind : MOk m10_isKind := ⟨by decide, mem_g 1670 (by decide +kernel) rfl, ini10, ⟨by decide, by decide⟩, by decide, by unfold MDe; decide +kernel⟩
def m10_isStack : MD := (yX10_isStack, cX10_isStack, 1, (some (Jvm.ClassFile.FieldType.boolean)), [(0, .iload_n 0, 1, 1), (1, .ifCond .lt 12, 4, 3), (4, .iload_n 0, 5, 1), (5, .iconst 3, 6, 1), (6, .if_icmp .gt 7, 9, 3), (9, .iconst 1, 10, 1), (10, .goto 4, 13, 3), (13, .iconst 0, 14, 1), (14, .ireturn, 15, 1)])
theorem ok10_isStack : MOk m10_isStack := ⟨by decide, mem_g 1685 (by decide +kernel) rfl, ini10, ⟨by decide, by decide⟩, by decide, by unfold MDe; decide +kernel⟩
def m10_isClosed : MD := (yX10_isClosed, cX10_isClosed, 3, (some (Jvm.ClassFile.FieldType.boolean)), [(0, .aload_n 0, 1, 1), (1, .getfield 105, 4, 3), (4, .bipush 8, 6, 2), (6, .iload_n 1, 7, 1), (7, .imul, 8, 1), (8, .iload_n 2, 9, 1), (9, .iadd, 10, 1), (10, .iaload, 11, 1), (11, .ifCond .ne 7, 14, 3), (14, .iconst 1, 15, 1), (15, .goto 4, 18, 3), (18, .iconst 0, 19, 1), (19, .ireturn, 20, 1)])
theorem ok10_isClosed : MOk m10_isClosed := ⟨by decide, mem_g 1693 (by decide +kernel) rfl, ini10, ⟨by decide, by decide⟩, by decide, by unfold MDe; decide +kernel⟩
def m10_aboveOf : MD := (yX10_aboveOf, cX10_aboveOf, 6, (some (Jvm.ClassFile.FieldType.int)), [(0, .iconst 0, 1, 1), (1, .istore_n 3, 2, 1), (2, .iconst 0, 3, 1), (3, .istore 4, 5, 2), (5, .iload 4, 7, 2), (7, .aload_n 0, 8, 1), (8, .getfield 13, 11, 3), (11, .iconst 1, 12, 1), (12, .iaload, 13, 1), (13, .if_icmp .ge 91, 16, 3), (16, .aload_n 0, 17, 1), (17, .iload_n 1, 18, 1), (18, .iload 4, 20, 2), (20, .invokevirtual 333, 23, 3), (23, .ifCond .eq 33, 26, 3), (26, .aload_n 0, 27, 1), (27, .getfield 99, 30, 3), (30, .bipush 8, 32, 2), (32, .iload_n 1, 33, 1), (33, .imul, 34, 1), (34, .iload 4, 36, 2), (36, .iadd, 37, 1), (37, .iaload, 38, 1), (38, .aload_n 0, 39, 1), (39, .getfield 99, 42, 3), (42, .bipush 8, 44, 2), (44, .iload_n 1, 45, 1), (45, .imul, 46, 1), (46, .iload_n 2, 47, 1), (47, .iadd, 48, 1), (48, .iaload, 49, 1), (49, .if_icmp .ne 7, 52, 3), (52, .iconst 1, 53, 1), (53, .goto 4, 56, 3), (56, .iconst 0, 57, 1), (57, .istore 5, 59, 2), (59, .iload_n 3, 60, 1), (60, .iload 5, 62, 2), (62, .ifCond .eq 33, 65, 3), (65, .aload_n 0, 66, 1), (66, .getfield 96, 69, 3), (69, .bipush 8, 71, 2), (71, .iload_n 1, 72, 1), (72, .imul, 73, 1), (73, .iload 4, 75, 2), (75, .iadd, 76, 1), (76, .iaload, 77, 1), (77, .aload_n 0, 78, 1), (78, .getfield 96, 81, 3), (81, .bipush 8, 83, 2), (83, .iload_n 1, 84, 1), (84, .imul, 85, 1), (85, .iload_n 2, 86, 1), (86, .iadd, 87, 1), (87, .iaload, 88, 1), (88, .if_icmp .le 7, 91, 3), (91, .iconst 1, 92, 1), (92, .goto 4, 95, 3), (95, .iconst 0, 96, 1), (96, .iadd, 97, 1), (97, .istore_n 3, 98, 1), (98, .iinc 4 1, 101, 3), (101, .goto (-96), 104, 3), (104, .iload_n 3, 105, 1), (105, .ireturn, 106, 1)])
theorem ok10_aboveOf : MOk m10_aboveOf := ⟨by decide, mem_g 1697 (by decide +kernel) rfl, ini10, ⟨by decide, by decide⟩, by decide, by unfold MDe; decide +kernel⟩
def m10_isOnTop : MD := (yX10_isOnTop, cX10_isOnTop, 3, (some (Jvm.ClassFile.FieldType.boolean)), [(0, .aload_n 0, 1, 1), (1, .iload_n 1, 2, 1), (2, .iload_n 2, 3, 1), (3, .invokevirtual 333, 6, 3), (6, .ifCond .eq 16, 9, 3), (9, .aload_n 0, 10, 1), (10, .iload_n 1, 11, 1), (11, .iload_n 2, 12, 1), (12, .invokevirtual 337, 15, 3), (15, .ifCond .ne 7, 18, 3), (18, .iconst 1, 19, 1), (19, .goto 4, 22, 3), (22, .iconst 0, 23, 1), (23, .ireturn, 24, 1)])
theorem ok10_isOnTop : MOk m10_isOnTop := ⟨by decide, mem_g 1689 (by decide +kernel) rfl, ini10, ⟨by decide, by decide⟩, by decide, by unfold MDe; decide +kernel⟩
def m10_calls : MD := (yX10_calls, cX10_calls, 5, none, [(0, .bipush 8, 2, 2), (2, .iload_n 1, 3, 1), (3, .imul, 4, 1), (4, .iload_n 2, 5, 1), (5, .iadd, 6, 1), (6, .istore 4, 8, 2), (8, .aload_n 0, 9, 1), (9, .getfield 71, 12, 3), (12, .iconst 0, 13, 1), (13, .aload_n 0, 14, 1), (14, .getfield 102, 17, 3), (17, .iload 4, 19, 2), (19, .iaload, 20, 1), (20, .i2l, 21, 1), (21, .lastore, 22, 1), (22, .aload_n 0, 23, 1), (23, .getfield 71, 26, 3), (26, .iconst 1, 27, 1), (27, .aload_n 0, 28, 1), (28, .getfield 34, 31, 3), (31, .iload_n 2, 32, 1), (32, .iaload, 33, 1), (33, .i2l, 34, 1), (34, .lastore, 35, 1), (35, .aload_n 0, 36, 1), (36, .getfield 71, 39, 3), (39, .iconst 2, 40, 1), (40, .aload_n 0, 41, 1), (41, .getfield 19, 44, 3), (44, .aload_n 0, 45, 1), (45, .getfield 28, 48, 3), (48, .iload_n 2, 49, 1), (49, .iaload, 50, 1), (50, .iaload, 51, 1), (51, .i2l, 52, 1), (52, .lastore, 53, 1), (53, .aload_n 0, 54, 1), (54, .getfield 71, 57, 3), (57, .iconst 3, 58, 1), (58, .aload_n 0, 59, 1), (59, .getfield 22, 62, 3), (62, .aload_n 0, 63, 1), (63, .getfield 28, 66, 3), (66, .iload_n 2, 67, 1), (67, .iaload, 68, 1), (68, .iaload, 69, 1), (69, .i2l, 70, 1), (70, .lastore, 71, 1), (71, .aload_n 0, 72, 1), (72, .getfield 71, 75, 3), (75, .iconst 4, 76, 1), (76, .iload_n 3, 77, 1), (77, .i2l, 78, 1), (78, .lastore, 79, 1), (79, .aload_n 0, 80, 1), (80, .getfield 71, 83, 3), (83, .iconst 5, 84, 1), (84, .aload_n 0, 85, 1), (85, .getfield 108, 88, 3), (88, .iload 4, 90, 2), (90, .iaload, 91, 1), (91, .i2l, 92, 1), (92, .lastore, 93, 1), (93, .aload_n 0, 94, 1), (94, .getfield 71, 97, 3), (97, .bipush 6, 99, 2), (99, .aload_n 0, 100, 1), (100, .getfield 78, 103, 3), (103, .iload_n 1, 104, 1), (104, .iaload, 105, 1), (105, .i2l, 106, 1), (106, .lastore, 107, 1), (107, .return_, 108, 1)])
theorem ok10_calls : MOk m10_calls := ⟨by decide, mem_g 1710 (by decide +kernel) rfl, ini10, ⟨by decide, by decide⟩, by decide, by unfold MDe; decide +kernel⟩
def m10_within : MD := (yX10_within, cX10_within, 5, (some (Jvm.ClassFile.FieldType.int)), [(0, .aload_n 0, 1, 1), (1, .iload_n 1, 2, 1), (2, .invokevirtual 340, 5, 3), (5, .ifCond .eq 11, 8, 3), (8, .aload_n 0, 9, 1), (9, .iload_n 1, 10, 1), (10, .invokevirtual 343, 13, 3), (13, .ifCond .ne 6, 16, 3), (16, .iload 4, 18, 2), (18, .ireturn, 19, 1), (19, .iload_n 2, 20, 1), (20, .i2l, 21, 1), (21, .iload_n 3, 22, 1), (22, .i2l, 23, 1), (23, .aload_n 0, 24, 1), (24, .getfield 75, 27, 3), (27, .iconst 0, 28, 1), (28, .laload, 29, 1), (29, .invokestatic 346, 32, 3), (32, .invokestatic 350, 35, 3), (35, .l2i, 36, 1), (36, .ireturn, 37, 1)])
theorem ok10_within : MOk m10_within := ⟨by decide, mem_g 1746 (by decide +kernel) rfl, ini10, ⟨by decide, by decide⟩, by decide, by unfold MDe; decide +kernel⟩
def m10_opens : MD := (yX10_opens, cX10_opens, 3, none, [(0, .aload_n 0, 1, 1), (1, .getfield 84, 4, 3), (4, .iload_n 1, 5, 1), (5, .iaload, 6, 1), (6, .ifCond .eq 12, 9, 3), (9, .aload_n 0, 10, 1), (10, .iload_n 1, 11, 1), (11, .iload_n 2, 12, 1), (12, .invokevirtual 333, 15, 3), (15, .ifCond .ne 4, 18, 3), (18, .return_, 19, 1), (19, .aload_n 0, 20, 1), (20, .getfield 84, 23, 3), (23, .iload_n 1, 24, 1), (24, .dup2, 25, 1), (25, .iaload, 26, 1), (26, .iconst 1, 27, 1), (27, .isub, 28, 1), (28, .iastore, 29, 1), (29, .aload_n 0, 30, 1), (30, .iload_n 1, 31, 1), (31, .iload_n 2, 32, 1), (32, .iconst 0, 33, 1), (33, .invokevirtual 353, 36, 3), (36, .aload_n 0, 37, 1), (37, .getfield 108, 40, 3), (40, .bipush 8, 42, 2), (42, .iload_n 1, 43, 1), (43, .imul, 44, 1), (44, .iload_n 2, 45, 1), (45, .iadd, 46, 1), (46, .aload_n 0, 47, 1), (47, .iconst 0, 48, 1), (48, .iconst 1, 49, 1), (49, .bipush 9, 51, 2), (51, .iconst 3, 52, 1), (52, .invokevirtual 357, 55, 3), (55, .iastore, 56, 1), (56, .aload_n 0, 57, 1), (57, .getfield 105, 60, 3), (60, .bipush 8, 62, 2), (62, .iload_n 1, 63, 1), (63, .imul, 64, 1), (64, .iload_n 2, 65, 1), (65, .iadd, 66, 1), (66, .iconst 1, 67, 1), (67, .iastore, 68, 1), (68, .return_, 69, 1)])
theorem ok10_opens : MOk m10_opens := ⟨by decide, mem_g 1742 (by decide +kernel) rfl, ini10, ⟨by decide, by decide⟩, by decide, by unfold MDe; decide +kernel⟩
def m10_opensTold : MD := (yX10_opensTold, cX10_opensTold, 4, none, [(0, .aload_n 0, 1, 1), (1, .getfield 361, 4, 3), (4, .iconst 3, 5, 1), (5, .if_icmp .ne 12, 8, 3), (8, .aload_n 0, 9, 1), (9, .iload_n 1, 10, 1), (10, .iload_n 2, 11, 1), (11, .invokevirtual 333, 14, 3), (14, .goto 9, 17, 3), (17, .aload_n 0, 18, 1), (18, .iload_n 1, 19, 1), (19, .iload_n 2, 20, 1), (20, .invokevirtual 364, 23, 3), (23, .istore_n 3, 24, 1), (24, .iload_n 3, 25, 1), (25, .ifCond .eq 21, 28, 3), (28, .aload_n 0, 29, 1), (29, .getfield 84, 32, 3), (32, .iload_n 1, 33, 1), (33, .iaload, 34, 1), (34, .ifCond .le 12, 37, 3), (37, .aload_n 0, 38, 1), (38, .iload_n 1, 39, 1), (39, .iload_n 2, 40, 1), (40, .invokevirtual 367, 43, 3), (43, .goto 13, 46, 3), (46, .aload_n 0, 47, 1), (47, .getfield 90, 50, 3), (50, .iload_n 1, 51, 1), (51, .dup2, 52, 1), (52, .iaload, 53, 1), (53, .iconst 1, 54, 1), (54, .iadd, 55, 1), (55, .iastore, 56, 1), (56, .return_, 57, 1)])
theorem ok10_opensTold : MOk m10_opensTold := ⟨by decide, mem_g 1772 (by decide +kernel) rfl, ini10, ⟨by decide, by decide⟩, by decide, by unfold MDe; decide +kernel⟩
def m10_serves : MD := (yX10_serves, cX10_serves, 6, (some (Jvm.ClassFile.FieldType.int)), [(0, .iconst 0, 1, 1), (1, .istore 4, 3, 2), (3, .iload 4, 5, 2), (5, .aload_n 0, 6, 1), (6, .getfield 13, 9, 3), (9, .iconst 1, 10, 1), (10, .iaload, 11, 1), (11, .if_icmp .ge 125, 14, 3), (14, .bipush 8, 16, 2), (16, .iload_n 1, 17, 1), (17, .imul, 18, 1), (18, .iload 4, 20, 2), (20, .iadd, 21, 1), (21, .istore 5, 23, 2), (23, .aload_n 0, 24, 1), (24, .getfield 105, 27, 3), (27, .iload 5, 29, 2), (29, .iaload, 30, 1), (30, .iconst 1, 31, 1), (31, .if_icmp .ne 99, 34, 3), (34, .aload_n 0, 35, 1), (35, .getfield 28, 38, 3), (38, .iload 4, 40, 2), (40, .iaload, 41, 1), (41, .aload_n 0, 42, 1), (42, .getfield 46, 45, 3), (45, .iload_n 2, 46, 1), (46, .iaload, 47, 1), (47, .if_icmp .ne 83, 50, 3), (50, .iload_n 3, 51, 1), (51, .iload 4, 53, 2), (53, .ishr, 54, 1), (54, .iconst 1, 55, 1), (55, .iand, 56, 1), (56, .iconst 1, 57, 1), (57, .if_icmp .ne 6, 60, 3), (60, .goto 70, 63, 3), (63, .aload_n 0, 64, 1), (64, .iload_n 1, 65, 1), (65, .iload 4, 67, 2), (67, .aload_n 0, 68, 1), (68, .getfield 52, 71, 3), (71, .iload_n 2, 72, 1), (72, .iaload, 73, 1), (73, .invokevirtual 353, 76, 3), (76, .aload_n 0, 77, 1), (77, .getfield 87, 80, 3), (80, .iload_n 1, 81, 1), (81, .dup2, 82, 1), (82, .iaload, 83, 1), (83, .aload_n 0, 84, 1), (84, .iconst 1, 85, 1), (85, .iconst 0, 86, 1), (86, .sipush 999, 89, 3), (89, .aload_n 0, 90, 1), (90, .getfield 52, 93, 3), (93, .iload_n 2, 94, 1), (94, .iaload, 95, 1), (95, .invokevirtual 357, 98, 3), (98, .iadd, 99, 1), (99, .iastore, 100, 1), (100, .aload_n 0, 101, 1), (101, .getfield 111, 104, 3), (104, .iload 5, 106, 2), (106, .dup2, 107, 1), (107, .iaload, 108, 1), (108, .iconst 1, 109, 1), (109, .iadd, 110, 1), (110, .iastore, 111, 1), (111, .aload_n 0, 112, 1), (112, .getfield 114, 115, 3), (115, .bipush 8, 117, 2), (117, .iload_n 1, 118, 1), (118, .imul, 119, 1), (119, .iload_n 2, 120, 1), (120, .iadd, 121, 1), (121, .iconst 1, 122, 1), (122, .iastore, 123, 1), (123, .iload_n 3, 124, 1), (124, .iconst 1, 125, 1), (125, .iload 4, 127, 2), (127, .ishl, 128, 1), (128, .ior, 129, 1), (129, .ireturn, 130, 1), (130, .iinc 4 1, 133, 3), (133, .goto (-130), 136, 3), (136, .aload_n 0, 137, 1), (137, .getfield 114, 140, 3), (140, .bipush 8, 142, 2), (142, .iload_n 1, 143, 1), (143, .imul, 144, 1), (144, .iload_n 2, 145, 1), (145, .iadd, 146, 1), (146, .iconst 2, 147, 1), (147, .iastore, 148, 1), (148, .iload_n 3, 149, 1), (149, .ireturn, 150, 1)])
theorem ok10_serves : MOk m10_serves := ⟨by decide, mem_g 1776 (by decide +kernel) rfl, ini10, ⟨by decide, by decide⟩, by decide, by unfold MDe; decide +kernel⟩
def m10_doesRust : MD := (yX10_doesRust, cX10_doesRust, 5, (some (Jvm.ClassFile.FieldType.boolean)), [(0, .aload_n 0, 1, 1), (1, .iload_n 1, 2, 1), (2, .iload_n 2, 3, 1), (3, .iconst 0, 4, 1), (4, .invokevirtual 353, 7, 3), (7, .aload_n 0, 8, 1), (8, .iconst 2, 9, 1), (9, .iconst 0, 10, 1), (10, .bipush 100, 12, 2), (12, .aload_n 0, 13, 1), (13, .getfield 13, 16, 3), (16, .iconst 5, 17, 1), (17, .iaload, 18, 1), (18, .invokevirtual 357, 21, 3), (21, .istore 4, 23, 2), (23, .iload_n 3, 24, 1), (24, .ifCond .eq 15, 27, 3), (27, .iload 4, 29, 2), (29, .ifCond .eq 10, 32, 3), (32, .iload 4, 34, 2), (34, .bipush 100, 36, 2), (36, .if_icmp .ne 16, 39, 3), (39, .iload 4, 41, 2), (41, .bipush 50, 43, 2), (43, .if_icmp .lt 7, 46, 3), (46, .iconst 1, 47, 1), (47, .goto 4, 50, 3), (50, .iconst 0, 51, 1), (51, .ireturn, 52, 1), (52, .aload_n 0, 53, 1), (53, .getfield 81, 56, 3), (56, .iload_n 1, 57, 1), (57, .aload_n 0, 58, 1), (58, .getfield 81, 61, 3), (61, .iload_n 1, 62, 1), (62, .iaload, 63, 1), (63, .ldc_w 370, 66, 3), (66, .imul, 67, 1), (67, .sipush 12345, 70, 3), (70, .iadd, 71, 1), (71, .ldc_w 373, 74, 3), (74, .iand, 75, 1), (75, .iastore, 76, 1), (76, .aload_n 0, 77, 1), (77, .getfield 81, 80, 3), (80, .iload_n 1, 81, 1), (81, .iaload, 82, 1), (82, .bipush 16, 84, 2), (84, .ishr, 85, 1), (85, .bipush 100, 87, 2), (87, .irem, 88, 1), (88, .iload 4, 90, 2), (90, .if_icmp .ge 7, 93, 3), (93, .iconst 1, 94, 1), (94, .goto 4, 97, 3), (97, .iconst 0, 98, 1), (98, .ireturn, 99, 1)])
theorem ok10_doesRust : MOk m10_doesRust := ⟨by decide, mem_g 1780 (by decide +kernel) rfl, ini10, ⟨by decide, by decide⟩, by decide, by unfold MDe; decide +kernel⟩
def m10_passes : MD := (yX10_passes, cX10_passes, 6, none, [(0, .iconst 0, 1, 1), (1, .istore_n 3, 2, 1), (2, .iload_n 3, 3, 1), (3, .aload_n 0, 4, 1), (4, .getfield 13, 7, 3), (7, .iconst 2, 8, 1), (8, .iaload, 9, 1), (9, .if_icmp .ge 56, 12, 3), (12, .aload_n 0, 13, 1), (13, .getfield 43, 16, 3), (16, .iload_n 3, 17, 1), (17, .iaload, 18, 1), (18, .aload_n 0, 19, 1), (19, .getfield 78, 22, 3), (22, .iload_n 1, 23, 1), (23, .iaload, 24, 1), (24, .if_icmp .ne 35, 27, 3), (27, .aload_n 0, 28, 1), (28, .getfield 361, 31, 3), (31, .iconst 2, 32, 1), (32, .if_icmp .ne 16, 35, 3), (35, .aload_n 0, 36, 1), (36, .getfield 40, 39, 3), (39, .iload_n 3, 40, 1), (40, .iaload, 41, 1), (41, .aload_n 0, 42, 1), (42, .getfield 117, 45, 3), (45, .if_icmp .eq 14, 48, 3), (48, .aload_n 0, 49, 1), (49, .iload_n 1, 50, 1), (50, .aload_n 0, 51, 1), (51, .getfield 40, 54, 3), (54, .iload_n 3, 55, 1), (55, .iaload, 56, 1), (56, .invokevirtual 374, 59, 3), (59, .iinc 3 1, 62, 3), (62, .goto (-60), 65, 3), (65, .iconst 0, 66, 1), (66, .istore_n 3, 67, 1), (67, .iconst 0, 68, 1), (68, .istore 4, 70, 2), (70, .iload 4, 72, 2), (72, .aload_n 0, 73, 1), (73, .getfield 13, 76, 3), (76, .iconst 3, 77, 1), (77, .iaload, 78, 1), (78, .if_icmp .ge 34, 81, 3), (81, .aload_n 0, 82, 1), (82, .getfield 49, 85, 3), (85, .iload 4, 87, 2), (87, .iaload, 88, 1), (88, .aload_n 0, 89, 1), (89, .getfield 78, 92, 3), (92, .iload_n 1, 93, 1), (93, .iaload, 94, 1), (94, .if_icmp .ne 12, 97, 3), (97, .aload_n 0, 98, 1), (98, .iload_n 1, 99, 1), (99, .iload 4, 101, 2), (101, .iload_n 3, 102, 1), (102, .invokevirtual 377, 105, 3), (105, .istore_n 3, 106, 1), (106, .iinc 4 1, 109, 3), (109, .goto (-39), 112, 3), (112, .iconst 0, 113, 1), (113, .istore 4, 115, 2), (115, .iload 4, 117, 2), (117, .aload_n 0, 118, 1), (118, .getfield 13, 121, 3), (121, .iconst 1, 122, 1), (122, .iaload, 123, 1), (123, .if_icmp .ge 69, 126, 3), (126, .aload_n 0, 127, 1), (127, .getfield 361, 130, 3), (130, .iconst 5, 131, 1), (131, .if_icmp .eq 61, 134, 3), (134, .bipush 8, 136, 2), (136, .iload_n 1, 137, 1), (137, .imul, 138, 1), (138, .iload 4, 140, 2), (140, .iadd, 141, 1), (141, .istore 5, 143, 2), (143, .aload_n 0, 144, 1), (144, .getfield 105, 147, 3), (147, .iload 5, 149, 2), (149, .iaload, 150, 1), (150, .iconst 1, 151, 1), (151, .if_icmp .eq 6, 154, 3), (154, .goto 32, 157, 3), (157, .aload_n 0, 158, 1), (158, .getfield 108, 161, 3), (161, .iload 5, 163, 2), (163, .dup2, 164, 1), (164, .iaload, 165, 1), (165, .iconst 1, 166, 1), (166, .isub, 167, 1), (167, .iastore, 168, 1), (168, .aload_n 0, 169, 1), (169, .getfield 108, 172, 3), (172, .iload 5, 174, 2), (174, .iaload, 175, 1), (175, .ifCond .ne 11, 178, 3), (178, .aload_n 0, 179, 1), (179, .getfield 105, 182, 3), (182, .iload 5, 184, 2), (184, .iconst 2, 185, 1), (185, .iastore, 186, 1), (186, .iinc 4 1, 189, 3), (189, .goto (-74), 192, 3), (192, .iconst 0, 193, 1), (193, .istore 4, 195, 2), (195, .iload 4, 197, 2), (197, .aload_n 0, 198, 1), (198, .getfield 13, 201, 3), (201, .iconst 1, 202, 1), (202, .iaload, 203, 1), (203, .if_icmp .ge 69, 206, 3), (206, .aload_n 0, 207, 1), (207, .getfield 361, 210, 3), (210, .iconst 1, 211, 1), (211, .if_icmp .eq 61, 214, 3), (214, .aload_n 0, 215, 1), (215, .iload_n 1, 216, 1), (216, .iload 4, 218, 2), (218, .invokevirtual 333, 221, 3), (221, .ifCond .eq 45, 224, 3), (224, .aload_n 0, 225, 1), (225, .iload_n 1, 226, 1), (226, .iload 4, 228, 2), (228, .iload_n 2, 229, 1), (229, .invokevirtual 381, 232, 3), (232, .ifCond .eq 34, 235, 3), (235, .aload_n 0, 236, 1), (236, .getfield 102, 239, 3), (239, .bipush 8, 241, 2), (241, .iload_n 1, 242, 1), (242, .imul, 243, 1), (243, .iload 4, 245, 2), (245, .iadd, 246, 1), (246, .bipush 10, 248, 2), (248, .aload_n 0, 249, 1), (249, .getfield 102, 252, 3), (252, .bipush 8, 254, 2), (254, .iload_n 1, 255, 1), (255, .imul, 256, 1), (256, .iload 4, 258, 2), (258, .iadd, 259, 1), (259, .iaload, 260, 1), (260, .iconst 1, 261, 1), (261, .iadd, 262, 1), (262, .invokestatic 385, 265, 3), (265, .iastore, 266, 1), (266, .iinc 4 1, 269, 3), (269, .goto (-74), 272, 3), (272, .iconst 0, 273, 1), (273, .istore 4, 275, 2), (275, .iload 4, 277, 2), (277, .aload_n 0, 278, 1), (278, .getfield 13, 281, 3), (281, .iconst 1, 282, 1), (282, .iaload, 283, 1), (283, .if_icmp .ge 65, 286, 3), (286, .aload_n 0, 287, 1), (287, .iload_n 1, 288, 1), (288, .iload 4, 290, 2), (290, .invokevirtual 333, 293, 3), (293, .ifCond .eq 49, 296, 3), (296, .aload_n 0, 297, 1), (297, .getfield 34, 300, 3), (300, .iload 4, 302, 2), (302, .iaload, 303, 1), (303, .aload_n 0, 304, 1), (304, .getfield 78, 307, 3), (307, .iload_n 1, 308, 1), (308, .iaload, 309, 1), (309, .if_icmp .le 20, 312, 3), (312, .aload_n 0, 313, 1), (313, .getfield 102, 316, 3), (316, .bipush 8, 318, 2), (318, .iload_n 1, 319, 1), (319, .imul, 320, 1), (320, .iload 4, 322, 2), (322, .iadd, 323, 1), (323, .iaload, 324, 1), (324, .bipush 9, 326, 2), (326, .if_icmp .le 16, 329, 3), (329, .aload_n 0, 330, 1), (330, .getfield 105, 333, 3), (333, .bipush 8, 335, 2), (335, .iload_n 1, 336, 1), (336, .imul, 337, 1), (337, .iload 4, 339, 2), (339, .iadd, 340, 1), (340, .iconst 3, 341, 1), (341, .iastore, 342, 1), (342, .iinc 4 1, 345, 3), (345, .goto (-70), 348, 3), (348, .aload_n 0, 349, 1), (349, .getfield 78, 352, 3), (352, .iload_n 1, 353, 1), (353, .dup2, 354, 1), (354, .iaload, 355, 1), (355, .iconst 1, 356, 1), (356, .iadd, 357, 1), (357, .iastore, 358, 1), (358, .return_, 359, 1)])
theorem ok10_passes : MOk m10_passes := ⟨by decide, mem_g 1768 (by decide +kernel) rfl, ini10, ⟨by decide, by decide⟩, by decide, by unfold MDe; decide +kernel⟩
def m10_goesOn : MD := (yX10_goesOn, cX10_goesOn, 3, none, [(0, .iconst 0, 1, 1), (1, .istore_n 2, 2, 1), (2, .iload_n 2, 3, 1), (3, .iload_n 1, 4, 1), (4, .if_icmp .ge 15, 7, 3), (7, .aload_n 0, 8, 1), (8, .iconst 1, 9, 1), (9, .iconst 0, 10, 1), (10, .invokevirtual 387, 13, 3), (13, .iinc 2 1, 16, 3), (16, .goto (-14), 19, 3), (19, .return_, 20, 1)])
theorem ok10_goesOn : MOk m10_goesOn := ⟨by decide, mem_g 1795 (by decide +kernel) rfl, ini10, ⟨by decide, by decide⟩, by decide, by unfold MDe; decide +kernel⟩
def m10_runs : MD := (yX10_runs, cX10_runs, 2, none, [(0, .aload_n 0, 1, 1), (1, .iconst 1, 2, 1), (2, .iconst 0, 3, 1), (3, .invokevirtual 391, 6, 3), (6, .aload_n 0, 7, 1), (7, .iload_n 1, 8, 1), (8, .invokevirtual 394, 11, 3), (11, .return_, 12, 1)])
theorem ok10_runs : MOk m10_runs := ⟨by decide, mem_g 1791 (by decide +kernel) rfl, ini10, ⟨by decide, by decide⟩, by decide, by unfold MDe; decide +kernel⟩
def m10_tinsOf : MD := (yX10_tinsOf, cX10_tinsOf, 5, (some (Jvm.ClassFile.FieldType.int)), [(0, .iconst 0, 1, 1), (1, .istore_n 3, 2, 1), (2, .iconst 0, 3, 1), (3, .istore 4, 5, 2), (5, .iload 4, 7, 2), (7, .aload_n 0, 8, 1), (8, .getfield 13, 11, 3), (11, .iconst 1, 12, 1), (12, .iaload, 13, 1), (13, .if_icmp .ge 33, 16, 3), (16, .iload_n 3, 17, 1), (17, .aload_n 0, 18, 1), (18, .getfield 105, 21, 3), (21, .bipush 8, 23, 2), (23, .iload_n 1, 24, 1), (24, .imul, 25, 1), (25, .iload 4, 27, 2), (27, .iadd, 28, 1), (28, .iaload, 29, 1), (29, .iload_n 2, 30, 1), (30, .if_icmp .ne 7, 33, 3), (33, .iconst 1, 34, 1), (34, .goto 4, 37, 3), (37, .iconst 0, 38, 1), (38, .iadd, 39, 1), (39, .istore_n 3, 40, 1), (40, .iinc 4 1, 43, 3), (43, .goto (-38), 46, 3), (46, .iload_n 3, 47, 1), (47, .ireturn, 48, 1)])
theorem ok10_tinsOf : MOk m10_tinsOf := ⟨by decide, mem_g 1803 (by decide +kernel) rfl, ini10, ⟨by decide, by decide⟩, by decide, by unfold MDe; decide +kernel⟩
def m10_wantsOf : MD := (yX10_wantsOf, cX10_wantsOf, 5, (some (Jvm.ClassFile.FieldType.int)), [(0, .iconst 0, 1, 1), (1, .istore_n 3, 2, 1), (2, .iconst 0, 3, 1), (3, .istore 4, 5, 2), (5, .iload 4, 7, 2), (7, .aload_n 0, 8, 1), (8, .getfield 13, 11, 3), (11, .iconst 3, 12, 1), (12, .iaload, 13, 1), (13, .if_icmp .ge 33, 16, 3), (16, .iload_n 3, 17, 1), (17, .aload_n 0, 18, 1), (18, .getfield 114, 21, 3), (21, .bipush 8, 23, 2), (23, .iload_n 1, 24, 1), (24, .imul, 25, 1), (25, .iload 4, 27, 2), (27, .iadd, 28, 1), (28, .iaload, 29, 1), (29, .iload_n 2, 30, 1), (30, .if_icmp .ne 7, 33, 3), (33, .iconst 1, 34, 1), (34, .goto 4, 37, 3), (37, .iconst 0, 38, 1), (38, .iadd, 39, 1), (39, .istore_n 3, 40, 1), (40, .iinc 4 1, 43, 3), (43, .goto (-38), 46, 3), (46, .iload_n 3, 47, 1), (47, .ireturn, 48, 1)])
theorem ok10_wantsOf : MOk m10_wantsOf := ⟨by decide, mem_g 1799 (by decide +kernel) rfl, ini10, ⟨by decide, by decide⟩, by decide, by unfold MDe; decide +kernel⟩
def m10_tin : MD := (yX10_tin, cX10_tin, 3, (some (Jvm.ClassFile.FieldType.int)), [(0, .aload_n 0, 1, 1), (1, .aload_n 0, 2, 1), (2, .iload_n 1, 3, 1), (3, .invokevirtual 397, 6, 3), (6, .ifCond .ne 7, 9, 3), (9, .iconst 1, 10, 1), (10, .goto 18, 13, 3), (13, .iload_n 2, 14, 1), (14, .ifCond .lt 9, 17, 3), (17, .iload_n 2, 18, 1), (18, .bipush 6, 20, 2), (20, .if_icmp .le 7, 23, 3), (23, .iconst 2, 24, 1), (24, .goto 4, 27, 3), (27, .iconst 0, 28, 1), (28, .putfield 151, 31, 3), (31, .aload_n 0, 32, 1), (32, .getfield 151, 35, 3), (35, .ifCond .eq 5, 38, 3), (38, .iconst 0, 39, 1), (39, .ireturn, 40, 1), (40, .iload_n 2, 41, 1), (41, .tableswitch 81 0 5 #[39, 46, 53, 60, 67, 74], 80, 39), (80, .aload_n 0, 81, 1), (81, .getfield 28, 84, 3), (84, .iload_n 1, 85, 1), (85, .iaload, 86, 1), (86, .ireturn, 87, 1), (87, .aload_n 0, 88, 1), (88, .getfield 102, 91, 3), (91, .iload_n 1, 92, 1), (92, .iaload, 93, 1), (93, .ireturn, 94, 1), (94, .aload_n 0, 95, 1), (95, .getfield 34, 98, 3), (98, .iload_n 1, 99, 1), (99, .iaload, 100, 1), (100, .ireturn, 101, 1), (101, .aload_n 0, 102, 1), (102, .getfield 99, 105, 3), (105, .iload_n 1, 106, 1), (106, .iaload, 107, 1), (107, .ireturn, 108, 1), (108, .aload_n 0, 109, 1), (109, .getfield 105, 112, 3), (112, .iload_n 1, 113, 1), (113, .iaload, 114, 1), (114, .ireturn, 115, 1), (115, .aload_n 0, 116, 1), (116, .getfield 108, 119, 3), (119, .iload_n 1, 120, 1), (120, .iaload, 121, 1), (121, .ireturn, 122, 1), (122, .aload_n 0, 123, 1), (123, .getfield 111, 126, 3), (126, .iload_n 1, 127, 1), (127, .iaload, 128, 1), (128, .ireturn, 129, 1)])
theorem ok10_tin : MOk m10_tin := ⟨by decide, mem_g 1658 (by decide +kernel) rfl, ini10, ⟨by decide, by decide⟩, by decide, by unfold MDe; decide +kernel⟩
def m10_setOf : MD := (yX10_setOf, cX10_setOf, 5, (some (Jvm.ClassFile.FieldType.int)), [(0, .iconst 0, 1, 1), (1, .istore_n 3, 2, 1), (2, .iconst 0, 3, 1), (3, .istore 4, 5, 2), (5, .iload 4, 7, 2), (7, .aload_n 0, 8, 1), (8, .getfield 13, 11, 3), (11, .iconst 1, 12, 1), (12, .iaload, 13, 1), (13, .if_icmp .ge 42, 16, 3), (16, .iload_n 3, 17, 1), (17, .aload_n 0, 18, 1), (18, .getfield 28, 21, 3), (21, .iload 4, 23, 2), (23, .iaload, 24, 1), (24, .iload_n 1, 25, 1), (25, .if_icmp .ne 21, 28, 3), (28, .aload_n 0, 29, 1), (29, .getfield 105, 32, 3), (32, .iload 4, 34, 2), (34, .iaload, 35, 1), (35, .iload_n 2, 36, 1), (36, .if_icmp .ne 10, 39, 3), (39, .iconst 1, 40, 1), (40, .iload 4, 42, 2), (42, .ishl, 43, 1), (43, .goto 4, 46, 3), (46, .iconst 0, 47, 1), (47, .ior, 48, 1), (48, .istore_n 3, 49, 1), (49, .iinc 4 1, 52, 3), (52, .goto (-47), 55, 3), (55, .iload_n 3, 56, 1), (56, .ireturn, 57, 1)])
theorem ok10_setOf : MOk m10_setOf := ⟨by decide, mem_g 1674 (by decide +kernel) rfl, ini10, ⟨by decide, by decide⟩, by decide, by unfold MDe; decide +kernel⟩
def m10_kind : MD := (yX10_kind, cX10_kind, 3, (some (Jvm.ClassFile.FieldType.int)), [(0, .aload_n 0, 1, 1), (1, .iconst 0, 2, 1), (2, .putfield 151, 5, 3), (5, .aload_n 0, 6, 1), (6, .iload_n 1, 7, 1), (7, .invokevirtual 400, 10, 3), (10, .ifCond .ne 5, 13, 3), (13, .iconst (-1), 14, 1), (14, .ireturn, 15, 1), (15, .iload_n 2, 16, 1), (16, .tableswitch 60 0 3 #[32, 39, 46, 53], 48, 32), (48, .aload_n 0, 49, 1), (49, .getfield 19, 52, 3), (52, .iload_n 1, 53, 1), (53, .iaload, 54, 1), (54, .ireturn, 55, 1), (55, .aload_n 0, 56, 1), (56, .getfield 22, 59, 3), (59, .iload_n 1, 60, 1), (60, .iaload, 61, 1), (61, .ireturn, 62, 1), (62, .aload_n 0, 63, 1), (63, .iload_n 1, 64, 1), (64, .iconst 0, 65, 1), (65, .invokevirtual 403, 68, 3), (68, .ireturn, 69, 1), (69, .aload_n 0, 70, 1), (70, .iload_n 1, 71, 1), (71, .iconst 1, 72, 1), (72, .invokevirtual 403, 75, 3), (75, .ireturn, 76, 1), (76, .iconst (-1), 77, 1), (77, .ireturn, 78, 1)])
theorem ok10_kind : MOk m10_kind := ⟨by decide, mem_g 1666 (by decide +kernel) rfl, ini10, ⟨by decide, by decide⟩, by decide, by unfold MDe; decide +kernel⟩
def m10_want : MD := (yX10_want, cX10_want, 3, (some (Jvm.ClassFile.FieldType.int)), [(0, .aload_n 0, 1, 1), (1, .iconst 0, 2, 1), (2, .putfield 151, 5, 3), (5, .iload_n 1, 6, 1), (6, .ifCond .lt 13, 9, 3), (9, .iload_n 1, 10, 1), (10, .aload_n 0, 11, 1), (11, .getfield 13, 14, 3), (14, .iconst 3, 15, 1), (15, .iaload, 16, 1), (16, .if_icmp .lt 5, 19, 3), (19, .iconst (-1), 20, 1), (20, .ireturn, 21, 1), (21, .iload_n 2, 22, 1), (22, .ifCond .ne 12, 25, 3), (25, .aload_n 0, 26, 1), (26, .getfield 46, 29, 3), (29, .iload_n 1, 30, 1), (30, .iaload, 31, 1), (31, .goto 46, 34, 3), (34, .iload_n 2, 35, 1), (35, .iconst 1, 36, 1), (36, .if_icmp .ne 12, 39, 3), (39, .aload_n 0, 40, 1), (40, .getfield 49, 43, 3), (43, .iload_n 1, 44, 1), (44, .iaload, 45, 1), (45, .goto 32, 48, 3), (48, .iload_n 2, 49, 1), (49, .iconst 2, 50, 1), (50, .if_icmp .ne 12, 53, 3), (53, .aload_n 0, 54, 1), (54, .getfield 52, 57, 3), (57, .iload_n 1, 58, 1), (58, .iaload, 59, 1), (59, .goto 18, 62, 3), (62, .iload_n 2, 63, 1), (63, .iconst 3, 64, 1), (64, .if_icmp .ne 12, 67, 3), (67, .aload_n 0, 68, 1), (68, .getfield 114, 71, 3), (71, .iload_n 1, 72, 1), (72, .iaload, 73, 1), (73, .goto 4, 76, 3), (76, .iconst (-1), 77, 1), (77, .ireturn, 78, 1)])
theorem ok10_want : MOk m10_want := ⟨by decide, mem_g 1678 (by decide +kernel) rfl, ini10, ⟨by decide, by decide⟩, by decide, by unfold MDe; decide +kernel⟩
def m10_top : MD := (yX10_top, cX10_top, 3, (some (Jvm.ClassFile.FieldType.int)), [(0, .aload_n 0, 1, 1), (1, .iconst 0, 2, 1), (2, .putfield 151, 5, 3), (5, .iload_n 1, 6, 1), (6, .invokestatic 406, 9, 3), (9, .ifCond .ne 5, 12, 3), (12, .iconst (-1), 13, 1), (13, .ireturn, 14, 1), (14, .iconst 0, 15, 1), (15, .istore_n 2, 16, 1), (16, .iload_n 2, 17, 1), (17, .aload_n 0, 18, 1), (18, .getfield 13, 21, 3), (21, .iconst 1, 22, 1), (22, .iaload, 23, 1), (23, .if_icmp .ge 30, 26, 3), (26, .aload_n 0, 27, 1), (27, .getfield 99, 30, 3), (30, .iload_n 2, 31, 1), (31, .iaload, 32, 1), (32, .iload_n 1, 33, 1), (33, .if_icmp .ne 14, 36, 3), (36, .aload_n 0, 37, 1), (37, .iconst 0, 38, 1), (38, .iload_n 2, 39, 1), (39, .invokevirtual 364, 42, 3), (42, .ifCond .eq 5, 45, 3), (45, .iload_n 2, 46, 1), (46, .ireturn, 47, 1), (47, .iinc 2 1, 50, 3), (50, .goto (-34), 53, 3), (53, .bipush (-2), 55, 2), (55, .ireturn, 56, 1)])
theorem ok10_top : MOk m10_top := ⟨by decide, mem_g 1682 (by decide +kernel) rfl, ini10, ⟨by decide, by decide⟩, by decide, by unfold MDe; decide +kernel⟩
def m10_law : MD := (yX10_law, cX10_law, 4, (some (Jvm.ClassFile.FieldType.long)), [(0, .aload_n 0, 1, 1), (1, .iconst 0, 2, 1), (2, .putfield 151, 5, 3), (5, .iload_n 1, 6, 1), (6, .ifCond .lt 43, 9, 3), (9, .iload_n 1, 10, 1), (10, .iconst 2, 11, 1), (11, .if_icmp .gt 38, 14, 3), (14, .aload_n 0, 15, 1), (15, .iload_n 1, 16, 1), (16, .invokevirtual 340, 19, 3), (19, .ifCond .eq 30, 22, 3), (22, .aload_n 0, 23, 1), (23, .iload_n 2, 24, 1), (24, .invokevirtual 397, 27, 3), (27, .ifCond .eq 22, 30, 3), (30, .iload_n 1, 31, 1), (31, .iconst 1, 32, 1), (32, .if_icmp .ne 21, 35, 3), (35, .iload_n 3, 36, 1), (36, .ifCond .lt 13, 39, 3), (39, .iload_n 3, 40, 1), (40, .aload_n 0, 41, 1), (41, .getfield 13, 44, 3), (44, .iconst 3, 45, 1), (45, .iaload, 46, 1), (46, .if_icmp .lt 7, 49, 3), (49, .ldc2_w 411, 52, 3), (52, .lreturn, 53, 1), (53, .aload_n 0, 54, 1), (54, .iconst 0, 55, 1), (55, .iload_n 2, 56, 1), (56, .iload_n 1, 57, 1), (57, .iconst 1, 58, 1), (58, .if_icmp .ne 12, 61, 3), (61, .aload_n 0, 62, 1), (62, .getfield 52, 65, 3), (65, .iload_n 3, 66, 1), (66, .iaload, 67, 1), (67, .goto 4, 70, 3), (70, .iconst 0, 71, 1), (71, .invokevirtual 353, 74, 3), (74, .aload_n 0, 75, 1), (75, .iload_n 1, 76, 1), (76, .invokevirtual 343, 79, 3), (79, .ifCond .eq 12, 82, 3), (82, .aload_n 0, 83, 1), (83, .getfield 75, 86, 3), (86, .iconst 0, 87, 1), (87, .laload, 88, 1), (88, .goto 6, 91, 3), (91, .ldc2_w 411, 94, 3), (94, .lreturn, 95, 1)])
theorem ok10_law : MOk m10_law := ⟨by decide, mem_g 1701 (by decide +kernel) rfl, ini10, ⟨by decide, by decide⟩, by decide, by unfold MDe; decide +kernel⟩
def m10_keepNow : MD := (yX10_keepNow, cX10_keepNow, 2, none, [(0, .aload_n 0, 1, 1), (1, .getfield 307, 4, 3), (4, .bipush 20, 6, 2), (6, .if_icmp .ne 39, 9, 3), (9, .iconst 1, 10, 1), (10, .istore_n 1, 11, 1), (11, .iload_n 1, 12, 1), (12, .bipush 20, 14, 2), (14, .if_icmp .ge 21, 17, 3), (17, .aload_n 0, 18, 1), (18, .iconst 3, 19, 1), (19, .iload_n 1, 20, 1), (20, .iadd, 21, 1), (21, .iconst 1, 22, 1), (22, .isub, 23, 1), (23, .iconst 3, 24, 1), (24, .iload_n 1, 25, 1), (25, .iadd, 26, 1), (26, .invokevirtual 391, 29, 3), (29, .iinc 1 1, 32, 3), (32, .goto (-21), 35, 3), (35, .aload_n 0, 36, 1), (36, .dup, 37, 1), (37, .getfield 307, 40, 3), (40, .iconst 1, 41, 1), (41, .isub, 42, 1), (42, .putfield 307, 45, 3), (45, .aload_n 0, 46, 1), (46, .iconst 3, 47, 1), (47, .aload_n 0, 48, 1), (48, .getfield 307, 51, 3), (51, .iadd, 52, 1), (52, .iconst 0, 53, 1), (53, .invokevirtual 391, 56, 3), (56, .aload_n 0, 57, 1), (57, .dup, 58, 1), (58, .getfield 307, 61, 3), (61, .iconst 1, 62, 1), (62, .iadd, 63, 1), (63, .putfield 307, 66, 3), (66, .return_, 67, 1)])
theorem ok10_keepNow : MOk m10_keepNow := ⟨by decide, mem_g 1734 (by decide +kernel) rfl, ini10, ⟨by decide, by decide⟩, by decide, by unfold MDe; decide +kernel⟩
def m10_open : MD := (yX10_open, cX10_open, 2, (some (Jvm.ClassFile.FieldType.int)), [(0, .aload_n 0, 1, 1), (1, .iconst 0, 2, 1), (2, .putfield 151, 5, 3), (5, .aload_n 0, 6, 1), (6, .iload_n 1, 7, 1), (7, .invokevirtual 397, 10, 3), (10, .ifCond .ne 5, 13, 3), (13, .iconst (-1), 14, 1), (14, .ireturn, 15, 1), (15, .aload_n 0, 16, 1), (16, .iconst 0, 17, 1), (17, .iload_n 1, 18, 1), (18, .invokevirtual 364, 21, 3), (21, .ifCond .eq 12, 24, 3), (24, .aload_n 0, 25, 1), (25, .getfield 84, 28, 3), (28, .iconst 0, 29, 1), (29, .iaload, 30, 1), (30, .ifCond .ne 6, 33, 3), (33, .bipush (-2), 35, 2), (35, .ireturn, 36, 1), (36, .aload_n 0, 37, 1), (37, .invokevirtual 413, 40, 3), (40, .aload_n 0, 41, 1), (41, .iconst 0, 42, 1), (42, .iload_n 1, 43, 1), (43, .invokevirtual 367, 46, 3), (46, .aload_n 0, 47, 1), (47, .getfield 108, 50, 3), (50, .iload_n 1, 51, 1), (51, .iaload, 52, 1), (52, .ireturn, 53, 1)])
theorem ok10_open : MOk m10_open := ⟨by decide, mem_g 1730 (by decide +kernel) rfl, ini10, ⟨by decide, by decide⟩, by decide, by unfold MDe; decide +kernel⟩
def m10_put : MD := (yX10_put, cX10_put, 3, (some (Jvm.ClassFile.FieldType.boolean)), [(0, .aload_n 0, 1, 1), (1, .iconst 0, 2, 1), (2, .putfield 151, 5, 3), (5, .aload_n 0, 6, 1), (6, .iload_n 1, 7, 1), (7, .invokevirtual 397, 10, 3), (10, .ifCond .eq 29, 13, 3), (13, .iload_n 2, 14, 1), (14, .invokestatic 406, 17, 3), (17, .ifCond .eq 22, 20, 3), (20, .aload_n 0, 21, 1), (21, .iconst 0, 22, 1), (22, .iload_n 1, 23, 1), (23, .invokevirtual 364, 26, 3), (26, .ifCond .eq 13, 29, 3), (29, .aload_n 0, 30, 1), (30, .getfield 99, 33, 3), (33, .iload_n 1, 34, 1), (34, .iaload, 35, 1), (35, .iload_n 2, 36, 1), (36, .if_icmp .ne 5, 39, 3), (39, .iconst 0, 40, 1), (40, .ireturn, 41, 1), (41, .aload_n 0, 42, 1), (42, .invokevirtual 413, 45, 3), (45, .aload_n 0, 46, 1), (46, .getfield 99, 49, 3), (49, .iload_n 1, 50, 1), (50, .iload_n 2, 51, 1), (51, .iastore, 52, 1), (52, .aload_n 0, 53, 1), (53, .getfield 96, 56, 3), (56, .iload_n 1, 57, 1), (57, .aload_n 0, 58, 1), (58, .getfield 93, 61, 3), (61, .iconst 0, 62, 1), (62, .iaload, 63, 1), (63, .iastore, 64, 1), (64, .aload_n 0, 65, 1), (65, .getfield 93, 68, 3), (68, .iconst 0, 69, 1), (69, .dup2, 70, 1), (70, .iaload, 71, 1), (71, .iconst 1, 72, 1), (72, .iadd, 73, 1), (73, .iastore, 74, 1), (74, .iconst 1, 75, 1), (75, .ireturn, 76, 1)])
theorem ok10_put : MOk m10_put := ⟨by decide, mem_g 1752 (by decide +kernel) rfl, ini10, ⟨by decide, by decide⟩, by decide, by unfold MDe; decide +kernel⟩
def m10_dent : MD := (yX10_dent, cX10_dent, 2, (some (Jvm.ClassFile.FieldType.int)), [(0, .aload_n 0, 1, 1), (1, .iconst 0, 2, 1), (2, .putfield 151, 5, 3), (5, .aload_n 0, 6, 1), (6, .iload_n 1, 7, 1), (7, .invokevirtual 397, 10, 3), (10, .ifCond .eq 23, 13, 3), (13, .aload_n 0, 14, 1), (14, .iconst 0, 15, 1), (15, .iload_n 1, 16, 1), (16, .invokevirtual 333, 19, 3), (19, .ifCond .eq 14, 22, 3), (22, .aload_n 0, 23, 1), (23, .getfield 102, 26, 3), (26, .iload_n 1, 27, 1), (27, .iaload, 28, 1), (28, .bipush 10, 30, 2), (30, .if_icmp .ne 5, 33, 3), (33, .iconst (-1), 34, 1), (34, .ireturn, 35, 1), (35, .aload_n 0, 36, 1), (36, .invokevirtual 413, 39, 3), (39, .aload_n 0, 40, 1), (40, .getfield 102, 43, 3), (43, .iload_n 1, 44, 1), (44, .dup2, 45, 1), (45, .iaload, 46, 1), (46, .iconst 1, 47, 1), (47, .iadd, 48, 1), (48, .iastore, 49, 1), (49, .aload_n 0, 50, 1), (50, .getfield 102, 53, 3), (53, .iload_n 1, 54, 1), (54, .iaload, 55, 1), (55, .ireturn, 56, 1)])
theorem ok10_dent : MOk m10_dent := ⟨by decide, mem_g 1756 (by decide +kernel) rfl, ini10, ⟨by decide, by decide⟩, by decide, by unfold MDe; decide +kernel⟩
def m10_find : MD := (yX10_find, cX10_find, 2, (some (Jvm.ClassFile.FieldType.int)), [(0, .aload_n 0, 1, 1), (1, .iconst 0, 2, 1), (2, .putfield 151, 5, 3), (5, .iload_n 1, 6, 1), (6, .iconst 1, 7, 1), (7, .if_icmp .lt 22, 10, 3), (10, .iload_n 1, 11, 1), (11, .bipush 9, 13, 2), (13, .if_icmp .gt 16, 16, 3), (16, .aload_n 0, 17, 1), (17, .getfield 84, 20, 3), (20, .iconst 0, 21, 1), (21, .iaload, 22, 1), (22, .iload_n 1, 23, 1), (23, .iadd, 24, 1), (24, .bipush 99, 26, 2), (26, .if_icmp .le 5, 29, 3), (29, .iconst (-1), 30, 1), (30, .ireturn, 31, 1), (31, .aload_n 0, 32, 1), (32, .invokevirtual 413, 35, 3), (35, .aload_n 0, 36, 1), (36, .getfield 84, 39, 3), (39, .iconst 0, 40, 1), (40, .dup2, 41, 1), (41, .iaload, 42, 1), (42, .iload_n 1, 43, 1), (43, .iadd, 44, 1), (44, .iastore, 45, 1), (45, .aload_n 0, 46, 1), (46, .getfield 84, 49, 3), (49, .iconst 0, 50, 1), (50, .iaload, 51, 1), (51, .ireturn, 52, 1)])
theorem ok10_find : MOk m10_find := ⟨by decide, mem_g 1760 (by decide +kernel) rfl, ini10, ⟨by decide, by decide⟩, by decide, by unfold MDe; decide +kernel⟩
def m10_go : MD := (yX10_go, cX10_go, 3, (some (Jvm.ClassFile.FieldType.int)), [(0, .aload_n 0, 1, 1), (1, .iconst 0, 2, 1), (2, .putfield 151, 5, 3), (5, .iload_n 1, 6, 1), (6, .ifCond .lt 23, 9, 3), (9, .iload_n 1, 10, 1), (10, .bipush 99, 12, 2), (12, .if_icmp .gt 17, 15, 3), (15, .aload_n 0, 16, 1), (16, .getfield 78, 19, 3), (19, .iconst 0, 20, 1), (20, .iaload, 21, 1), (21, .iload_n 1, 22, 1), (22, .iadd, 23, 1), (23, .sipush 9900, 26, 3), (26, .if_icmp .le 5, 29, 3), (29, .iconst (-1), 30, 1), (30, .ireturn, 31, 1), (31, .iload_n 1, 32, 1), (32, .ifCond .le 8, 35, 3), (35, .aload_n 0, 36, 1), (36, .iconst 0, 37, 1), (37, .putfield 307, 40, 3), (40, .iconst 0, 41, 1), (41, .istore_n 2, 42, 1), (42, .iload_n 2, 43, 1), (43, .iload_n 1, 44, 1), (44, .if_icmp .ge 15, 47, 3), (47, .aload_n 0, 48, 1), (48, .iconst 0, 49, 1), (49, .iconst 1, 50, 1), (50, .invokevirtual 387, 53, 3), (53, .iinc 2 1, 56, 3), (56, .goto (-14), 59, 3), (59, .aload_n 0, 60, 1), (60, .getfield 78, 63, 3), (63, .iconst 0, 64, 1), (64, .iaload, 65, 1), (65, .ireturn, 66, 1)])
theorem ok10_go : MOk m10_go := ⟨by decide, mem_g 1764 (by decide +kernel) rfl, ini10, ⟨by decide, by decide⟩, by decide, by unfold MDe; decide +kernel⟩
def m10_ahead : MD := (yX10_ahead, cX10_ahead, 3, (some (Jvm.ClassFile.FieldType.int)), [(0, .aload_n 0, 1, 1), (1, .iconst 0, 2, 1), (2, .putfield 151, 5, 3), (5, .iload_n 1, 6, 1), (6, .ifCond .lt 18, 9, 3), (9, .iload_n 1, 10, 1), (10, .bipush 99, 12, 2), (12, .if_icmp .gt 12, 15, 3), (15, .iload_n 2, 16, 1), (16, .ifCond .lt 8, 19, 3), (19, .iload_n 2, 20, 1), (20, .iconst 4, 21, 1), (21, .if_icmp .le 5, 24, 3), (24, .iconst (-1), 25, 1), (25, .ireturn, 26, 1), (26, .aload_n 0, 27, 1), (27, .iload_n 1, 28, 1), (28, .invokevirtual 416, 31, 3), (31, .iload_n 2, 32, 1), (32, .tableswitch 88 0 3 #[32, 46, 60, 74], 64, 32), (64, .aload_n 0, 65, 1), (65, .getfield 87, 68, 3), (68, .iconst 1, 69, 1), (69, .iaload, 70, 1), (70, .aload_n 0, 71, 1), (71, .getfield 87, 74, 3), (74, .iconst 0, 75, 1), (75, .iaload, 76, 1), (76, .isub, 77, 1), (77, .ireturn, 78, 1), (78, .aload_n 0, 79, 1), (79, .iconst 1, 80, 1), (80, .iconst 1, 81, 1), (81, .invokevirtual 419, 84, 3), (84, .aload_n 0, 85, 1), (85, .iconst 0, 86, 1), (86, .iconst 1, 87, 1), (87, .invokevirtual 419, 90, 3), (90, .isub, 91, 1), (91, .ireturn, 92, 1), (92, .aload_n 0, 93, 1), (93, .iconst 1, 94, 1), (94, .iconst 2, 95, 1), (95, .invokevirtual 419, 98, 3), (98, .aload_n 0, 99, 1), (99, .iconst 0, 100, 1), (100, .iconst 2, 101, 1), (101, .invokevirtual 419, 104, 3), (104, .isub, 105, 1), (105, .ireturn, 106, 1), (106, .aload_n 0, 107, 1), (107, .iconst 1, 108, 1), (108, .iconst 3, 109, 1), (109, .invokevirtual 422, 112, 3), (112, .aload_n 0, 113, 1), (113, .iconst 0, 114, 1), (114, .iconst 3, 115, 1), (115, .invokevirtual 422, 118, 3), (118, .isub, 119, 1), (119, .ireturn, 120, 1), (120, .aload_n 0, 121, 1), (121, .getfield 84, 124, 3), (124, .iconst 1, 125, 1), (125, .iaload, 126, 1), (126, .ireturn, 127, 1)])
theorem ok10_ahead : MOk m10_ahead := ⟨by decide, mem_g 1787 (by decide +kernel) rfl, ini10, ⟨by decide, by decide⟩, by decide, by unfold MDe; decide +kernel⟩
def m10_above : MD := (yX10_above, cX10_above, 2, (some (Jvm.ClassFile.FieldType.int)), [(0, .aload_n 0, 1, 1), (1, .iconst 0, 2, 1), (2, .putfield 151, 5, 3), (5, .aload_n 0, 6, 1), (6, .iload_n 1, 7, 1), (7, .invokevirtual 397, 10, 3), (10, .ifCond .ne 5, 13, 3), (13, .iconst (-1), 14, 1), (14, .ireturn, 15, 1), (15, .aload_n 0, 16, 1), (16, .iconst 0, 17, 1), (17, .iload_n 1, 18, 1), (18, .invokevirtual 333, 21, 3), (21, .ifCond .eq 12, 24, 3), (24, .aload_n 0, 25, 1), (25, .iconst 0, 26, 1), (26, .iload_n 1, 27, 1), (27, .invokevirtual 337, 30, 3), (30, .goto 5, 33, 3), (33, .bipush (-2), 35, 2), (35, .ireturn, 36, 1)])
theorem ok10_above : MOk m10_above := ⟨by decide, mem_g 1807 (by decide +kernel) rfl, ini10, ⟨by decide, by decide⟩, by decide, by unfold MDe; decide +kernel⟩
def m10_blows : MD := (yX10_blows, cX10_blows, 3, (some (Jvm.ClassFile.FieldType.int)), [(0, .aload_n 0, 1, 1), (1, .iconst 0, 2, 1), (2, .putfield 151, 5, 3), (5, .aload_n 0, 6, 1), (6, .iload_n 1, 7, 1), (7, .invokevirtual 397, 10, 3), (10, .ifCond .ne 5, 13, 3), (13, .iconst (-1), 14, 1), (14, .ireturn, 15, 1), (15, .aload_n 0, 16, 1), (16, .iconst 1, 17, 1), (17, .iconst 0, 18, 1), (18, .invokevirtual 391, 21, 3), (21, .iconst 0, 22, 1), (22, .istore_n 2, 23, 1), (23, .iload_n 2, 24, 1), (24, .bipush 99, 26, 2), (26, .if_icmp .gt 30, 29, 3), (29, .aload_n 0, 30, 1), (30, .getfield 105, 33, 3), (33, .bipush 8, 35, 2), (35, .iload_n 1, 36, 1), (36, .iadd, 37, 1), (37, .iaload, 38, 1), (38, .iconst 3, 39, 1), (39, .if_icmp .ne 5, 42, 3), (42, .iload_n 2, 43, 1), (43, .ireturn, 44, 1), (44, .aload_n 0, 45, 1), (45, .iconst 1, 46, 1), (46, .iconst 0, 47, 1), (47, .invokevirtual 387, 50, 3), (50, .iinc 2 1, 53, 3), (53, .goto (-30), 56, 3), (56, .bipush (-2), 58, 2), (58, .ireturn, 59, 1)])
theorem ok10_blows : MOk m10_blows := ⟨by decide, mem_g 1811 (by decide +kernel) rfl, ini10, ⟨by decide, by decide⟩, by decide, by unfold MDe; decide +kernel⟩
def m10_rows : MD := (yX10_rows, cX10_rows, 5, none, [(0, .iload_n 1, 1, 1), (1, .aload_n 0, 2, 1), (2, .getfield 425, 5, 3), (5, .if_icmp .ge 56, 8, 3), (8, .iconst 0, 9, 1), (9, .istore_n 3, 10, 1), (10, .iload_n 3, 11, 1), (11, .aload_n 0, 12, 1), (12, .getfield 425, 15, 3), (15, .if_icmp .ge 45, 18, 3), (18, .iload_n 2, 19, 1), (19, .iload_n 3, 20, 1), (20, .ishr, 21, 1), (21, .iconst 1, 22, 1), (22, .iand, 23, 1), (23, .iconst 1, 24, 1), (24, .if_icmp .ne 6, 27, 3), (27, .goto 27, 30, 3), (30, .aload_n 0, 31, 1), (31, .getfield 123, 34, 3), (34, .iload_n 1, 35, 1), (35, .aload_n 0, 36, 1), (36, .getfield 120, 39, 3), (39, .iload_n 3, 40, 1), (40, .iaload, 41, 1), (41, .iastore, 42, 1), (42, .aload_n 0, 43, 1), (43, .iload_n 1, 44, 1), (44, .iconst 1, 45, 1), (45, .iadd, 46, 1), (46, .iload_n 2, 47, 1), (47, .iconst 1, 48, 1), (48, .iload_n 3, 49, 1), (49, .ishl, 50, 1), (50, .ior, 51, 1), (51, .invokevirtual 428, 54, 3), (54, .iinc 3 1, 57, 3), (57, .goto (-47), 60, 3), (60, .return_, 61, 1), (61, .aload_n 0, 62, 1), (62, .iconst 1, 63, 1), (63, .iconst 0, 64, 1), (64, .invokevirtual 391, 67, 3), (67, .iconst 0, 68, 1), (68, .istore_n 3, 69, 1), (69, .iload_n 3, 70, 1), (70, .bipush 20, 72, 2), (72, .if_icmp .ge 34, 75, 3), (75, .iload_n 3, 76, 1), (76, .aload_n 0, 77, 1), (77, .getfield 425, 80, 3), (80, .if_icmp .ge 14, 83, 3), (83, .aload_n 0, 84, 1), (84, .iconst 1, 85, 1), (85, .aload_n 0, 86, 1), (86, .getfield 123, 89, 3), (89, .iload_n 3, 90, 1), (90, .iaload, 91, 1), (91, .invokevirtual 367, 94, 3), (94, .aload_n 0, 95, 1), (95, .iconst 1, 96, 1), (96, .iconst 0, 97, 1), (97, .invokevirtual 387, 100, 3), (100, .iinc 3 1, 103, 3), (103, .goto (-34), 106, 3), (106, .aload_n 0, 107, 1), (107, .getfield 87, 110, 3), (110, .iconst 1, 111, 1), (111, .iaload, 112, 1), (112, .aload_n 0, 113, 1), (113, .getfield 87, 116, 3), (116, .iconst 0, 117, 1), (117, .iaload, 118, 1), (118, .isub, 119, 1), (119, .istore_n 3, 120, 1), (120, .iload_n 3, 121, 1), (121, .aload_n 0, 122, 1), (122, .getfield 431, 125, 3), (125, .if_icmp .gt 4, 128, 3), (128, .return_, 129, 1), (129, .aload_n 0, 130, 1), (130, .iload_n 3, 131, 1), (131, .putfield 431, 134, 3), (134, .iconst 0, 135, 1), (135, .istore 4, 137, 2), (137, .iload 4, 139, 2), (139, .aload_n 0, 140, 1), (140, .getfield 425, 143, 3), (143, .if_icmp .ge 23, 146, 3), (146, .aload_n 0, 147, 1), (147, .getfield 126, 150, 3), (150, .iload 4, 152, 2), (152, .aload_n 0, 153, 1), (153, .getfield 123, 156, 3), (156, .iload 4, 158, 2), (158, .iaload, 159, 1), (159, .iastore, 160, 1), (160, .iinc 4 1, 163, 3), (163, .goto (-26), 166, 3), (166, .return_, 167, 1)])
theorem ok10_rows : MOk m10_rows := ⟨by decide, mem_g 1819 (by decide +kernel) rfl, ini10, ⟨by decide, by decide⟩, by decide, by unfold MDe; decide +kernel⟩
def m10_order : MD := (yX10_order, cX10_order, 3, (some (Jvm.ClassFile.FieldType.int)), [(0, .aload_n 0, 1, 1), (1, .iconst 0, 2, 1), (2, .putfield 151, 5, 3), (5, .iload_n 1, 6, 1), (6, .ifCond .lt 8, 9, 3), (9, .iload_n 1, 10, 1), (10, .iconst 4, 11, 1), (11, .if_icmp .le 5, 14, 3), (14, .iconst (-1), 15, 1), (15, .ireturn, 16, 1), (16, .aload_n 0, 17, 1), (17, .iconst 0, 18, 1), (18, .putfield 425, 21, 3), (21, .iconst 0, 22, 1), (22, .istore_n 2, 23, 1), (23, .iload_n 2, 24, 1), (24, .aload_n 0, 25, 1), (25, .getfield 13, 28, 3), (28, .iconst 1, 29, 1), (29, .iaload, 30, 1), (30, .if_icmp .ge 49, 33, 3), (33, .aload_n 0, 34, 1), (34, .getfield 425, 37, 3), (37, .iconst 4, 38, 1), (38, .if_icmp .ge 41, 41, 3), (41, .aload_n 0, 42, 1), (42, .iconst 0, 43, 1), (43, .iload_n 2, 44, 1), (44, .invokevirtual 333, 47, 3), (47, .ifCond .ne 6, 50, 3), (50, .goto 23, 53, 3), (53, .aload_n 0, 54, 1), (54, .getfield 120, 57, 3), (57, .aload_n 0, 58, 1), (58, .getfield 425, 61, 3), (61, .iload_n 2, 62, 1), (62, .iastore, 63, 1), (63, .aload_n 0, 64, 1), (64, .dup, 65, 1), (65, .getfield 425, 68, 3), (68, .iconst 1, 69, 1), (69, .iadd, 70, 1), (70, .putfield 425, 73, 3), (73, .iinc 2 1, 76, 3), (76, .goto (-53), 79, 3), (79, .aload_n 0, 80, 1), (80, .iconst (-1), 81, 1), (81, .putfield 431, 84, 3), (84, .aload_n 0, 85, 1), (85, .iconst 0, 86, 1), (86, .iconst 0, 87, 1), (87, .invokevirtual 428, 90, 3), (90, .iload_n 1, 91, 1), (91, .iconst 4, 92, 1), (92, .if_icmp .ne 10, 95, 3), (95, .aload_n 0, 96, 1), (96, .getfield 431, 99, 3), (99, .goto 22, 102, 3), (102, .iload_n 1, 103, 1), (103, .aload_n 0, 104, 1), (104, .getfield 425, 107, 3), (107, .if_icmp .ge 12, 110, 3), (110, .aload_n 0, 111, 1), (111, .getfield 126, 114, 3), (114, .iload_n 1, 115, 1), (115, .iaload, 116, 1), (116, .goto 5, 119, 3), (119, .bipush (-2), 121, 2), (121, .ireturn, 122, 1)])
theorem ok10_order : MOk m10_order := ⟨by decide, mem_g 1815 (by decide +kernel) rfl, ini10, ⟨by decide, by decide⟩, by decide, by unfold MDe; decide +kernel⟩
def m10_best : MD := (yX10_best, cX10_best, 7, (some (Jvm.ClassFile.FieldType.int)), [(0, .aload_n 0, 1, 1), (1, .iconst 0, 2, 1), (2, .putfield 151, 5, 3), (5, .aload_n 0, 6, 1), (6, .iload_n 1, 7, 1), (7, .invokevirtual 397, 10, 3), (10, .ifCond .eq 12, 13, 3), (13, .iload_n 2, 14, 1), (14, .ifCond .lt 8, 17, 3), (17, .iload_n 2, 18, 1), (18, .iconst 1, 19, 1), (19, .if_icmp .le 5, 22, 3), (22, .iconst (-1), 23, 1), (23, .ireturn, 24, 1), (24, .aload_n 0, 25, 1), (25, .iconst 0, 26, 1), (26, .iload_n 1, 27, 1), (27, .invokevirtual 333, 30, 3), (30, .ifCond .ne 6, 33, 3), (33, .bipush (-2), 35, 2), (35, .ireturn, 36, 1), (36, .iconst (-1), 37, 1), (37, .istore_n 3, 38, 1), (38, .iconst (-1), 39, 1), (39, .istore 4, 41, 2), (41, .iconst 0, 42, 1), (42, .istore 5, 44, 2), (44, .iload 5, 46, 2), (46, .bipush 20, 48, 2), (48, .if_icmp .gt 68, 51, 3), (51, .aload_n 0, 52, 1), (52, .iconst 1, 53, 1), (53, .iconst 0, 54, 1), (54, .invokevirtual 391, 57, 3), (57, .aload_n 0, 58, 1), (58, .iload 5, 60, 2), (60, .invokevirtual 394, 63, 3), (63, .aload_n 0, 64, 1), (64, .iconst 1, 65, 1), (65, .iload_n 1, 66, 1), (66, .invokevirtual 367, 69, 3), (69, .aload_n 0, 70, 1), (70, .bipush 30, 72, 2), (72, .iload 5, 74, 2), (74, .isub, 75, 1), (75, .invokevirtual 394, 78, 3), (78, .aload_n 0, 79, 1), (79, .getfield 87, 82, 3), (82, .iconst 1, 83, 1), (83, .iaload, 84, 1), (84, .aload_n 0, 85, 1), (85, .getfield 87, 88, 3), (88, .iconst 0, 89, 1), (89, .iaload, 90, 1), (90, .isub, 91, 1), (91, .istore 6, 93, 2), (93, .iload 6, 95, 2), (95, .iload 4, 97, 2), (97, .if_icmp .gt 6, 100, 3), (100, .goto 10, 103, 3), (103, .iload 5, 105, 2), (105, .istore_n 3, 106, 1), (106, .iload 6, 108, 2), (108, .istore 4, 110, 2), (110, .iinc 5 1, 113, 3), (113, .goto (-69), 116, 3), (116, .iload_n 2, 117, 1), (117, .ifCond .ne 7, 120, 3), (120, .iload_n 3, 121, 1), (121, .goto 5, 124, 3), (124, .iload 4, 126, 2), (126, .ireturn, 127, 1)])
theorem ok10_best : MOk m10_best := ⟨by decide, mem_g 1823 (by decide +kernel) rfl, ini10, ⟨by decide, by decide⟩, by decide, by unfold MDe; decide +kernel⟩
def m10_isTidy : MD := (yX10_isTidy, cX10_isTidy, 6, (some (Jvm.ClassFile.FieldType.boolean)), [(0, .bipush 100, 2, 2), (2, .istore_n 3, 3, 1), (3, .iconst 0, 4, 1), (4, .istore 4, 6, 2), (6, .iload 4, 8, 2), (8, .aload_n 0, 9, 1), (9, .getfield 13, 12, 3), (12, .iconst 1, 13, 1), (13, .iaload, 14, 1), (14, .if_icmp .ge 31, 17, 3), (17, .iload_n 2, 18, 1), (18, .iload 4, 20, 2), (20, .ishr, 21, 1), (21, .iconst 1, 22, 1), (22, .iand, 23, 1), (23, .iconst 1, 24, 1), (24, .if_icmp .ne 15, 27, 3), (27, .iload_n 3, 28, 1), (28, .aload_n 0, 29, 1), (29, .getfield 34, 32, 3), (32, .iload 4, 34, 2), (34, .iaload, 35, 1), (35, .invokestatic 385, 38, 3), (38, .istore_n 3, 39, 1), (39, .iinc 4 1, 42, 3), (42, .goto (-36), 45, 3), (45, .iconst 0, 46, 1), (46, .istore 4, 48, 2), (48, .iload 4, 50, 2), (50, .aload_n 0, 51, 1), (51, .getfield 13, 54, 3), (54, .iconst 1, 55, 1), (55, .iaload, 56, 1), (56, .if_icmp .ge 131, 59, 3), (59, .aload_n 0, 60, 1), (60, .getfield 99, 63, 3), (63, .iload 4, 65, 2), (65, .iaload, 66, 1), (66, .iload_n 1, 67, 1), (67, .if_icmp .ne 114, 70, 3), (70, .aload_n 0, 71, 1), (71, .iconst 0, 72, 1), (72, .iload 4, 74, 2), (74, .invokevirtual 333, 77, 3), (77, .ifCond .ne 6, 80, 3), (80, .goto 101, 83, 3), (83, .iload_n 2, 84, 1), (84, .iload 4, 86, 2), (86, .ishr, 87, 1), (87, .iconst 1, 88, 1), (88, .iand, 89, 1), (89, .ifCond .ne 16, 92, 3), (92, .aload_n 0, 93, 1), (93, .getfield 34, 96, 3), (96, .iload 4, 98, 2), (98, .iaload, 99, 1), (99, .iload_n 3, 100, 1), (100, .if_icmp .le 5, 103, 3), (103, .iconst 0, 104, 1), (104, .ireturn, 105, 1), (105, .iconst 0, 106, 1), (106, .istore 5, 108, 2), (108, .iload 5, 110, 2), (110, .aload_n 0, 111, 1), (111, .getfield 13, 114, 3), (114, .iconst 1, 115, 1), (115, .iaload, 116, 1), (116, .if_icmp .ge 65, 119, 3), (119, .iload_n 2, 120, 1), (120, .iload 4, 122, 2), (122, .ishr, 123, 1), (123, .iconst 1, 124, 1), (124, .iand, 125, 1), (125, .iconst 1, 126, 1), (126, .if_icmp .ne 55, 129, 3), (129, .iload_n 2, 130, 1), (130, .iload 5, 132, 2), (132, .ishr, 133, 1), (133, .iconst 1, 134, 1), (134, .iand, 135, 1), (135, .iconst 1, 136, 1), (136, .if_icmp .ne 39, 139, 3), (139, .aload_n 0, 140, 1), (140, .getfield 96, 143, 3), (143, .iload 5, 145, 2), (145, .iaload, 146, 1), (146, .aload_n 0, 147, 1), (147, .getfield 96, 150, 3), (150, .iload 4, 152, 2), (152, .iaload, 153, 1), (153, .if_icmp .le 22, 156, 3), (156, .aload_n 0, 157, 1), (157, .getfield 34, 160, 3), (160, .iload 5, 162, 2), (162, .iaload, 163, 1), (163, .aload_n 0, 164, 1), (164, .getfield 34, 167, 3), (167, .iload 4, 169, 2), (169, .iaload, 170, 1), (170, .if_icmp .le 5, 173, 3), (173, .iconst 0, 174, 1), (174, .ireturn, 175, 1), (175, .iinc 5 1, 178, 3), (178, .goto (-70), 181, 3), (181, .iinc 4 1, 184, 3), (184, .goto (-136), 187, 3), (187, .iconst 1, 188, 1), (188, .ireturn, 189, 1)])
theorem ok10_isTidy : MOk m10_isTidy := ⟨by decide, mem_g 1834 (by decide +kernel) rfl, ini10, ⟨by decide, by decide⟩, by decide, by unfold MDe; decide +kernel⟩
def m10_tidy : MD := (yX10_tidy, cX10_tidy, 5, (some (Jvm.ClassFile.FieldType.int)), [(0, .aload_n 0, 1, 1), (1, .iconst 0, 2, 1), (2, .putfield 151, 5, 3), (5, .iload_n 1, 6, 1), (6, .invokestatic 406, 9, 3), (9, .ifCond .ne 5, 12, 3), (12, .iconst (-1), 13, 1), (13, .ireturn, 14, 1), (14, .iconst 0, 15, 1), (15, .istore_n 2, 16, 1), (16, .iconst 0, 17, 1), (17, .istore_n 3, 18, 1), (18, .iload_n 3, 19, 1), (19, .aload_n 0, 20, 1), (20, .getfield 13, 23, 3), (23, .iconst 1, 24, 1), (24, .iaload, 25, 1), (25, .if_icmp .ge 38, 28, 3), (28, .iload_n 2, 29, 1), (29, .aload_n 0, 30, 1), (30, .getfield 99, 33, 3), (33, .iload_n 3, 34, 1), (34, .iaload, 35, 1), (35, .iload_n 1, 36, 1), (36, .if_icmp .ne 18, 39, 3), (39, .aload_n 0, 40, 1), (40, .iconst 0, 41, 1), (41, .iload_n 3, 42, 1), (42, .invokevirtual 333, 45, 3), (45, .ifCond .eq 9, 48, 3), (48, .iconst 1, 49, 1), (49, .iload_n 3, 50, 1), (50, .ishl, 51, 1), (51, .goto 4, 54, 3), (54, .iconst 0, 55, 1), (55, .ior, 56, 1), (56, .istore_n 2, 57, 1), (57, .iinc 3 1, 60, 3), (60, .goto (-42), 63, 3), (63, .iconst 0, 64, 1), (64, .istore_n 3, 65, 1), (65, .iconst 0, 66, 1), (66, .istore 4, 68, 2), (68, .iload 4, 70, 2), (70, .iload_n 2, 71, 1), (71, .if_icmp .gt 43, 74, 3), (74, .iload 4, 76, 2), (76, .iload_n 2, 77, 1), (77, .iconst (-1), 78, 1), (78, .ixor, 79, 1), (79, .iand, 80, 1), (80, .ifCond .ne 28, 83, 3), (83, .iload 4, 85, 2), (85, .invokestatic 434, 88, 3), (88, .iload_n 3, 89, 1), (89, .if_icmp .le 19, 92, 3), (92, .aload_n 0, 93, 1), (93, .iload_n 1, 94, 1), (94, .iload 4, 96, 2), (96, .invokevirtual 437, 99, 3), (99, .ifCond .eq 9, 102, 3), (102, .iload 4, 104, 2), (104, .invokestatic 434, 107, 3), (107, .istore_n 3, 108, 1), (108, .iinc 4 1, 111, 3), (111, .goto (-43), 114, 3), (114, .iload_n 2, 115, 1), (115, .invokestatic 434, 118, 3), (118, .iload_n 3, 119, 1), (119, .isub, 120, 1), (120, .ireturn, 121, 1)])
theorem ok10_tidy : MOk m10_tidy := ⟨by decide, mem_g 1827 (by decide +kernel) rfl, ini10, ⟨by decide, by decide⟩, by decide, by unfold MDe; decide +kernel⟩
def m10_bitsOf : MD := (yX10_bitsOf, cX10_bitsOf, 3, (some (Jvm.ClassFile.FieldType.int)), [(0, .iconst 0, 1, 1), (1, .istore_n 1, 2, 1), (2, .iconst 0, 3, 1), (3, .istore_n 2, 4, 1), (4, .iload_n 2, 5, 1), (5, .bipush 8, 7, 2), (7, .if_icmp .ge 17, 10, 3), (10, .iload_n 1, 11, 1), (11, .iload_n 0, 12, 1), (12, .iload_n 2, 13, 1), (13, .ishr, 14, 1), (14, .iconst 1, 15, 1), (15, .iand, 16, 1), (16, .iadd, 17, 1), (17, .istore_n 1, 18, 1), (18, .iinc 2 1, 21, 3), (21, .goto (-17), 24, 3), (24, .iload_n 1, 25, 1), (25, .ireturn, 26, 1)])
theorem ok10_bitsOf : MOk m10_bitsOf := ⟨by decide, mem_g 1830 (by decide +kernel) rfl, ini10, ⟨by decide, by decide⟩, by decide, by unfold MDe; decide +kernel⟩
def m10_hasOf : MD := (yX10_hasOf, cX10_hasOf, 3, (some (Jvm.ClassFile.FieldType.int)), [(0, .iload_n 1, 1, 1), (1, .iload_n 2, 2, 1), (2, .iadd, 3, 1), (3, .iload_n 0, 4, 1), (4, .if_icmp .gt 7, 7, 3), (7, .iload_n 1, 8, 1), (8, .goto 4, 11, 3), (11, .iconst 0, 12, 1), (12, .iload_n 1, 13, 1), (13, .iconst 4, 14, 1), (14, .if_icmp .ne 7, 17, 3), (17, .iconst 1, 18, 1), (18, .goto 4, 21, 3), (21, .iconst 0, 22, 1), (22, .isub, 23, 1), (23, .ireturn, 24, 1)])
theorem ok10_hasOf : MOk m10_hasOf := ⟨by decide, mem_g 1851 (by decide +kernel) rfl, ini10, ⟨by decide, by decide⟩, by decide, by unfold MDe; decide +kernel⟩
def m10_isRest : MD := (yX10_isRest, cX10_isRest, 4, (some (Jvm.ClassFile.FieldType.boolean)), [(0, .iconst 0, 1, 1), (1, .istore_n 3, 2, 1), (2, .iload_n 3, 3, 1), (3, .iconst 4, 4, 1), (4, .if_icmp .gt 41, 7, 3), (7, .iload_n 0, 8, 1), (8, .iload_n 3, 9, 1), (9, .iload_n 2, 10, 1), (10, .invokestatic 440, 13, 3), (13, .iload_n 0, 14, 1), (14, .iload_n 1, 15, 1), (15, .iload_n 2, 16, 1), (16, .invokestatic 440, 19, 3), (19, .if_icmp .gt 18, 22, 3), (22, .iload_n 0, 23, 1), (23, .iload_n 3, 24, 1), (24, .iload_n 1, 25, 1), (25, .invokestatic 440, 28, 3), (28, .iload_n 0, 29, 1), (29, .iload_n 2, 30, 1), (30, .iload_n 1, 31, 1), (31, .invokestatic 440, 34, 3), (34, .if_icmp .le 5, 37, 3), (37, .iconst 0, 38, 1), (38, .ireturn, 39, 1), (39, .iinc 3 1, 42, 3), (42, .goto (-40), 45, 3), (45, .iconst 1, 46, 1), (46, .ireturn, 47, 1)])
theorem ok10_isRest : MOk m10_isRest := ⟨by decide, mem_g 1848 (by decide +kernel) rfl, ini10, ⟨by decide, by decide⟩, by decide, by unfold MDe; decide +kernel⟩
def m10_restOf : MD := (yX10_restOf, cX10_restOf, 4, (some (Jvm.ClassFile.FieldType.int)), [(0, .iconst 0, 1, 1), (1, .istore_n 2, 2, 1), (2, .iconst 0, 3, 1), (3, .istore_n 3, 4, 1), (4, .iload_n 3, 5, 1), (5, .bipush 25, 7, 2), (7, .if_icmp .ge 44, 10, 3), (10, .iload_n 0, 11, 1), (11, .iload_n 3, 12, 1), (12, .iconst 5, 13, 1), (13, .idiv, 14, 1), (14, .iload_n 3, 15, 1), (15, .iconst 5, 16, 1), (16, .irem, 17, 1), (17, .invokestatic 443, 20, 3), (20, .ifCond .ne 6, 23, 3), (23, .goto 22, 26, 3), (26, .iload_n 2, 27, 1), (27, .iload_n 1, 28, 1), (28, .if_icmp .ne 14, 31, 3), (31, .bipush 10, 33, 2), (33, .iload_n 3, 34, 1), (34, .iconst 5, 35, 1), (35, .idiv, 36, 1), (36, .imul, 37, 1), (37, .iload_n 3, 38, 1), (38, .iconst 5, 39, 1), (39, .irem, 40, 1), (40, .iadd, 41, 1), (41, .ireturn, 42, 1), (42, .iinc 2 1, 45, 3), (45, .iinc 3 1, 48, 3), (48, .goto (-44), 51, 3), (51, .iload_n 1, 52, 1), (52, .iconst (-1), 53, 1), (53, .if_icmp .ne 7, 56, 3), (56, .iload_n 2, 57, 1), (57, .goto 5, 60, 3), (60, .bipush (-2), 62, 2), (62, .ireturn, 63, 1)])
theorem ok10_restOf : MOk m10_restOf := ⟨by decide, mem_g 1845 (by decide +kernel) rfl, ini10, ⟨by decide, by decide⟩, by decide, by unfold MDe; decide +kernel⟩
def m10_isOpen : MD := (yX10_isOpen, cX10_isOpen, 2, (some (Jvm.ClassFile.FieldType.boolean)), [(0, .aload_n 0, 1, 1), (1, .iload_n 1, 2, 1), (2, .invokevirtual 397, 5, 3), (5, .ifCond .eq 17, 8, 3), (8, .aload_n 0, 9, 1), (9, .getfield 105, 12, 3), (12, .iload_n 1, 13, 1), (13, .iaload, 14, 1), (14, .iconst 1, 15, 1), (15, .if_icmp .ne 7, 18, 3), (18, .iconst 1, 19, 1), (19, .goto 4, 22, 3), (22, .iconst 0, 23, 1), (23, .ireturn, 24, 1)])
theorem ok10_isOpen : MOk m10_isOpen := ⟨by decide, mem_g 1842 (by decide +kernel) rfl, ini10, ⟨by decide, by decide⟩, by decide, by unfold MDe; decide +kernel⟩
def m10_rests : MD := (yX10_rests, cX10_rests, 2, (some (Jvm.ClassFile.FieldType.int)), [(0, .aload_n 0, 1, 1), (1, .iconst 0, 2, 1), (2, .putfield 151, 5, 3), (5, .aload_n 0, 6, 1), (6, .iload_n 1, 7, 1), (7, .invokevirtual 447, 10, 3), (10, .ifCond .eq 16, 13, 3), (13, .aload_n 0, 14, 1), (14, .getfield 108, 17, 3), (17, .iload_n 1, 18, 1), (18, .iaload, 19, 1), (19, .iconst (-1), 20, 1), (20, .invokestatic 450, 23, 3), (23, .goto 4, 26, 3), (26, .iconst (-1), 27, 1), (27, .ireturn, 28, 1)])
theorem ok10_rests : MOk m10_rests := ⟨by decide, mem_g 1838 (by decide +kernel) rfl, ini10, ⟨by decide, by decide⟩, by decide, by unfold MDe; decide +kernel⟩
def m10_rest : MD := (yX10_rest, cX10_rest, 3, (some (Jvm.ClassFile.FieldType.int)), [(0, .aload_n 0, 1, 1), (1, .iconst 0, 2, 1), (2, .putfield 151, 5, 3), (5, .aload_n 0, 6, 1), (6, .iload_n 1, 7, 1), (7, .invokevirtual 447, 10, 3), (10, .ifCond .eq 20, 13, 3), (13, .iload_n 2, 14, 1), (14, .ifCond .lt 16, 17, 3), (17, .aload_n 0, 18, 1), (18, .getfield 108, 21, 3), (21, .iload_n 1, 22, 1), (22, .iaload, 23, 1), (23, .iload_n 2, 24, 1), (24, .invokestatic 450, 27, 3), (27, .goto 4, 30, 3), (30, .iconst (-1), 31, 1), (31, .ireturn, 32, 1)])
theorem ok10_rest : MOk m10_rest := ⟨by decide, mem_g 1855 (by decide +kernel) rfl, ini10, ⟨by decide, by decide⟩, by decide, by unfold MDe; decide +kernel⟩
def m10_common : MD := (yX10_common, cX10_common, 10, (some (Jvm.ClassFile.FieldType.long)), [(0, .lload_n 0, 1, 1), (1, .lstore 4, 3, 2), (3, .lload_n 2, 4, 1), (4, .lstore 6, 6, 2), (6, .lload 6, 8, 2), (8, .lconst 0, 9, 1), (9, .lcmp, 10, 1), (10, .ifCond .eq 21, 13, 3), (13, .lload 4, 15, 2), (15, .lload 6, 17, 2), (17, .lrem, 18, 1), (18, .lstore 8, 20, 2), (20, .lload 6, 22, 2), (22, .lstore 4, 24, 2), (24, .lload 8, 26, 2), (26, .lstore 6, 28, 2), (28, .goto (-22), 31, 3), (31, .lload 4, 33, 2), (33, .lreturn, 34, 1)])
theorem ok10_common : MOk m10_common := ⟨by decide, mem_g 1864 (by decide +kernel) rfl, ini10, ⟨by decide, by decide⟩, by decide, by unfold MDe; decide +kernel⟩
def m10_whole : MD := (yX10_whole, cX10_whole, 9, (some (Jvm.ClassFile.FieldType.long)), [(0, .aload_n 0, 1, 1), (1, .iconst 0, 2, 1), (2, .putfield 151, 5, 3), (5, .iload_n 1, 6, 1), (6, .ifCond .lt 18, 9, 3), (9, .iload_n 1, 10, 1), (10, .bipush 6, 12, 2), (12, .if_icmp .gt 12, 15, 3), (15, .iload_n 2, 16, 1), (16, .ifCond .lt 8, 19, 3), (19, .iload_n 2, 20, 1), (20, .iconst 1, 21, 1), (21, .if_icmp .le 7, 24, 3), (24, .ldc2_w 453, 27, 3), (27, .lreturn, 28, 1), (28, .lconst 1, 29, 1), (29, .lstore_n 3, 30, 1), (30, .lconst 1, 31, 1), (31, .lstore 5, 33, 2), (33, .iconst 0, 34, 1), (34, .istore 7, 36, 2), (36, .iload 7, 38, 2), (38, .iload_n 1, 39, 1), (39, .if_icmp .ge 31, 42, 3), (42, .lload_n 3, 43, 1), (43, .ldc2_w 455, 46, 3), (46, .aload_n 0, 47, 1), (47, .getfield 13, 50, 3), (50, .iconst 5, 51, 1), (51, .iaload, 52, 1), (52, .i2l, 53, 1), (53, .lsub, 54, 1), (54, .lmul, 55, 1), (55, .lstore_n 3, 56, 1), (56, .lload 5, 58, 2), (58, .ldc2_w 455, 61, 3), (61, .lmul, 62, 1), (62, .lstore 5, 64, 2), (64, .iinc 7 1, 67, 3), (67, .goto (-31), 70, 3), (70, .lload_n 3, 71, 1), (71, .lload 5, 73, 2), (73, .invokestatic 457, 76, 3), (76, .lstore 7, 78, 2), (78, .iload_n 2, 79, 1), (79, .ifCond .ne 10, 82, 3), (82, .lload_n 3, 83, 1), (83, .lload 7, 85, 2), (85, .ldiv, 86, 1), (86, .goto 8, 89, 3), (89, .lload 5, 91, 2), (91, .lload 7, 93, 2), (93, .ldiv, 94, 1), (94, .lreturn, 95, 1)])
theorem ok10_whole : MOk m10_whole := ⟨by decide, mem_g 1859 (by decide +kernel) rfl, ini10, ⟨by decide, by decide⟩, by decide, by unfold MDe; decide +kernel⟩
def m10_unmet : MD := (yX10_unmet, cX10_unmet, 4, (some (Jvm.ClassFile.FieldType.int)), [(0, .aload_n 0, 1, 1), (1, .iconst 0, 2, 1), (2, .putfield 151, 5, 3), (5, .iconst 0, 6, 1), (6, .istore_n 1, 7, 1), (7, .iconst 0, 8, 1), (8, .istore_n 2, 9, 1), (9, .iload_n 2, 10, 1), (10, .aload_n 0, 11, 1), (11, .getfield 13, 14, 3), (14, .iconst 3, 15, 1), (15, .iaload, 16, 1), (16, .if_icmp .ge 66, 19, 3), (19, .aload_n 0, 20, 1), (20, .aload_n 0, 21, 1), (21, .getfield 46, 24, 3), (24, .iload_n 2, 25, 1), (25, .iaload, 26, 1), (26, .iconst 0, 27, 1), (27, .invokevirtual 403, 30, 3), (30, .ifCond .ne 17, 33, 3), (33, .aload_n 0, 34, 1), (34, .aload_n 0, 35, 1), (35, .getfield 46, 38, 3), (38, .iload_n 2, 39, 1), (39, .iaload, 40, 1), (40, .iconst 1, 41, 1), (41, .invokevirtual 403, 44, 3), (44, .ifCond .eq 7, 47, 3), (47, .iconst 1, 48, 1), (48, .goto 4, 51, 3), (51, .iconst 0, 52, 1), (52, .istore_n 3, 53, 1), (53, .iload_n 1, 54, 1), (54, .aload_n 0, 55, 1), (55, .getfield 114, 58, 3), (58, .iload_n 2, 59, 1), (59, .iaload, 60, 1), (60, .ifCond .ne 13, 63, 3), (63, .iload_n 3, 64, 1), (64, .ifCond .ne 9, 67, 3), (67, .iconst 1, 68, 1), (68, .iload_n 2, 69, 1), (69, .ishl, 70, 1), (70, .goto 4, 73, 3), (73, .iconst 0, 74, 1), (74, .ior, 75, 1), (75, .istore_n 1, 76, 1), (76, .iinc 2 1, 79, 3), (79, .goto (-70), 82, 3), (82, .iload_n 1, 83, 1), (83, .ireturn, 84, 1)])
theorem ok10_unmet : MOk m10_unmet := ⟨by decide, mem_g 1868 (by decide +kernel) rfl, ini10, ⟨by decide, by decide⟩, by decide, by unfold MDe; decide +kernel⟩
def m10_noted : MD := (yX10_noted, cX10_noted, 5, (some (Jvm.ClassFile.FieldType.int)), [(0, .aload_n 0, 1, 1), (1, .getfield 132, 4, 3), (4, .aload_n 0, 5, 1), (5, .getfield 300, 8, 3), (8, .iload_n 1, 9, 1), (9, .iastore, 10, 1), (10, .aload_n 0, 11, 1), (11, .getfield 135, 14, 3), (14, .aload_n 0, 15, 1), (15, .getfield 300, 18, 3), (18, .iload_n 2, 19, 1), (19, .iastore, 20, 1), (20, .aload_n 0, 21, 1), (21, .getfield 138, 24, 3), (24, .aload_n 0, 25, 1), (25, .getfield 300, 28, 3), (28, .iload_n 3, 29, 1), (29, .iastore, 30, 1), (30, .aload_n 0, 31, 1), (31, .getfield 141, 34, 3), (34, .aload_n 0, 35, 1), (35, .getfield 300, 38, 3), (38, .iload 4, 40, 2), (40, .bastore, 41, 1), (41, .aload_n 0, 42, 1), (42, .dup, 43, 1), (43, .getfield 300, 46, 3), (46, .iconst 1, 47, 1), (47, .iadd, 48, 1), (48, .putfield 300, 51, 3), (51, .aload_n 0, 52, 1), (52, .getfield 300, 55, 3), (55, .iconst 1, 56, 1), (56, .isub, 57, 1), (57, .ireturn, 58, 1)])
theorem ok10_noted : MOk m10_noted := ⟨by decide, mem_g 1876 (by decide +kernel) rfl, ini10, ⟨by decide, by decide⟩, by decide, by unfold MDe; decide +kernel⟩
def m10_note : MD := (yX10_note, cX10_note, 4, (some (Jvm.ClassFile.FieldType.int)), [(0, .aload_n 0, 1, 1), (1, .iconst 0, 2, 1), (2, .putfield 151, 5, 3), (5, .iload_n 1, 6, 1), (6, .ifCond .lt 36, 9, 3), (9, .iload_n 1, 10, 1), (10, .iconst 1, 11, 1), (11, .if_icmp .gt 31, 14, 3), (14, .iload_n 2, 15, 1), (15, .ifCond .lt 27, 18, 3), (18, .iload_n 2, 19, 1), (19, .iload_n 1, 20, 1), (20, .ifCond .ne 8, 23, 3), (23, .bipush 99, 25, 2), (25, .goto 5, 28, 3), (28, .bipush 9, 30, 2), (30, .if_icmp .gt 12, 33, 3), (33, .aload_n 0, 34, 1), (34, .getfield 300, 37, 3), (37, .bipush 24, 39, 2), (39, .if_icmp .ne 5, 42, 3), (42, .iconst (-1), 43, 1), (43, .ireturn, 44, 1), (44, .aload_n 0, 45, 1), (45, .iload_n 1, 46, 1), (46, .iload_n 2, 47, 1), (47, .iconst (-1), 48, 1), (48, .iload_n 3, 49, 1), (49, .invokevirtual 460, 52, 3), (52, .ireturn, 53, 1)])
theorem ok10_note : MOk m10_note := ⟨by decide, mem_g 1872 (by decide +kernel) rfl, ini10, ⟨by decide, by decide⟩, by decide, by unfold MDe; decide +kernel⟩
def m10_see : MD := (yX10_see, cX10_see, 4, (some (Jvm.ClassFile.FieldType.int)), [(0, .aload_n 0, 1, 1), (1, .iconst 0, 2, 1), (2, .putfield 151, 5, 3), (5, .iload_n 1, 6, 1), (6, .iconst 1, 7, 1), (7, .if_icmp .lt 26, 10, 3), (10, .iload_n 1, 11, 1), (11, .bipush 60, 13, 2), (13, .if_icmp .gt 20, 16, 3), (16, .aload_n 0, 17, 1), (17, .iload_n 2, 18, 1), (18, .invokevirtual 397, 21, 3), (21, .ifCond .eq 12, 24, 3), (24, .aload_n 0, 25, 1), (25, .getfield 300, 28, 3), (28, .bipush 24, 30, 2), (30, .if_icmp .ne 5, 33, 3), (33, .iconst (-1), 34, 1), (34, .ireturn, 35, 1), (35, .aload_n 0, 36, 1), (36, .iconst 2, 37, 1), (37, .iload_n 1, 38, 1), (38, .iload_n 2, 39, 1), (39, .iload_n 3, 40, 1), (40, .invokevirtual 460, 43, 3), (43, .ireturn, 44, 1)])
theorem ok10_see : MOk m10_see := ⟨by decide, mem_g 1880 (by decide +kernel) rfl, ini10, ⟨by decide, by decide⟩, by decide, by unfold MDe; decide +kernel⟩
def m10_strike : MD := (yX10_strike, cX10_strike, 2, (some (Jvm.ClassFile.FieldType.int)), [(0, .aload_n 0, 1, 1), (1, .iconst 0, 2, 1), (2, .putfield 151, 5, 3), (5, .iload_n 1, 6, 1), (6, .ifCond .lt 20, 9, 3), (9, .iload_n 1, 10, 1), (10, .aload_n 0, 11, 1), (11, .getfield 300, 14, 3), (14, .if_icmp .ge 12, 17, 3), (17, .aload_n 0, 18, 1), (18, .getfield 300, 21, 3), (21, .bipush 24, 23, 2), (23, .if_icmp .ne 5, 26, 3), (26, .iconst (-1), 27, 1), (27, .ireturn, 28, 1), (28, .aload_n 0, 29, 1), (29, .iconst 3, 30, 1), (30, .iload_n 1, 31, 1), (31, .iconst (-1), 32, 1), (32, .iconst 0, 33, 1), (33, .invokevirtual 460, 36, 3), (36, .ireturn, 37, 1)])
theorem ok10_strike : MOk m10_strike := ⟨by decide, mem_g 1884 (by decide +kernel) rfl, ini10, ⟨by decide, by decide⟩, by decide, by unfold MDe; decide +kernel⟩
def m10_known : MD := (yX10_known, cX10_known, 2, (some (Jvm.ClassFile.FieldType.boolean)), [(0, .aload_n 0, 1, 1), (1, .iconst 0, 2, 1), (2, .putfield 151, 5, 3), (5, .iload_n 1, 6, 1), (6, .iconst (-1), 7, 1), (7, .if_icmp .lt 11, 10, 3), (10, .iload_n 1, 11, 1), (11, .aload_n 0, 12, 1), (12, .getfield 300, 15, 3), (15, .if_icmp .le 5, 18, 3), (18, .iconst 0, 19, 1), (19, .ireturn, 20, 1), (20, .aload_n 0, 21, 1), (21, .iload_n 1, 22, 1), (22, .putfield 129, 25, 3), (25, .iconst 1, 26, 1), (26, .ireturn, 27, 1)])
theorem ok10_known : MOk m10_known := ⟨by decide, mem_g 1888 (by decide +kernel) rfl, ini10, ⟨by decide, by decide⟩, by decide, by unfold MDe; decide +kernel⟩
def m10_knownMany : MD := (yX10_knownMany, cX10_knownMany, 1, (some (Jvm.ClassFile.FieldType.int)), [(0, .aload_n 0, 1, 1), (1, .getfield 129, 4, 3), (4, .iconst (-1), 5, 1), (5, .if_icmp .ne 10, 8, 3), (8, .aload_n 0, 9, 1), (9, .getfield 300, 12, 3), (12, .goto 7, 15, 3), (15, .aload_n 0, 16, 1), (16, .getfield 129, 19, 3), (19, .ireturn, 20, 1)])
theorem ok10_knownMany : MOk m10_knownMany := ⟨by decide, mem_g 1904 (by decide +kernel) rfl, ini10, ⟨by decide, by decide⟩, by decide, by unfold MDe; decide +kernel⟩
def m10_strikes : MD := (yX10_strikes, cX10_strikes, 2, none, [(0, .iconst 0, 1, 1), (1, .istore_n 1, 2, 1), (2, .iload_n 1, 3, 1), (3, .aload_n 0, 4, 1), (4, .invokevirtual 464, 7, 3), (7, .if_icmp .ge 16, 10, 3), (10, .aload_n 0, 11, 1), (11, .getfield 145, 14, 3), (14, .iload_n 1, 15, 1), (15, .iconst 0, 16, 1), (16, .bastore, 17, 1), (17, .iinc 1 1, 20, 3), (20, .goto (-18), 23, 3), (23, .aload_n 0, 24, 1), (24, .invokevirtual 464, 27, 3), (27, .iconst 1, 28, 1), (28, .isub, 29, 1), (29, .istore_n 1, 30, 1), (30, .iload_n 1, 31, 1), (31, .ifCond .lt 40, 34, 3), (34, .aload_n 0, 35, 1), (35, .getfield 145, 38, 3), (38, .iload_n 1, 39, 1), (39, .baload, 40, 1), (40, .ifCond .ne 25, 43, 3), (43, .aload_n 0, 44, 1), (44, .getfield 132, 47, 3), (47, .iload_n 1, 48, 1), (48, .iaload, 49, 1), (49, .iconst 3, 50, 1), (50, .if_icmp .ne 15, 53, 3), (53, .aload_n 0, 54, 1), (54, .getfield 145, 57, 3), (57, .aload_n 0, 58, 1), (58, .getfield 135, 61, 3), (61, .iload_n 1, 62, 1), (62, .iaload, 63, 1), (63, .iconst 1, 64, 1), (64, .bastore, 65, 1), (65, .iinc 1 (-1), 68, 3), (68, .goto (-38), 71, 3), (71, .return_, 72, 1)])
theorem ok10_strikes : MOk m10_strikes := ⟨by decide, mem_g 1900 (by decide +kernel) rfl, ini10, ⟨by decide, by decide⟩, by decide, by unfold MDe; decide +kernel⟩
def m10_isNoted : MD := (yX10_isNoted, cX10_isNoted, 4, (some (Jvm.ClassFile.FieldType.boolean)), [(0, .iconst 0, 1, 1), (1, .istore_n 2, 2, 1), (2, .iload_n 2, 3, 1), (3, .aload_n 0, 4, 1), (4, .invokevirtual 464, 7, 3), (7, .if_icmp .ge 82, 10, 3), (10, .aload_n 0, 11, 1), (11, .getfield 145, 14, 3), (14, .iload_n 2, 15, 1), (15, .baload, 16, 1), (16, .ifCond .ne 67, 19, 3), (19, .aload_n 0, 20, 1), (20, .getfield 132, 23, 3), (23, .iload_n 2, 24, 1), (24, .iaload, 25, 1), (25, .iconst 1, 26, 1), (26, .if_icmp .le 6, 29, 3), (29, .goto 54, 32, 3), (32, .aload_n 0, 33, 1), (33, .getfield 132, 36, 3), (36, .iload_n 2, 37, 1), (37, .iaload, 38, 1), (38, .ifCond .ne 12, 41, 3), (41, .aload_n 0, 42, 1), (42, .getfield 19, 45, 3), (45, .iload_n 1, 46, 1), (46, .iaload, 47, 1), (47, .goto 9, 50, 3), (50, .aload_n 0, 51, 1), (51, .getfield 22, 54, 3), (54, .iload_n 1, 55, 1), (55, .iaload, 56, 1), (56, .istore_n 3, 57, 1), (57, .iload_n 3, 58, 1), (58, .aload_n 0, 59, 1), (59, .getfield 135, 62, 3), (62, .iload_n 2, 63, 1), (63, .iaload, 64, 1), (64, .if_icmp .lt 7, 67, 3), (67, .iconst 1, 68, 1), (68, .goto 4, 71, 3), (71, .iconst 0, 72, 1), (72, .aload_n 0, 73, 1), (73, .getfield 141, 76, 3), (76, .iload_n 2, 77, 1), (77, .baload, 78, 1), (78, .if_icmp .eq 5, 81, 3), (81, .iconst 0, 82, 1), (82, .ireturn, 83, 1), (83, .iinc 2 1, 86, 3), (86, .goto (-84), 89, 3), (89, .iconst 1, 90, 1), (90, .ireturn, 91, 1)])
theorem ok10_isNoted : MOk m10_isNoted := ⟨by decide, mem_g 1908 (by decide +kernel) rfl, ini10, ⟨by decide, by decide⟩, by decide, by unfold MDe; decide +kernel⟩
def m10_whichOnes : MD := (yX10_whichOnes, cX10_whichOnes, 3, (some (Jvm.ClassFile.FieldType.int)), [(0, .aload_n 0, 1, 1), (1, .invokevirtual 467, 4, 3), (4, .iconst 0, 5, 1), (5, .istore_n 1, 6, 1), (6, .iconst 0, 7, 1), (7, .istore_n 2, 8, 1), (8, .iload_n 2, 9, 1), (9, .aload_n 0, 10, 1), (10, .getfield 13, 13, 3), (13, .iconst 0, 14, 1), (14, .iaload, 15, 1), (15, .if_icmp .ge 27, 18, 3), (18, .iload_n 1, 19, 1), (19, .aload_n 0, 20, 1), (20, .iload_n 2, 21, 1), (21, .invokevirtual 470, 24, 3), (24, .ifCond .eq 9, 27, 3), (27, .iconst 1, 28, 1), (28, .iload_n 2, 29, 1), (29, .ishl, 30, 1), (30, .goto 4, 33, 3), (33, .iconst 0, 34, 1), (34, .ior, 35, 1), (35, .istore_n 1, 36, 1), (36, .iinc 2 1, 39, 3), (39, .goto (-31), 42, 3), (42, .iload_n 1, 43, 1), (43, .ireturn, 44, 1)])
theorem ok10_whichOnes : MOk m10_whichOnes := ⟨by decide, mem_g 1896 (by decide +kernel) rfl, ini10, ⟨by decide, by decide⟩, by decide, by unfold MDe; decide +kernel⟩
def m10_which : MD := (yX10_which, cX10_which, 1, (some (Jvm.ClassFile.FieldType.int)), [(0, .aload_n 0, 1, 1), (1, .iconst 0, 2, 1), (2, .putfield 151, 5, 3), (5, .aload_n 0, 6, 1), (6, .invokevirtual 473, 9, 3), (9, .ireturn, 10, 1)])
theorem ok10_which : MOk m10_which := ⟨by decide, mem_g 1892 (by decide +kernel) rfl, ini10, ⟨by decide, by decide⟩, by decide, by unfold MDe; decide +kernel⟩
def m10_ask : MD := (yX10_ask, cX10_ask, 8, (some (Jvm.ClassFile.FieldType.int)), [(0, .aload_n 0, 1, 1), (1, .iconst 0, 2, 1), (2, .putfield 151, 5, 3), (5, .iload_n 1, 6, 1), (6, .ifCond .lt 8, 9, 3), (9, .iload_n 1, 10, 1), (10, .iconst 1, 11, 1), (11, .if_icmp .le 5, 14, 3), (14, .iconst (-1), 15, 1), (15, .ireturn, 16, 1), (16, .aload_n 0, 17, 1), (17, .invokevirtual 473, 20, 3), (20, .istore_n 2, 21, 1), (21, .iconst (-1), 22, 1), (22, .istore_n 3, 23, 1), (23, .iconst 0, 24, 1), (24, .istore 4, 26, 2), (26, .iconst 1, 27, 1), (27, .istore 5, 29, 2), (29, .iload 5, 31, 2), (31, .bipush 99, 33, 2), (33, .if_icmp .gt 100, 36, 3), (36, .iconst 0, 37, 1), (37, .istore 6, 39, 2), (39, .iconst 0, 40, 1), (40, .istore 7, 42, 2), (42, .iload 7, 44, 2), (44, .aload_n 0, 45, 1), (45, .getfield 13, 48, 3), (48, .iconst 0, 49, 1), (49, .iaload, 50, 1), (50, .if_icmp .ge 41, 53, 3), (53, .iload 6, 55, 2), (55, .iload_n 2, 56, 1), (56, .iload 7, 58, 2), (58, .ishr, 59, 1), (59, .iconst 1, 60, 1), (60, .iand, 61, 1), (61, .iconst 1, 62, 1), (62, .if_icmp .ne 19, 65, 3), (65, .aload_n 0, 66, 1), (66, .getfield 19, 69, 3), (69, .iload 7, 71, 2), (71, .iaload, 72, 1), (72, .iload 5, 74, 2), (74, .if_icmp .lt 7, 77, 3), (77, .iconst 1, 78, 1), (78, .goto 4, 81, 3), (81, .iconst 0, 82, 1), (82, .iadd, 83, 1), (83, .istore 6, 85, 2), (85, .iinc 7 1, 88, 3), (88, .goto (-46), 91, 3), (91, .iload 6, 93, 2), (93, .iload_n 2, 94, 1), (94, .invokestatic 434, 97, 3), (97, .iload 6, 99, 2), (99, .isub, 100, 1), (100, .invokestatic 476, 103, 3), (103, .istore 7, 105, 2), (105, .iload_n 3, 106, 1), (106, .iconst (-1), 107, 1), (107, .if_icmp .eq 13, 110, 3), (110, .iload 7, 112, 2), (112, .iload 4, 114, 2), (114, .if_icmp .lt 6, 117, 3), (117, .goto 10, 120, 3), (120, .iload 5, 122, 2), (122, .istore_n 3, 123, 1), (123, .iload 7, 125, 2), (125, .istore 4, 127, 2), (127, .iinc 5 1, 130, 3), (130, .goto (-101), 133, 3), (133, .iload_n 1, 134, 1), (134, .ifCond .ne 7, 137, 3), (137, .iload_n 3, 138, 1), (138, .goto 5, 141, 3), (141, .iload 4, 143, 2), (143, .ireturn, 144, 1)])
theorem ok10_ask : MOk m10_ask := ⟨by decide, mem_g 1912 (by decide +kernel) rfl, ini10, ⟨by decide, by decide⟩, by decide, by unfold MDe; decide +kernel⟩
def m10_isSo : MD := (yX10_isSo, cX10_isSo, 3, (some (Jvm.ClassFile.FieldType.boolean)), [(0, .iconst 0, 1, 1), (1, .istore_n 2, 2, 1), (2, .iload_n 2, 3, 1), (3, .aload_n 0, 4, 1), (4, .invokevirtual 464, 7, 3), (7, .if_icmp .ge 75, 10, 3), (10, .aload_n 0, 11, 1), (11, .getfield 145, 14, 3), (14, .iload_n 2, 15, 1), (15, .baload, 16, 1), (16, .ifCond .ne 60, 19, 3), (19, .aload_n 0, 20, 1), (20, .getfield 132, 23, 3), (23, .iload_n 2, 24, 1), (24, .iaload, 25, 1), (25, .iconst 2, 26, 1), (26, .if_icmp .ne 50, 29, 3), (29, .aload_n 0, 30, 1), (30, .getfield 135, 33, 3), (33, .iload_n 2, 34, 1), (34, .iaload, 35, 1), (35, .iload_n 1, 36, 1), (36, .if_icmp .eq 6, 39, 3), (39, .goto 37, 42, 3), (42, .aload_n 0, 43, 1), (43, .getfield 105, 46, 3), (46, .bipush 8, 48, 2), (48, .aload_n 0, 49, 1), (49, .getfield 138, 52, 3), (52, .iload_n 2, 53, 1), (53, .iaload, 54, 1), (54, .iadd, 55, 1), (55, .iaload, 56, 1), (56, .iconst 3, 57, 1), (57, .if_icmp .ne 7, 60, 3), (60, .iconst 1, 61, 1), (61, .goto 4, 64, 3), (64, .iconst 0, 65, 1), (65, .aload_n 0, 66, 1), (66, .getfield 141, 69, 3), (69, .iload_n 2, 70, 1), (70, .baload, 71, 1), (71, .if_icmp .eq 5, 74, 3), (74, .iconst 0, 75, 1), (75, .ireturn, 76, 1), (76, .iinc 2 1, 79, 3), (79, .goto (-77), 82, 3), (82, .iconst 1, 83, 1), (83, .ireturn, 84, 1)])
theorem ok10_isSo : MOk m10_isSo := ⟨by decide, mem_g 1925 (by decide +kernel) rfl, ini10, ⟨by decide, by decide⟩, by decide, by unfold MDe; decide +kernel⟩
def m10_fitsDents : MD := (yX10_fitsDents, cX10_fitsDents, 5, (some (Jvm.ClassFile.FieldType.boolean)), [(0, .aload_n 0, 1, 1), (1, .iconst 1, 2, 1), (2, .invokevirtual 330, 5, 3), (5, .aload_n 0, 6, 1), (6, .getfield 102, 9, 3), (9, .bipush 8, 11, 2), (11, .iload_n 1, 12, 1), (12, .iadd, 13, 1), (13, .iload_n 2, 14, 1), (14, .iastore, 15, 1), (15, .iconst 1, 16, 1), (16, .istore 4, 18, 2), (18, .iload 4, 20, 2), (20, .iload_n 3, 21, 1), (21, .if_icmp .gt 26, 24, 3), (24, .aload_n 0, 25, 1), (25, .iconst 1, 26, 1), (26, .iconst 0, 27, 1), (27, .invokevirtual 387, 30, 3), (30, .aload_n 0, 31, 1), (31, .iload 4, 33, 2), (33, .invokevirtual 478, 36, 3), (36, .ifCond .ne 5, 39, 3), (39, .iconst 0, 40, 1), (40, .ireturn, 41, 1), (41, .iinc 4 1, 44, 3), (44, .goto (-26), 47, 3), (47, .iconst 1, 48, 1), (48, .ireturn, 49, 1)])
theorem ok10_fitsDents : MOk m10_fitsDents := ⟨by decide, mem_g 1921 (by decide +kernel) rfl, ini10, ⟨by decide, by decide⟩, by decide, by unfold MDe; decide +kernel⟩
def m10_dented : MD := (yX10_dented, cX10_dented, 5, (some (Jvm.ClassFile.FieldType.int)), [(0, .aload_n 0, 1, 1), (1, .iconst 0, 2, 1), (2, .putfield 151, 5, 3), (5, .aload_n 0, 6, 1), (6, .iload_n 1, 7, 1), (7, .invokevirtual 397, 10, 3), (10, .ifCond .ne 5, 13, 3), (13, .iconst (-1), 14, 1), (14, .ireturn, 15, 1), (15, .aload_n 0, 16, 1), (16, .invokevirtual 467, 19, 3), (19, .iconst 0, 20, 1), (20, .istore_n 2, 21, 1), (21, .iconst 0, 22, 1), (22, .istore_n 3, 23, 1), (23, .iload_n 3, 24, 1), (24, .aload_n 0, 25, 1), (25, .invokevirtual 464, 28, 3), (28, .if_icmp .ge 39, 31, 3), (31, .aload_n 0, 32, 1), (32, .getfield 145, 35, 3), (35, .iload_n 3, 36, 1), (36, .baload, 37, 1), (37, .ifCond .ne 24, 40, 3), (40, .aload_n 0, 41, 1), (41, .getfield 132, 44, 3), (44, .iload_n 3, 45, 1), (45, .iaload, 46, 1), (46, .iconst 2, 47, 1), (47, .if_icmp .ne 14, 50, 3), (50, .iload_n 2, 51, 1), (51, .aload_n 0, 52, 1), (52, .getfield 135, 55, 3), (55, .iload_n 3, 56, 1), (56, .iaload, 57, 1), (57, .invokestatic 476, 60, 3), (60, .istore_n 2, 61, 1), (61, .iinc 3 1, 64, 3), (64, .goto (-41), 67, 3), (67, .iconst 0, 68, 1), (68, .istore_n 3, 69, 1), (69, .iconst 0, 70, 1), (70, .istore 4, 72, 2), (72, .iload 4, 74, 2), (74, .bipush 10, 76, 2), (76, .if_icmp .ge 31, 79, 3), (79, .iload_n 3, 80, 1), (80, .aload_n 0, 81, 1), (81, .iload_n 1, 82, 1), (82, .iload 4, 84, 2), (84, .iload_n 2, 85, 1), (85, .invokevirtual 481, 88, 3), (88, .ifCond .eq 10, 91, 3), (91, .iconst 1, 92, 1), (92, .iload 4, 94, 2), (94, .ishl, 95, 1), (95, .goto 4, 98, 3), (98, .iconst 0, 99, 1), (99, .ior, 100, 1), (100, .istore_n 3, 101, 1), (101, .iinc 4 1, 104, 3), (104, .goto (-32), 107, 3), (107, .iload_n 3, 108, 1), (108, .ireturn, 109, 1)])
theorem ok10_dented : MOk m10_dented := ⟨by decide, mem_g 1917 (by decide +kernel) rfl, ini10, ⟨by decide, by decide⟩, by decide, by unfold MDe; decide +kernel⟩
def m10_chance : MD := (yX10_chance, cX10_chance, 8, (some (Jvm.ClassFile.FieldType.int)), [(0, .aload_n 0, 1, 1), (1, .iconst 0, 2, 1), (2, .putfield 151, 5, 3), (5, .iload_n 1, 6, 1), (6, .ifCond .lt 24, 9, 3), (9, .iload_n 2, 10, 1), (10, .iconst 1, 11, 1), (11, .if_icmp .lt 19, 14, 3), (14, .iload_n 2, 15, 1), (15, .bipush 99, 17, 2), (17, .if_icmp .gt 13, 20, 3), (20, .iload_n 3, 21, 1), (21, .ifCond .lt 9, 24, 3), (24, .iload_n 3, 25, 1), (25, .bipush 8, 27, 2), (27, .if_icmp .le 5, 30, 3), (30, .iconst (-1), 31, 1), (31, .ireturn, 32, 1), (32, .iload_n 1, 33, 1), (33, .istore 4, 35, 2), (35, .iconst 0, 36, 1), (36, .istore 5, 38, 2), (38, .iconst 0, 39, 1), (39, .istore 6, 41, 2), (41, .iload 6, 43, 2), (43, .bipush 10, 45, 2), (45, .if_icmp .ge 72, 48, 3), (48, .aload_n 0, 49, 1), (49, .iconst 1, 50, 1), (50, .iconst 0, 51, 1), (51, .invokevirtual 391, 54, 3), (54, .aload_n 0, 55, 1), (55, .getfield 81, 58, 3), (58, .iconst 1, 59, 1), (59, .iload 4, 61, 2), (61, .iastore, 62, 1), (62, .iconst 0, 63, 1), (63, .istore 7, 65, 2), (65, .iload 7, 67, 2), (67, .iload_n 2, 68, 1), (68, .if_icmp .ge 15, 71, 3), (71, .aload_n 0, 72, 1), (72, .iconst 1, 73, 1), (73, .iconst 1, 74, 1), (74, .invokevirtual 387, 77, 3), (77, .iinc 7 1, 80, 3), (80, .goto (-15), 83, 3), (83, .aload_n 0, 84, 1), (84, .getfield 81, 87, 3), (87, .iconst 1, 88, 1), (88, .iaload, 89, 1), (89, .istore 4, 91, 2), (91, .iload 5, 93, 2), (93, .aload_n 0, 94, 1), (94, .iconst 1, 95, 1), (95, .iconst 3, 96, 1), (96, .invokevirtual 422, 99, 3), (99, .iload_n 3, 100, 1), (100, .if_icmp .lt 7, 103, 3), (103, .iconst 1, 104, 1), (104, .goto 4, 107, 3), (107, .iconst 0, 108, 1), (108, .iadd, 109, 1), (109, .istore 5, 111, 2), (111, .iinc 6 1, 114, 3), (114, .goto (-73), 117, 3), (117, .iload 5, 119, 2), (119, .ireturn, 120, 1)])
theorem ok10_chance : MOk m10_chance := ⟨by decide, mem_g 1929 (by decide +kernel) rfl, ini10, ⟨by decide, by decide⟩, by decide, by unfold MDe; decide +kernel⟩
def m10_tried : MD := (yX10_tried, cX10_tried, 5, (some (Jvm.ClassFile.FieldType.int)), [(0, .aload_n 0, 1, 1), (1, .iconst 0, 2, 1), (2, .putfield 151, 5, 3), (5, .iload_n 1, 6, 1), (6, .iconst 2, 7, 1), (7, .if_icmp .ne 11, 10, 3), (10, .aload_n 0, 11, 1), (11, .iload_n 2, 12, 1), (12, .invokevirtual 397, 15, 3), (15, .goto 21, 18, 3), (18, .iload_n 1, 19, 1), (19, .ifCond .lt 16, 22, 3), (22, .iload_n 1, 23, 1), (23, .iconst 5, 24, 1), (24, .if_icmp .gt 11, 27, 3), (27, .iload_n 2, 28, 1), (28, .ifCond .ne 7, 31, 3), (31, .iconst 1, 32, 1), (32, .goto 4, 35, 3), (35, .iconst 0, 36, 1), (36, .istore 4, 38, 2), (38, .iload 4, 40, 2), (40, .ifCond .eq 13, 43, 3), (43, .iload_n 3, 44, 1), (44, .ifCond .lt 9, 47, 3), (47, .iload_n 3, 48, 1), (48, .bipush 99, 50, 2), (50, .if_icmp .le 5, 53, 3), (53, .iconst (-1), 54, 1), (54, .ireturn, 55, 1), (55, .aload_n 0, 56, 1), (56, .iconst 1, 57, 1), (57, .iconst 0, 58, 1), (58, .invokevirtual 391, 61, 3), (61, .iload_n 1, 62, 1), (62, .iconst 4, 63, 1), (63, .if_icmp .ne 11, 66, 3), (66, .aload_n 0, 67, 1), (67, .getfield 84, 70, 3), (70, .iconst 1, 71, 1), (71, .bipush 20, 73, 2), (73, .iastore, 74, 1), (74, .aload_n 0, 75, 1), (75, .iload_n 1, 76, 1), (76, .putfield 361, 79, 3), (79, .aload_n 0, 80, 1), (80, .iload_n 2, 81, 1), (81, .putfield 117, 84, 3), (84, .aload_n 0, 85, 1), (85, .iload_n 3, 86, 1), (86, .invokevirtual 394, 89, 3), (89, .aload_n 0, 90, 1), (90, .iconst 0, 91, 1), (91, .putfield 361, 94, 3), (94, .aload_n 0, 95, 1), (95, .iconst (-1), 96, 1), (96, .putfield 117, 99, 3), (99, .aload_n 0, 100, 1), (100, .getfield 87, 103, 3), (103, .iconst 1, 104, 1), (104, .iaload, 105, 1), (105, .aload_n 0, 106, 1), (106, .getfield 87, 109, 3), (109, .iconst 0, 110, 1), (110, .iaload, 111, 1), (111, .isub, 112, 1), (112, .ireturn, 113, 1)])
theorem ok10_tried : MOk m10_tried := ⟨by decide, mem_g 1933 (by decide +kernel) rfl, ini10, ⟨by decide, by decide⟩, by decide, by unfold MDe; decide +kernel⟩
def m10_undo : MD := (yX10_undo, cX10_undo, 1, (some (Jvm.ClassFile.FieldType.int)), [(0, .aload_n 0, 1, 1), (1, .iconst 0, 2, 1), (2, .putfield 151, 5, 3), (5, .aload_n 0, 6, 1), (6, .getfield 307, 9, 3), (9, .ifCond .ne 5, 12, 3), (12, .iconst (-1), 13, 1), (13, .ireturn, 14, 1), (14, .aload_n 0, 15, 1), (15, .dup, 16, 1), (16, .getfield 307, 19, 3), (19, .iconst 1, 20, 1), (20, .isub, 21, 1), (21, .putfield 307, 24, 3), (24, .aload_n 0, 25, 1), (25, .iconst 0, 26, 1), (26, .iconst 3, 27, 1), (27, .aload_n 0, 28, 1), (28, .getfield 307, 31, 3), (31, .iadd, 32, 1), (32, .invokevirtual 391, 35, 3), (35, .aload_n 0, 36, 1), (36, .getfield 307, 39, 3), (39, .ireturn, 40, 1)])
theorem ok10_undo : MOk m10_undo := ⟨by decide, mem_g 1937 (by decide +kernel) rfl, ini10, ⟨by decide, by decide⟩, by decide, by unfold MDe; decide +kernel⟩
def m10_keep : MD := (yX10_keep, cX10_keep, 1, (some (Jvm.ClassFile.FieldType.int)), [(0, .aload_n 0, 1, 1), (1, .iconst 0, 2, 1), (2, .putfield 151, 5, 3), (5, .aload_n 0, 6, 1), (6, .iconst 2, 7, 1), (7, .iconst 0, 8, 1), (8, .invokevirtual 391, 11, 3), (11, .aload_n 0, 12, 1), (12, .iconst 1, 13, 1), (13, .putfield 303, 16, 3), (16, .aload_n 0, 17, 1), (17, .getfield 78, 20, 3), (20, .iconst 0, 21, 1), (21, .iaload, 22, 1), (22, .ireturn, 23, 1)])
theorem ok10_keep : MOk m10_keep := ⟨by decide, mem_g 1941 (by decide +kernel) rfl, ini10, ⟨by decide, by decide⟩, by decide, by unfold MDe; decide +kernel⟩
def m10_back : MD := (yX10_back, cX10_back, 1, (some (Jvm.ClassFile.FieldType.int)), [(0, .aload_n 0, 1, 1), (1, .iconst 0, 2, 1), (2, .putfield 151, 5, 3), (5, .aload_n 0, 6, 1), (6, .getfield 303, 9, 3), (9, .ifCond .ne 5, 12, 3), (12, .iconst (-1), 13, 1), (13, .ireturn, 14, 1), (14, .aload_n 0, 15, 1), (15, .iconst 0, 16, 1), (16, .iconst 2, 17, 1), (17, .invokevirtual 391, 20, 3), (20, .aload_n 0, 21, 1), (21, .iconst 0, 22, 1), (22, .putfield 307, 25, 3), (25, .aload_n 0, 26, 1), (26, .getfield 78, 29, 3), (29, .iconst 0, 30, 1), (30, .iaload, 31, 1), (31, .ireturn, 32, 1)])
theorem ok10_back : MOk m10_back := ⟨by decide, mem_g 1945 (by decide +kernel) rfl, ini10, ⟨by decide, by decide⟩, by decide, by unfold MDe; decide +kernel⟩
def m10_count : MD := (yX10_count, cX10_count, 2, (some (Jvm.ClassFile.FieldType.int)), [(0, .aload_n 0, 1, 1), (1, .iconst 0, 2, 1), (2, .putfield 151, 5, 3), (5, .iload_n 1, 6, 1), (6, .tableswitch 185 0 15 #[78, 85, 92, 99, 107, 114, 121, 128, 135, 142, 149, 156, 163, 170, 175, 180], 84, 78), (84, .aload_n 0, 85, 1), (85, .getfield 13, 88, 3), (88, .iconst 0, 89, 1), (89, .iaload, 90, 1), (90, .ireturn, 91, 1), (91, .aload_n 0, 92, 1), (92, .getfield 13, 95, 3), (95, .iconst 1, 96, 1), (96, .iaload, 97, 1), (97, .ireturn, 98, 1), (98, .aload_n 0, 99, 1), (99, .getfield 13, 102, 3), (102, .iconst 3, 103, 1), (103, .iaload, 104, 1), (104, .ireturn, 105, 1), (105, .aload_n 0, 106, 1), (106, .getfield 13, 109, 3), (109, .bipush 7, 111, 2), (111, .iaload, 112, 1), (112, .ireturn, 113, 1), (113, .aload_n 0, 114, 1), (114, .getfield 78, 117, 3), (117, .iconst 0, 118, 1), (118, .iaload, 119, 1), (119, .ireturn, 120, 1), (120, .aload_n 0, 121, 1), (121, .iconst 0, 122, 1), (122, .iconst 0, 123, 1), (123, .invokevirtual 422, 126, 3), (126, .ireturn, 127, 1), (127, .aload_n 0, 128, 1), (128, .iconst 0, 129, 1), (129, .iconst 1, 130, 1), (130, .invokevirtual 422, 133, 3), (133, .ireturn, 134, 1), (134, .aload_n 0, 135, 1), (135, .iconst 0, 136, 1), (136, .iconst 3, 137, 1), (137, .invokevirtual 422, 140, 3), (140, .ireturn, 141, 1), (141, .aload_n 0, 142, 1), (142, .getfield 87, 145, 3), (145, .iconst 0, 146, 1), (146, .iaload, 147, 1), (147, .ireturn, 148, 1), (148, .aload_n 0, 149, 1), (149, .iconst 0, 150, 1), (150, .iconst 1, 151, 1), (151, .invokevirtual 419, 154, 3), (154, .ireturn, 155, 1), (155, .aload_n 0, 156, 1), (156, .iconst 0, 157, 1), (157, .iconst 2, 158, 1), (158, .invokevirtual 419, 161, 3), (161, .ireturn, 162, 1), (162, .aload_n 0, 163, 1), (163, .getfield 90, 166, 3), (166, .iconst 0, 167, 1), (167, .iaload, 168, 1), (168, .ireturn, 169, 1), (169, .aload_n 0, 170, 1), (170, .getfield 84, 173, 3), (173, .iconst 0, 174, 1), (174, .iaload, 175, 1), (175, .ireturn, 176, 1), (176, .aload_n 0, 177, 1), (177, .getfield 300, 180, 3), (180, .ireturn, 181, 1), (181, .aload_n 0, 182, 1), (182, .invokevirtual 464, 185, 3), (185, .ireturn, 186, 1), (186, .aload_n 0, 187, 1), (187, .getfield 307, 190, 3), (190, .ireturn, 191, 1), (191, .iconst (-1), 192, 1), (192, .ireturn, 193, 1)])
theorem ok10_count : MOk m10_count := ⟨by decide, mem_g 1949 (by decide +kernel) rfl, ini10, ⟨by decide, by decide⟩, by decide, by unfold MDe; decide +kernel⟩
end
section
theorem f9_11 : Fl RX9 11 9 0 := ⟨by decide, by decide, mem_g 517 (by decide +kernel) rfl, rfl⟩
theorem f9_18 : Fl RX9 18 9 2 := ⟨by decide, by decide, mem_g 519 (by decide +kernel) rfl, rfl⟩
theorem f9_25 : Fl RX9 25 9 3 := ⟨by decide, by decide, mem_g 520 (by decide +kernel) rfl, rfl⟩
theorem f9_34 : Fl RX9 34 9 4 := ⟨by decide, by decide, mem_g 521 (by decide +kernel) rfl, rfl⟩
theorem f9_41 : Fl RX9 41 9 5 := ⟨by decide, by decide, mem_g 522 (by decide +kernel) rfl, rfl⟩
theorem f9_45 : Fl RX9 45 9 6 := ⟨by decide, by decide, mem_g 523 (by decide +kernel) rfl, rfl⟩
theorem f9_48 : Fl RX9 48 9 7 := ⟨by decide, by decide, mem_g 524 (by decide +kernel) rfl, rfl⟩
theorem f9_54 : Fl RX9 54 9 9 := ⟨by decide, by decide, mem_g 526 (by decide +kernel) rfl, rfl⟩
theorem f9_61 : Fl RX9 61 9 10 := ⟨by decide, by decide, mem_g 527 (by decide +kernel) rfl, rfl⟩
theorem f9_65 : Fl RX9 65 9 11 := ⟨by decide, by decide, mem_g 528 (by decide +kernel) rfl, rfl⟩
theorem f9_69 : Fl RX9 69 9 12 := ⟨by decide, by decide, mem_g 529 (by decide +kernel) rfl, rfl⟩
theorem f9_75 : Fl RX9 75 9 1 := ⟨by decide, by decide, mem_g 518 (by decide +kernel) rfl, rfl⟩
theorem f9_87 : Fl RX9 87 2 3 := ⟨by decide, by decide, mem_g 340 (by decide +kernel) rfl, rfl⟩
theorem f9_90 : Fl RX9 90 2 0 := ⟨by decide, by decide, mem_g 336 (by decide +kernel) rfl, rfl⟩
theorem f9_98 : Fl RX9 98 9 8 := ⟨by decide, by decide, mem_g 525 (by decide +kernel) rfl, rfl⟩
theorem f9_102 : Fl RX9 102 2 5 := ⟨by decide, by decide, mem_g 344 (by decide +kernel) rfl, rfl⟩
theorem f9_105 : Fl RX9 105 2 4 := ⟨by decide, by decide, mem_g 342 (by decide +kernel) rfl, rfl⟩
theorem f9_108 : Fl RX9 108 3 0 := ⟨by decide, by decide, mem_g 208 (by decide +kernel) rfl, rfl⟩
theorem f9_118 : Fl RX9 118 3 1 := ⟨by decide, by decide, mem_g 212 (by decide +kernel) rfl, rfl⟩
theorem f9_136 : Fl RX9 136 6 1 := ⟨by decide, by decide, mem_g 395 (by decide +kernel) rfl, rfl⟩
theorem f9_139 : Fl RX9 139 6 2 := ⟨by decide, by decide, mem_g 399 (by decide +kernel) rfl, rfl⟩
theorem f9_142 : Fl RX9 142 6 0 := ⟨by decide, by decide, mem_g 390 (by decide +kernel) rfl, rfl⟩
theorem f9_145 : Fl RX9 145 6 4 := ⟨by decide, by decide, mem_g 405 (by decide +kernel) rfl, rfl⟩
theorem f9_148 : Fl RX9 148 6 5 := ⟨by decide, by decide, mem_g 408 (by decide +kernel) rfl, rfl⟩
theorem f9_160 : Fl RX9 160 6 7 := ⟨by decide, by decide, mem_g 414 (by decide +kernel) rfl, rfl⟩
theorem f9_162 : Fl RX9 162 3 3 := ⟨by decide, by decide, mem_g 220 (by decide +kernel) rfl, rfl⟩
theorem f9_165 : Fl RX9 165 6 6 := ⟨by decide, by decide, mem_g 412 (by decide +kernel) rfl, rfl⟩
theorem f9_172 : Fl RX9 172 3 4 := ⟨by decide, by decide, mem_g 224 (by decide +kernel) rfl, rfl⟩
theorem f9_186 : Fl RX9 186 6 9 := ⟨by decide, by decide, mem_g 422 (by decide +kernel) rfl, rfl⟩
theorem f9_197 : Fl RX9 197 6 3 := ⟨by decide, by decide, mem_g 402 (by decide +kernel) rfl, rfl⟩
theorem f9_206 : Fl RX9 206 6 8 := ⟨by decide, by decide, mem_g 418 (by decide +kernel) rfl, rfl⟩
theorem f9_221 : Fl RX9 221 6 10 := ⟨by decide, by decide, mem_g 425 (by decide +kernel) rfl, rfl⟩
theorem f9_224 : Fl RX9 224 6 11 := ⟨by decide, by decide, mem_g 428 (by decide +kernel) rfl, rfl⟩
theorem f9_227 : Fl RX9 227 6 12 := ⟨by decide, by decide, mem_g 431 (by decide +kernel) rfl, rfl⟩
theorem f9_291 : Fl RX9 291 3 6 := ⟨by decide, by decide, mem_g 232 (by decide +kernel) rfl, rfl⟩
theorem f9_300 : Fl RX9 300 4 2 := ⟨by decide, by decide, mem_g 165 (by decide +kernel) rfl, rfl⟩
theorem f9_306 : Fl RX9 306 8 0 := ⟨by decide, by decide, mem_g 477 (by decide +kernel) rfl, rfl⟩
theorem f9_309 : Fl RX9 309 8 1 := ⟨by decide, by decide, mem_g 479 (by decide +kernel) rfl, rfl⟩
theorem f9_343 : Fl RX9 343 6 14 := ⟨by decide, by decide, mem_g 436 (by decide +kernel) rfl, rfl⟩
theorem f9_350 : Fl RX9 350 7 0 := ⟨by decide, by decide, mem_g 494 (by decide +kernel) rfl, rfl⟩
theorem f9_354 : Fl RX9 354 1 6 := ⟨by decide, by decide, mem_g 189 (by decide +kernel) rfl, rfl⟩
theorem f9_357 : Fl RX9 357 6 13 := ⟨by decide, by decide, mem_g 434 (by decide +kernel) rfl, rfl⟩
theorem f0_11 : Fl RX0 11 0 1 := ⟨by decide, by decide, mem_g 367 (by decide +kernel) rfl, rfl⟩
theorem f0_15 : Fl RX0 15 0 0 := ⟨by decide, by decide, mem_g 366 (by decide +kernel) rfl, rfl⟩
theorem f0_19 : Fl RX0 19 0 2 := ⟨by decide, by decide, mem_g 368 (by decide +kernel) rfl, rfl⟩
theorem f0_23 : Fl RX0 23 0 3 := ⟨by decide, by decide, mem_g 369 (by decide +kernel) rfl, rfl⟩
theorem f0_27 : Fl RX0 27 0 4 := ⟨by decide, by decide, mem_g 370 (by decide +kernel) rfl, rfl⟩
theorem f0_30 : Fl RX0 30 6 8 := ⟨by decide, by decide, mem_g 417 (by decide +kernel) rfl, rfl⟩
theorem f0_35 : Fl RX0 35 3 9 := ⟨by decide, by decide, mem_g 240 (by decide +kernel) rfl, rfl⟩
theorem f0_40 : Fl RX0 40 3 8 := ⟨by decide, by decide, mem_g 237 (by decide +kernel) rfl, rfl⟩
theorem f0_59 : Fl RX0 59 3 2 := ⟨by decide, by decide, mem_g 216 (by decide +kernel) rfl, rfl⟩
theorem f0_69 : Fl RX0 69 4 2 := ⟨by decide, by decide, mem_g 164 (by decide +kernel) rfl, rfl⟩
theorem f0_76 : Fl RX0 76 6 9 := ⟨by decide, by decide, mem_g 421 (by decide +kernel) rfl, rfl⟩
theorem f0_90 : Fl RX0 90 6 13 := ⟨by decide, by decide, mem_g 433 (by decide +kernel) rfl, rfl⟩
theorem f0_96 : Fl RX0 96 6 0 := ⟨by decide, by decide, mem_g 391 (by decide +kernel) rfl, rfl⟩
theorem f0_99 : Fl RX0 99 6 4 := ⟨by decide, by decide, mem_g 406 (by decide +kernel) rfl, rfl⟩
theorem f0_102 : Fl RX0 102 3 4 := ⟨by decide, by decide, mem_g 223 (by decide +kernel) rfl, rfl⟩
theorem f0_120 : Fl RX0 120 3 3 := ⟨by decide, by decide, mem_g 221 (by decide +kernel) rfl, rfl⟩
theorem f0_127 : Fl RX0 127 6 6 := ⟨by decide, by decide, mem_g 411 (by decide +kernel) rfl, rfl⟩
theorem f0_129 : Fl RX0 129 6 12 := ⟨by decide, by decide, mem_g 430 (by decide +kernel) rfl, rfl⟩
theorem f0_132 : Fl RX0 132 6 11 := ⟨by decide, by decide, mem_g 427 (by decide +kernel) rfl, rfl⟩
theorem f0_135 : Fl RX0 135 6 5 := ⟨by decide, by decide, mem_g 409 (by decide +kernel) rfl, rfl⟩
theorem f0_138 : Fl RX0 138 6 10 := ⟨by decide, by decide, mem_g 424 (by decide +kernel) rfl, rfl⟩
theorem f0_141 : Fl RX0 141 3 1 := ⟨by decide, by decide, mem_g 214 (by decide +kernel) rfl, rfl⟩
theorem f0_144 : Fl RX0 144 6 7 := ⟨by decide, by decide, mem_g 415 (by decide +kernel) rfl, rfl⟩
theorem f0_151 : Fl RX0 151 3 6 := ⟨by decide, by decide, mem_g 231 (by decide +kernel) rfl, rfl⟩
theorem f0_159 : Fl RX0 159 6 1 := ⟨by decide, by decide, mem_g 396 (by decide +kernel) rfl, rfl⟩
theorem f0_171 : Fl RX0 171 3 0 := ⟨by decide, by decide, mem_g 209 (by decide +kernel) rfl, rfl⟩
theorem f1_9 : Fl RX1 9 1 0 := ⟨by decide, by decide, mem_g 181 (by decide +kernel) rfl, rfl⟩
theorem f1_15 : Fl RX1 15 1 1 := ⟨by decide, by decide, mem_g 182 (by decide +kernel) rfl, rfl⟩
theorem f1_18 : Fl RX1 18 1 2 := ⟨by decide, by decide, mem_g 183 (by decide +kernel) rfl, rfl⟩
theorem f1_21 : Fl RX1 21 1 3 := ⟨by decide, by decide, mem_g 184 (by decide +kernel) rfl, rfl⟩
theorem f1_25 : Fl RX1 25 1 4 := ⟨by decide, by decide, mem_g 185 (by decide +kernel) rfl, rfl⟩
theorem f1_29 : Fl RX1 29 1 6 := ⟨by decide, by decide, mem_g 187 (by decide +kernel) rfl, rfl⟩
theorem f1_32 : Fl RX1 32 1 5 := ⟨by decide, by decide, mem_g 186 (by decide +kernel) rfl, rfl⟩
theorem f2_12 : Fl RX2 12 2 0 := ⟨by decide, by decide, mem_g 335 (by decide +kernel) rfl, rfl⟩
theorem f2_21 : Fl RX2 21 2 1 := ⟨by decide, by decide, mem_g 337 (by decide +kernel) rfl, rfl⟩
theorem f2_25 : Fl RX2 25 2 4 := ⟨by decide, by decide, mem_g 341 (by decide +kernel) rfl, rfl⟩
theorem f2_32 : Fl RX2 32 2 2 := ⟨by decide, by decide, mem_g 338 (by decide +kernel) rfl, rfl⟩
theorem f2_35 : Fl RX2 35 2 3 := ⟨by decide, by decide, mem_g 339 (by decide +kernel) rfl, rfl⟩
theorem f2_38 : Fl RX2 38 2 5 := ⟨by decide, by decide, mem_g 343 (by decide +kernel) rfl, rfl⟩
theorem f2_48 : Fl RX2 48 5 4 := ⟨by decide, by decide, mem_g 315 (by decide +kernel) rfl, rfl⟩
theorem f2_58 : Fl RX2 58 5 5 := ⟨by decide, by decide, mem_g 316 (by decide +kernel) rfl, rfl⟩
theorem f2_78 : Fl RX2 78 3 5 := ⟨by decide, by decide, mem_g 228 (by decide +kernel) rfl, rfl⟩
theorem f2_81 : Fl RX2 81 3 6 := ⟨by decide, by decide, mem_g 230 (by decide +kernel) rfl, rfl⟩
theorem f2_85 : Fl RX2 85 3 7 := ⟨by decide, by decide, mem_g 235 (by decide +kernel) rfl, rfl⟩
theorem f2_91 : Fl RX2 91 3 0 := ⟨by decide, by decide, mem_g 207 (by decide +kernel) rfl, rfl⟩
theorem f2_116 : Fl RX2 116 3 1 := ⟨by decide, by decide, mem_g 213 (by decide +kernel) rfl, rfl⟩
theorem f2_122 : Fl RX2 122 3 2 := ⟨by decide, by decide, mem_g 217 (by decide +kernel) rfl, rfl⟩
theorem f2_125 : Fl RX2 125 3 8 := ⟨by decide, by decide, mem_g 238 (by decide +kernel) rfl, rfl⟩
theorem f2_133 : Fl RX2 133 3 3 := ⟨by decide, by decide, mem_g 219 (by decide +kernel) rfl, rfl⟩
theorem f2_136 : Fl RX2 136 3 9 := ⟨by decide, by decide, mem_g 241 (by decide +kernel) rfl, rfl⟩
theorem f2_143 : Fl RX2 143 5 6 := ⟨by decide, by decide, mem_g 319 (by decide +kernel) rfl, rfl⟩
theorem f2_149 : Fl RX2 149 3 4 := ⟨by decide, by decide, mem_g 225 (by decide +kernel) rfl, rfl⟩
theorem f2_168 : Fl RX2 168 1 6 := ⟨by decide, by decide, mem_g 188 (by decide +kernel) rfl, rfl⟩
theorem f3_14 : Fl RX3 14 3 0 := ⟨by decide, by decide, mem_g 206 (by decide +kernel) rfl, rfl⟩
theorem f3_20 : Fl RX3 20 3 1 := ⟨by decide, by decide, mem_g 210 (by decide +kernel) rfl, rfl⟩
theorem f3_23 : Fl RX3 23 3 2 := ⟨by decide, by decide, mem_g 215 (by decide +kernel) rfl, rfl⟩
theorem f3_26 : Fl RX3 26 3 3 := ⟨by decide, by decide, mem_g 218 (by decide +kernel) rfl, rfl⟩
theorem f3_32 : Fl RX3 32 3 4 := ⟨by decide, by decide, mem_g 222 (by decide +kernel) rfl, rfl⟩
theorem f3_36 : Fl RX3 36 3 5 := ⟨by decide, by decide, mem_g 226 (by decide +kernel) rfl, rfl⟩
theorem f3_40 : Fl RX3 40 3 8 := ⟨by decide, by decide, mem_g 236 (by decide +kernel) rfl, rfl⟩
theorem f3_43 : Fl RX3 43 3 9 := ⟨by decide, by decide, mem_g 239 (by decide +kernel) rfl, rfl⟩
theorem f3_46 : Fl RX3 46 4 2 := ⟨by decide, by decide, mem_g 161 (by decide +kernel) rfl, rfl⟩
theorem f3_52 : Fl RX3 52 3 6 := ⟨by decide, by decide, mem_g 229 (by decide +kernel) rfl, rfl⟩
theorem f3_55 : Fl RX3 55 3 7 := ⟨by decide, by decide, mem_g 233 (by decide +kernel) rfl, rfl⟩
theorem f4_9 : Fl RX4 9 4 0 := ⟨by decide, by decide, mem_g 157 (by decide +kernel) rfl, rfl⟩
theorem f4_17 : Fl RX4 17 4 1 := ⟨by decide, by decide, mem_g 158 (by decide +kernel) rfl, rfl⟩
theorem f4_20 : Fl RX4 20 4 2 := ⟨by decide, by decide, mem_g 159 (by decide +kernel) rfl, rfl⟩
theorem f5_11 : Fl RX5 11 5 0 := ⟨by decide, by decide, mem_g 310 (by decide +kernel) rfl, rfl⟩
theorem f5_15 : Fl RX5 15 5 1 := ⟨by decide, by decide, mem_g 311 (by decide +kernel) rfl, rfl⟩
theorem f5_33 : Fl RX5 33 5 2 := ⟨by decide, by decide, mem_g 312 (by decide +kernel) rfl, rfl⟩
theorem f5_37 : Fl RX5 37 5 3 := ⟨by decide, by decide, mem_g 313 (by decide +kernel) rfl, rfl⟩
theorem f5_40 : Fl RX5 40 5 4 := ⟨by decide, by decide, mem_g 314 (by decide +kernel) rfl, rfl⟩
theorem f5_43 : Fl RX5 43 5 5 := ⟨by decide, by decide, mem_g 317 (by decide +kernel) rfl, rfl⟩
theorem f5_55 : Fl RX5 55 5 6 := ⟨by decide, by decide, mem_g 318 (by decide +kernel) rfl, rfl⟩
theorem f6_9 : Fl RX6 9 6 0 := ⟨by decide, by decide, mem_g 388 (by decide +kernel) rfl, rfl⟩
theorem f6_15 : Fl RX6 15 6 1 := ⟨by decide, by decide, mem_g 393 (by decide +kernel) rfl, rfl⟩
theorem f6_18 : Fl RX6 18 6 2 := ⟨by decide, by decide, mem_g 397 (by decide +kernel) rfl, rfl⟩
theorem f6_21 : Fl RX6 21 6 3 := ⟨by decide, by decide, mem_g 400 (by decide +kernel) rfl, rfl⟩
theorem f6_24 : Fl RX6 24 6 4 := ⟨by decide, by decide, mem_g 403 (by decide +kernel) rfl, rfl⟩
theorem f6_27 : Fl RX6 27 6 5 := ⟨by decide, by decide, mem_g 407 (by decide +kernel) rfl, rfl⟩
theorem f6_30 : Fl RX6 30 6 6 := ⟨by decide, by decide, mem_g 410 (by decide +kernel) rfl, rfl⟩
theorem f6_33 : Fl RX6 33 3 1 := ⟨by decide, by decide, mem_g 211 (by decide +kernel) rfl, rfl⟩
theorem f6_39 : Fl RX6 39 4 2 := ⟨by decide, by decide, mem_g 160 (by decide +kernel) rfl, rfl⟩
theorem f6_51 : Fl RX6 51 6 7 := ⟨by decide, by decide, mem_g 413 (by decide +kernel) rfl, rfl⟩
theorem f6_56 : Fl RX6 56 6 8 := ⟨by decide, by decide, mem_g 416 (by decide +kernel) rfl, rfl⟩
theorem f6_59 : Fl RX6 59 3 5 := ⟨by decide, by decide, mem_g 227 (by decide +kernel) rfl, rfl⟩
theorem f6_62 : Fl RX6 62 6 9 := ⟨by decide, by decide, mem_g 419 (by decide +kernel) rfl, rfl⟩
theorem f6_63 : Fl RX6 63 6 10 := ⟨by decide, by decide, mem_g 423 (by decide +kernel) rfl, rfl⟩
theorem f6_66 : Fl RX6 66 6 11 := ⟨by decide, by decide, mem_g 426 (by decide +kernel) rfl, rfl⟩
theorem f6_69 : Fl RX6 69 6 12 := ⟨by decide, by decide, mem_g 429 (by decide +kernel) rfl, rfl⟩
theorem f6_72 : Fl RX6 72 6 13 := ⟨by decide, by decide, mem_g 432 (by decide +kernel) rfl, rfl⟩
theorem f6_75 : Fl RX6 75 3 7 := ⟨by decide, by decide, mem_g 234 (by decide +kernel) rfl, rfl⟩
theorem f6_78 : Fl RX6 78 6 14 := ⟨by decide, by decide, mem_g 435 (by decide +kernel) rfl, rfl⟩
theorem f7_14 : Fl RX7 14 7 0 := ⟨by decide, by decide, mem_g 493 (by decide +kernel) rfl, rfl⟩
theorem f7_20 : Fl RX7 20 4 2 := ⟨by decide, by decide, mem_g 163 (by decide +kernel) rfl, rfl⟩
theorem f7_41 : Fl RX7 41 6 9 := ⟨by decide, by decide, mem_g 420 (by decide +kernel) rfl, rfl⟩
theorem f7_59 : Fl RX7 59 6 0 := ⟨by decide, by decide, mem_g 389 (by decide +kernel) rfl, rfl⟩
theorem f7_63 : Fl RX7 63 6 4 := ⟨by decide, by decide, mem_g 404 (by decide +kernel) rfl, rfl⟩
theorem f7_66 : Fl RX7 66 6 2 := ⟨by decide, by decide, mem_g 398 (by decide +kernel) rfl, rfl⟩
theorem f7_69 : Fl RX7 69 6 3 := ⟨by decide, by decide, mem_g 401 (by decide +kernel) rfl, rfl⟩
theorem f7_72 : Fl RX7 72 6 1 := ⟨by decide, by decide, mem_g 394 (by decide +kernel) rfl, rfl⟩
theorem f8_14 : Fl RX8 14 8 0 := ⟨by decide, by decide, mem_g 476 (by decide +kernel) rfl, rfl⟩
theorem f8_20 : Fl RX8 20 8 1 := ⟨by decide, by decide, mem_g 478 (by decide +kernel) rfl, rfl⟩
theorem f8_24 : Fl RX8 24 4 2 := ⟨by decide, by decide, mem_g 162 (by decide +kernel) rfl, rfl⟩
theorem f8_63 : Fl RX8 63 6 0 := ⟨by decide, by decide, mem_g 392 (by decide +kernel) rfl, rfl⟩
theorem f10_7 : Fl RX10 7 10 1 := ⟨by decide, by decide, mem_g 1320 (by decide +kernel) rfl, rfl⟩
theorem f10_13 : Fl RX10 13 10 3 := ⟨by decide, by decide, mem_g 1322 (by decide +kernel) rfl, rfl⟩
theorem f10_16 : Fl RX10 16 10 4 := ⟨by decide, by decide, mem_g 1323 (by decide +kernel) rfl, rfl⟩
theorem f10_19 : Fl RX10 19 10 5 := ⟨by decide, by decide, mem_g 1324 (by decide +kernel) rfl, rfl⟩
theorem f10_22 : Fl RX10 22 10 6 := ⟨by decide, by decide, mem_g 1325 (by decide +kernel) rfl, rfl⟩
theorem f10_25 : Fl RX10 25 10 7 := ⟨by decide, by decide, mem_g 1326 (by decide +kernel) rfl, rfl⟩
theorem f10_28 : Fl RX10 28 10 8 := ⟨by decide, by decide, mem_g 1327 (by decide +kernel) rfl, rfl⟩
theorem f10_31 : Fl RX10 31 10 9 := ⟨by decide, by decide, mem_g 1328 (by decide +kernel) rfl, rfl⟩
theorem f10_34 : Fl RX10 34 10 10 := ⟨by decide, by decide, mem_g 1329 (by decide +kernel) rfl, rfl⟩
theorem f10_37 : Fl RX10 37 10 11 := ⟨by decide, by decide, mem_g 1330 (by decide +kernel) rfl, rfl⟩
theorem f10_40 : Fl RX10 40 10 12 := ⟨by decide, by decide, mem_g 1331 (by decide +kernel) rfl, rfl⟩
theorem f10_43 : Fl RX10 43 10 13 := ⟨by decide, by decide, mem_g 1332 (by decide +kernel) rfl, rfl⟩
theorem f10_46 : Fl RX10 46 10 14 := ⟨by decide, by decide, mem_g 1333 (by decide +kernel) rfl, rfl⟩
theorem f10_49 : Fl RX10 49 10 15 := ⟨by decide, by decide, mem_g 1334 (by decide +kernel) rfl, rfl⟩
theorem f10_52 : Fl RX10 52 10 16 := ⟨by decide, by decide, mem_g 1335 (by decide +kernel) rfl, rfl⟩
theorem f10_55 : Fl RX10 55 10 17 := ⟨by decide, by decide, mem_g 1336 (by decide +kernel) rfl, rfl⟩
theorem f10_58 : Fl RX10 58 10 18 := ⟨by decide, by decide, mem_g 1337 (by decide +kernel) rfl, rfl⟩
theorem f10_61 : Fl RX10 61 10 19 := ⟨by decide, by decide, mem_g 1338 (by decide +kernel) rfl, rfl⟩
theorem f10_64 : Fl RX10 64 10 20 := ⟨by decide, by decide, mem_g 1339 (by decide +kernel) rfl, rfl⟩
theorem f10_67 : Fl RX10 67 10 31 := ⟨by decide, by decide, mem_g 1350 (by decide +kernel) rfl, rfl⟩
theorem f10_71 : Fl RX10 71 10 34 := ⟨by decide, by decide, mem_g 1353 (by decide +kernel) rfl, rfl⟩
theorem f10_75 : Fl RX10 75 10 35 := ⟨by decide, by decide, mem_g 1354 (by decide +kernel) rfl, rfl⟩
theorem f10_78 : Fl RX10 78 10 37 := ⟨by decide, by decide, mem_g 1356 (by decide +kernel) rfl, rfl⟩
theorem f10_81 : Fl RX10 81 10 38 := ⟨by decide, by decide, mem_g 1357 (by decide +kernel) rfl, rfl⟩
theorem f10_84 : Fl RX10 84 10 39 := ⟨by decide, by decide, mem_g 1358 (by decide +kernel) rfl, rfl⟩
theorem f10_87 : Fl RX10 87 10 40 := ⟨by decide, by decide, mem_g 1359 (by decide +kernel) rfl, rfl⟩
theorem f10_90 : Fl RX10 90 10 41 := ⟨by decide, by decide, mem_g 1360 (by decide +kernel) rfl, rfl⟩
theorem f10_93 : Fl RX10 93 10 42 := ⟨by decide, by decide, mem_g 1361 (by decide +kernel) rfl, rfl⟩
theorem f10_96 : Fl RX10 96 10 43 := ⟨by decide, by decide, mem_g 1362 (by decide +kernel) rfl, rfl⟩
theorem f10_99 : Fl RX10 99 10 44 := ⟨by decide, by decide, mem_g 1363 (by decide +kernel) rfl, rfl⟩
theorem f10_102 : Fl RX10 102 10 45 := ⟨by decide, by decide, mem_g 1364 (by decide +kernel) rfl, rfl⟩
theorem f10_105 : Fl RX10 105 10 46 := ⟨by decide, by decide, mem_g 1365 (by decide +kernel) rfl, rfl⟩
theorem f10_108 : Fl RX10 108 10 47 := ⟨by decide, by decide, mem_g 1366 (by decide +kernel) rfl, rfl⟩
theorem f10_111 : Fl RX10 111 10 48 := ⟨by decide, by decide, mem_g 1367 (by decide +kernel) rfl, rfl⟩
theorem f10_114 : Fl RX10 114 10 49 := ⟨by decide, by decide, mem_g 1368 (by decide +kernel) rfl, rfl⟩
theorem f10_117 : Fl RX10 117 10 53 := ⟨by decide, by decide, mem_g 1372 (by decide +kernel) rfl, rfl⟩
theorem f10_120 : Fl RX10 120 10 54 := ⟨by decide, by decide, mem_g 1373 (by decide +kernel) rfl, rfl⟩
theorem f10_123 : Fl RX10 123 10 55 := ⟨by decide, by decide, mem_g 1374 (by decide +kernel) rfl, rfl⟩
theorem f10_126 : Fl RX10 126 10 56 := ⟨by decide, by decide, mem_g 1375 (by decide +kernel) rfl, rfl⟩
theorem f10_129 : Fl RX10 129 10 60 := ⟨by decide, by decide, mem_g 1379 (by decide +kernel) rfl, rfl⟩
theorem f10_132 : Fl RX10 132 10 61 := ⟨by decide, by decide, mem_g 1380 (by decide +kernel) rfl, rfl⟩
theorem f10_135 : Fl RX10 135 10 62 := ⟨by decide, by decide, mem_g 1381 (by decide +kernel) rfl, rfl⟩
theorem f10_138 : Fl RX10 138 10 63 := ⟨by decide, by decide, mem_g 1382 (by decide +kernel) rfl, rfl⟩
theorem f10_141 : Fl RX10 141 10 64 := ⟨by decide, by decide, mem_g 1383 (by decide +kernel) rfl, rfl⟩
theorem f10_145 : Fl RX10 145 10 65 := ⟨by decide, by decide, mem_g 1384 (by decide +kernel) rfl, rfl⟩
theorem f10_151 : Fl RX10 151 10 0 := ⟨by decide, by decide, mem_g 1319 (by decide +kernel) rfl, rfl⟩
theorem f10_154 : Fl RX10 154 10 2 := ⟨by decide, by decide, mem_g 1321 (by decide +kernel) rfl, rfl⟩
theorem f10_157 : Fl RX10 157 10 24 := ⟨by decide, by decide, mem_g 1343 (by decide +kernel) rfl, rfl⟩
theorem f10_160 : Fl RX10 160 10 23 := ⟨by decide, by decide, mem_g 1342 (by decide +kernel) rfl, rfl⟩
theorem f10_167 : Fl RX10 167 10 25 := ⟨by decide, by decide, mem_g 1344 (by decide +kernel) rfl, rfl⟩
theorem f10_170 : Fl RX10 170 10 26 := ⟨by decide, by decide, mem_g 1345 (by decide +kernel) rfl, rfl⟩
theorem f10_180 : Fl RX10 180 10 27 := ⟨by decide, by decide, mem_g 1346 (by decide +kernel) rfl, rfl⟩
theorem f10_205 : Fl RX10 205 10 28 := ⟨by decide, by decide, mem_g 1347 (by decide +kernel) rfl, rfl⟩
theorem f10_208 : Fl RX10 208 10 29 := ⟨by decide, by decide, mem_g 1348 (by decide +kernel) rfl, rfl⟩
theorem f10_231 : Fl RX10 231 10 21 := ⟨by decide, by decide, mem_g 1340 (by decide +kernel) rfl, rfl⟩
theorem f10_255 : Fl RX10 255 10 22 := ⟨by decide, by decide, mem_g 1341 (by decide +kernel) rfl, rfl⟩
theorem f10_261 : Fl RX10 261 10 33 := ⟨by decide, by decide, mem_g 1352 (by decide +kernel) rfl, rfl⟩
theorem f10_287 : Fl RX10 287 10 32 := ⟨by decide, by decide, mem_g 1351 (by decide +kernel) rfl, rfl⟩
theorem f10_293 : Fl RX10 293 10 30 := ⟨by decide, by decide, mem_g 1349 (by decide +kernel) rfl, rfl⟩
theorem f10_300 : Fl RX10 300 10 59 := ⟨by decide, by decide, mem_g 1378 (by decide +kernel) rfl, rfl⟩
theorem f10_303 : Fl RX10 303 10 50 := ⟨by decide, by decide, mem_g 1369 (by decide +kernel) rfl, rfl⟩
theorem f10_307 : Fl RX10 307 10 51 := ⟨by decide, by decide, mem_g 1370 (by decide +kernel) rfl, rfl⟩
theorem f10_310 : Fl RX10 310 10 36 := ⟨by decide, by decide, mem_g 1355 (by decide +kernel) rfl, rfl⟩
theorem f10_361 : Fl RX10 361 10 52 := ⟨by decide, by decide, mem_g 1371 (by decide +kernel) rfl, rfl⟩
theorem f10_425 : Fl RX10 425 10 57 := ⟨by decide, by decide, mem_g 1376 (by decide +kernel) rfl, rfl⟩
theorem f10_431 : Fl RX10 431 10 58 := ⟨by decide, by decide, mem_g 1377 (by decide +kernel) rfl, rfl⟩
theorem v9_17 : LiN RX9 17 yX2_init 0 := ⟨by decide +kernel, mem_g 140 (by decide +kernel) rfl, rfl, Lp.of (by decide +kernel)⟩
theorem v9_24 : LiN RX9 24 yX3_init 0 := ⟨by decide +kernel, mem_g 146 (by decide +kernel) rfl, rfl, Lp.of (by decide +kernel)⟩
theorem v9_31 : Li RX9 31 yX0_init 1 := ⟨mem_g 362 (by decide +kernel) rfl, mem_g 363 (by decide +kernel) rfl, rfl, Lp.of (by decide +kernel)⟩
theorem v9_40 : LiN RX9 40 yX6_init 0 := ⟨by decide +kernel, mem_g 385 (by decide +kernel) rfl, rfl, Lp.of (by decide +kernel)⟩
theorem v9_53 : LiN RX9 53 yX8_init 0 := ⟨by decide +kernel, mem_g 471 (by decide +kernel) rfl, rfl, Lp.of (by decide +kernel)⟩
theorem v9_60 : LiN RX9 60 yX7_init 0 := ⟨by decide +kernel, mem_g 488 (by decide +kernel) rfl, rfl, Lp.of (by decide +kernel)⟩
theorem v9_72 : Lv RX9 72 yX6_begin 1 := ⟨mem_g 498 (by decide +kernel) rfl, mem_g 499 (by decide +kernel) rfl, mem_g 500 (by decide +kernel) rfl, Lp.of (by decide +kernel)⟩
theorem v9_79 : Lv RX9 79 yX9_tapeNumber 1 := ⟨mem_g 561 (by decide +kernel) rfl, mem_g 563 (by decide +kernel) rfl, mem_g 0 (by decide +kernel) rfl, Lp.of (by decide +kernel)⟩
theorem v9_83 : Lv RX9 83 yX2_read 2 := ⟨mem_g 569 (by decide +kernel) rfl, mem_g 570 (by decide +kernel) rfl, mem_g 571 (by decide +kernel) rfl, Lp.of (by decide +kernel)⟩
theorem v9_91 : Lv RX9 91 yX3_take 1 := ⟨mem_g 801 (by decide +kernel) rfl, mem_g 802 (by decide +kernel) rfl, mem_g 803 (by decide +kernel) rfl, Lp.of (by decide +kernel)⟩
theorem v9_94 : Lv RX9 94 yX8_clear 0 := ⟨mem_g 818 (by decide +kernel) rfl, mem_g 819 (by decide +kernel) rfl, mem_g 820 (by decide +kernel) rfl, Lp.of (by decide +kernel)⟩
theorem v9_97 : Lv RX9 97 yX7_clear 0 := ⟨mem_g 822 (by decide +kernel) rfl, mem_g 823 (by decide +kernel) rfl, mem_g 824 (by decide +kernel) rfl, Lp.of (by decide +kernel)⟩
theorem v9_112 : Lv RX9 112 yX4_rowOf 1 := ⟨mem_g 834 (by decide +kernel) rfl, mem_g 693 (by decide +kernel) rfl, mem_g 694 (by decide +kernel) rfl, Lp.of (by decide +kernel)⟩
theorem v9_121 : Lv RX9 121 yX6_has 1 := ⟨mem_g 873 (by decide +kernel) rfl, mem_g 862 (by decide +kernel) rfl, mem_g 863 (by decide +kernel) rfl, Lp.of (by decide +kernel)⟩
theorem v9_132 : Lv RX9 132 yX4_at 2 := ⟨mem_g 840 (by decide +kernel) rfl, mem_g 506 (by decide +kernel) rfl, mem_g 507 (by decide +kernel) rfl, Lp.of (by decide +kernel)⟩
theorem v9_156 : Lv RX9 156 yX4_has 1 := ⟨mem_g 839 (by decide +kernel) rfl, mem_g 510 (by decide +kernel) rfl, mem_g 511 (by decide +kernel) rfl, Lp.of (by decide +kernel)⟩
theorem v9_157 : Lv RX9 157 yX9_tinsOf 2 := ⟨mem_g 841 (by decide +kernel) rfl, mem_g 843 (by decide +kernel) rfl, mem_g 27 (by decide +kernel) rfl, Lp.of (by decide +kernel)⟩
theorem v9_167 : Lv RX9 167 yX6_isOnTop 1 := ⟨mem_g 853 (by decide +kernel) rfl, mem_g 854 (by decide +kernel) rfl, mem_g 855 (by decide +kernel) rfl, Lp.of (by decide +kernel)⟩
theorem v9_176 : Lv RX9 176 yX0_namesOf 3 := ⟨mem_g 875 (by decide +kernel) rfl, mem_g 876 (by decide +kernel) rfl, mem_g 877 (by decide +kernel) rfl, Lp.of (by decide +kernel)⟩
theorem v9_180 : Lv RX9 180 yX1_work 2 := ⟨mem_g 881 (by decide +kernel) rfl, mem_g 882 (by decide +kernel) rfl, mem_g 883 (by decide +kernel) rfl, Lp.of (by decide +kernel)⟩
theorem v9_189 : Lv RX9 189 yX0_unseal 2 := ⟨mem_g 896 (by decide +kernel) rfl, mem_g 897 (by decide +kernel) rfl, mem_g 898 (by decide +kernel) rfl, Lp.of (by decide +kernel)⟩
theorem v9_193 : Lv RX9 193 yX7_add 4 := ⟨mem_g 912 (by decide +kernel) rfl, mem_g 913 (by decide +kernel) rfl, mem_g 914 (by decide +kernel) rfl, Lp.of (by decide +kernel)⟩
theorem v9_200 : Lv RX9 200 yX6_heightOver 1 := ⟨mem_g 927 (by decide +kernel) rfl, mem_g 928 (by decide +kernel) rfl, mem_g 929 (by decide +kernel) rfl, Lp.of (by decide +kernel)⟩
theorem v9_203 : Lv RX9 203 yX6_isClosed 1 := ⟨mem_g 936 (by decide +kernel) rfl, mem_g 858 (by decide +kernel) rfl, mem_g 859 (by decide +kernel) rfl, Lp.of (by decide +kernel)⟩
theorem v9_209 : Lv RX9 209 yX0_byNumbers 0 := ⟨mem_g 945 (by decide +kernel) rfl, mem_g 946 (by decide +kernel) rfl, mem_g 947 (by decide +kernel) rfl, Lp.of (by decide +kernel)⟩
theorem v9_212 : Lv RX9 212 yX0_pass 1 := ⟨mem_g 949 (by decide +kernel) rfl, mem_g 950 (by decide +kernel) rfl, mem_g 951 (by decide +kernel) rfl, Lp.of (by decide +kernel)⟩
theorem v9_216 : Lv RX9 216 yX0_asItGoes 0 := ⟨mem_g 1000 (by decide +kernel) rfl, mem_g 1001 (by decide +kernel) rfl, mem_g 1002 (by decide +kernel) rfl, Lp.of (by decide +kernel)⟩
theorem v9_219 : Lv RX9 219 yX6_take 1 := ⟨mem_g 1004 (by decide +kernel) rfl, mem_g 1005 (by decide +kernel) rfl, mem_g 1006 (by decide +kernel) rfl, Lp.of (by decide +kernel)⟩
theorem v9_230 : Lv RX9 230 yX6_howMany 1 := ⟨mem_g 1009 (by decide +kernel) rfl, mem_g 1010 (by decide +kernel) rfl, mem_g 1011 (by decide +kernel) rfl, Lp.of (by decide +kernel)⟩
theorem v9_233 : Lv RX9 233 yX6_closedAbove 1 := ⟨mem_g 1017 (by decide +kernel) rfl, mem_g 866 (by decide +kernel) rfl, mem_g 867 (by decide +kernel) rfl, Lp.of (by decide +kernel)⟩
theorem v9_236 : Lv RX9 236 yX9_firstClosed 0 := ⟨mem_g 1022 (by decide +kernel) rfl, mem_g 1024 (by decide +kernel) rfl, mem_g 35 (by decide +kernel) rfl, Lp.of (by decide +kernel)⟩
theorem v9_240 : Lv RX9 240 yX9_gainedInRow 1 := ⟨mem_g 1026 (by decide +kernel) rfl, mem_g 1028 (by decide +kernel) rfl, mem_g 36 (by decide +kernel) rfl, Lp.of (by decide +kernel)⟩
theorem v9_249 : Lv RX9 249 yX9_nextRow 1 := ⟨mem_g 1039 (by decide +kernel) rfl, mem_g 1041 (by decide +kernel) rfl, mem_g 37 (by decide +kernel) rfl, Lp.of (by decide +kernel)⟩
theorem v9_252 : Lv RX9 252 yX0_mayBringGlory 1 := ⟨mem_g 1030 (by decide +kernel) rfl, mem_g 1031 (by decide +kernel) rfl, mem_g 1032 (by decide +kernel) rfl, Lp.of (by decide +kernel)⟩
theorem v9_256 : Lv RX9 256 yX0_unsealAnyway 2 := ⟨mem_g 1034 (by decide +kernel) rfl, mem_g 1035 (by decide +kernel) rfl, mem_g 1036 (by decide +kernel) rfl, Lp.of (by decide +kernel)⟩
theorem v9_264 : Lv RX9 264 yX9_swapInRow 2 := ⟨mem_g 1044 (by decide +kernel) rfl, mem_g 1046 (by decide +kernel) rfl, mem_g 38 (by decide +kernel) rfl, Lp.of (by decide +kernel)⟩
theorem v9_268 : Lv RX9 268 yX9_gainedByOpening 2 := ⟨mem_g 1052 (by decide +kernel) rfl, mem_g 1054 (by decide +kernel) rfl, mem_g 39 (by decide +kernel) rfl, Lp.of (by decide +kernel)⟩
theorem v9_271 : Lv RX9 271 yX9_takenOut 2 := ⟨mem_g 1060 (by decide +kernel) rfl, mem_g 1062 (by decide +kernel) rfl, mem_g 40 (by decide +kernel) rfl, Lp.of (by decide +kernel)⟩
theorem v9_274 : Lv RX9 274 yX9_isBelowLonger 1 := ⟨mem_g 1064 (by decide +kernel) rfl, mem_g 1066 (by decide +kernel) rfl, mem_g 41 (by decide +kernel) rfl, Lp.of (by decide +kernel)⟩
theorem v9_277 : Lv RX9 277 yX4_column 1 := ⟨mem_g 1068 (by decide +kernel) rfl, mem_g 514 (by decide +kernel) rfl, mem_g 515 (by decide +kernel) rfl, Lp.of (by decide +kernel)⟩
theorem v9_281 : Ls RX9 281 yX9_isRest 3 := ⟨mem_g 1073 (by decide +kernel) rfl, mem_g 1074 (by decide +kernel) rfl, Lp.of (by decide +kernel)⟩
theorem v9_285 : Ls RX9 285 yX9_hasOfShare 3 := ⟨mem_g 1076 (by decide +kernel) rfl, mem_g 1077 (by decide +kernel) rfl, Lp.of (by decide +kernel)⟩
theorem v9_296 : Ls RX9 296 yX9_commonDivisor 2 := ⟨mem_g 1089 (by decide +kernel) rfl, mem_g 1090 (by decide +kernel) rfl, Lp.of (by decide +kernel)⟩
theorem v9_303 : Lv RX9 303 yX8_add 4 := ⟨mem_g 1104 (by decide +kernel) rfl, mem_g 1105 (by decide +kernel) rfl, mem_g 1106 (by decide +kernel) rfl, Lp.of (by decide +kernel)⟩
theorem v9_312 : Lv RX9 312 yX8_counted 0 := ⟨mem_g 1127 (by decide +kernel) rfl, mem_g 1128 (by decide +kernel) rfl, mem_g 1129 (by decide +kernel) rfl, Lp.of (by decide +kernel)⟩
theorem v9_315 : Lv RX9 315 yX8_mayBe 3 := ⟨mem_g 1138 (by decide +kernel) rfl, mem_g 1139 (by decide +kernel) rfl, mem_g 1140 (by decide +kernel) rfl, Lp.of (by decide +kernel)⟩
theorem v9_318 : Lv RX9 318 yX9_which 0 := ⟨mem_g 1146 (by decide +kernel) rfl, mem_g 1124 (by decide +kernel) rfl, mem_g 1125 (by decide +kernel) rfl, Lp.of (by decide +kernel)⟩
theorem v9_324 : Ls RX9 324 yX9_isBit 2 := ⟨mem_g 1148 (by decide +kernel) rfl, mem_g 740 (by decide +kernel) rfl, Lp.of (by decide +kernel)⟩
theorem v9_334 : Lv RX9 334 yX9_isSeenSo 1 := ⟨mem_g 1160 (by decide +kernel) rfl, mem_g 1162 (by decide +kernel) rfl, mem_g 42 (by decide +kernel) rfl, Lp.of (by decide +kernel)⟩
theorem v9_337 : Lv RX9 337 yX8_lastSeen 1 := ⟨mem_g 1164 (by decide +kernel) rfl, mem_g 1165 (by decide +kernel) rfl, mem_g 1166 (by decide +kernel) rfl, Lp.of (by decide +kernel)⟩
theorem v9_340 : Lv RX9 340 yX8_isSeenSo 3 := ⟨mem_g 1169 (by decide +kernel) rfl, mem_g 1170 (by decide +kernel) rfl, mem_g 1171 (by decide +kernel) rfl, Lp.of (by decide +kernel)⟩
theorem v9_347 : Lv RX9 347 yX0_otherwise 2 := ⟨mem_g 1182 (by decide +kernel) rfl, mem_g 1183 (by decide +kernel) rfl, mem_g 1184 (by decide +kernel) rfl, Lp.of (by decide +kernel)⟩
theorem v9_351 : Lv RX9 351 yX7_takeBack 1 := ⟨mem_g 1190 (by decide +kernel) rfl, mem_g 1191 (by decide +kernel) rfl, mem_g 1192 (by decide +kernel) rfl, Lp.of (by decide +kernel)⟩
theorem v9_360 : Lv RX9 360 yX8_howManyKnown 0 := ⟨mem_g 1213 (by decide +kernel) rfl, mem_g 1132 (by decide +kernel) rfl, mem_g 1133 (by decide +kernel) rfl, Lp.of (by decide +kernel)⟩
theorem v0_43 : Lv RX0 43 yX0_openTold 1 := ⟨mem_g 953 (by decide +kernel) rfl, mem_g 955 (by decide +kernel) rfl, mem_g 28 (by decide +kernel) rfl, Lp.of (by decide +kernel)⟩
theorem v0_47 : Lv RX0 47 yX0_serve 1 := ⟨mem_g 961 (by decide +kernel) rfl, mem_g 963 (by decide +kernel) rfl, mem_g 29 (by decide +kernel) rfl, Lp.of (by decide +kernel)⟩
theorem v0_50 : Lv RX0 50 yX0_goOff 1 := ⟨mem_g 970 (by decide +kernel) rfl, mem_g 972 (by decide +kernel) rfl, mem_g 31 (by decide +kernel) rfl, Lp.of (by decide +kernel)⟩
theorem v0_53 : Lv RX0 53 yX0_rust 1 := ⟨mem_g 974 (by decide +kernel) rfl, mem_g 976 (by decide +kernel) rfl, mem_g 32 (by decide +kernel) rfl, Lp.of (by decide +kernel)⟩
theorem v0_56 : Lv RX0 56 yX0_blow 1 := ⟨mem_g 992 (by decide +kernel) rfl, mem_g 994 (by decide +kernel) rfl, mem_g 34 (by decide +kernel) rfl, Lp.of (by decide +kernel)⟩
theorem v0_63 : Lv RX0 63 yX4_column 1 := ⟨mem_g 957 (by decide +kernel) rfl, mem_g 514 (by decide +kernel) rfl, mem_g 515 (by decide +kernel) rfl, Lp.of (by decide +kernel)⟩
theorem v0_72 : Lv RX0 72 yX4_at 2 := ⟨mem_g 879 (by decide +kernel) rfl, mem_g 506 (by decide +kernel) rfl, mem_g 507 (by decide +kernel) rfl, Lp.of (by decide +kernel)⟩
theorem v0_79 : Lv RX0 79 yX6_isClosed 1 := ⟨mem_g 958 (by decide +kernel) rfl, mem_g 858 (by decide +kernel) rfl, mem_g 859 (by decide +kernel) rfl, Lp.of (by decide +kernel)⟩
theorem v0_83 : Lv RX0 83 yX6_isOnTop 1 := ⟨mem_g 959 (by decide +kernel) rfl, mem_g 854 (by decide +kernel) rfl, mem_g 855 (by decide +kernel) rfl, Lp.of (by decide +kernel)⟩
theorem v0_86 : Lv RX0 86 yX0_unseal 2 := ⟨mem_g 960 (by decide +kernel) rfl, mem_g 897 (by decide +kernel) rfl, mem_g 898 (by decide +kernel) rfl, Lp.of (by decide +kernel)⟩
theorem v0_93 : Lv RX0 93 yX6_has 1 := ⟨mem_g 880 (by decide +kernel) rfl, mem_g 862 (by decide +kernel) rfl, mem_g 863 (by decide +kernel) rfl, Lp.of (by decide +kernel)⟩
theorem v0_106 : Lv RX0 106 yX0_namesOf 3 := ⟨mem_g 900 (by decide +kernel) rfl, mem_g 876 (by decide +kernel) rfl, mem_g 877 (by decide +kernel) rfl, Lp.of (by decide +kernel)⟩
theorem v0_110 : Lv RX0 110 yX1_work 2 := ⟨mem_g 901 (by decide +kernel) rfl, mem_g 882 (by decide +kernel) rfl, mem_g 883 (by decide +kernel) rfl, Lp.of (by decide +kernel)⟩
theorem v0_116 : Ls RX0 116 yX0_within 4 := ⟨mem_g 902 (by decide +kernel) rfl, mem_g 903 (by decide +kernel) rfl, Lp.of (by decide +kernel)⟩
theorem v0_123 : Lv RX0 123 yX0_server 3 := ⟨mem_g 965 (by decide +kernel) rfl, mem_g 967 (by decide +kernel) rfl, mem_g 30 (by decide +kernel) rfl, Lp.of (by decide +kernel)⟩
theorem v0_146 : LsN RX0 146 yX9_isBit 2 := ⟨by decide +kernel, mem_g 740 (by decide +kernel) rfl, Lp.of (by decide +kernel)⟩
theorem v0_150 : Lv RX0 150 yX1_has 1 := ⟨mem_g 978 (by decide +kernel) rfl, mem_g 736 (by decide +kernel) rfl, mem_g 737 (by decide +kernel) rfl, Lp.of (by decide +kernel)⟩
theorem v0_155 : Lv RX0 155 yX0_rusts 2 := ⟨mem_g 979 (by decide +kernel) rfl, mem_g 981 (by decide +kernel) rfl, mem_g 33 (by decide +kernel) rfl, Lp.of (by decide +kernel)⟩
theorem v0_167 : Lv RX0 167 yX6_drawn 0 := ⟨mem_g 983 (by decide +kernel) rfl, mem_g 984 (by decide +kernel) rfl, mem_g 985 (by decide +kernel) rfl, Lp.of (by decide +kernel)⟩
theorem v1_41 : LsN RX1 41 yX9_isBit 2 := ⟨by decide +kernel, mem_g 740 (by decide +kernel) rfl, Lp.of (by decide +kernel)⟩
theorem v1_45 : Lv RX1 45 yX1_has 1 := ⟨mem_g 885 (by decide +kernel) rfl, mem_g 736 (by decide +kernel) rfl, mem_g 737 (by decide +kernel) rfl, Lp.of (by decide +kernel)⟩
theorem v1_53 : Ls RX1 53 yX1_joined 3 := ⟨mem_g 887 (by decide +kernel) rfl, mem_g 888 (by decide +kernel) rfl, Lp.of (by decide +kernel)⟩
theorem v2_11 : LiN RX2 11 yX3_init 0 := ⟨by decide +kernel, mem_g 146 (by decide +kernel) rfl, rfl, Lp.of (by decide +kernel)⟩
theorem v2_20 : Li RX2 20 yX5_init 0 := ⟨mem_g 265 (by decide +kernel) rfl, mem_g 266 (by decide +kernel) rfl, rfl, Lp.of (by decide +kernel)⟩
theorem v2_29 : Lv RX2 29 yX3_clear 0 := ⟨mem_g 573 (by decide +kernel) rfl, mem_g 574 (by decide +kernel) rfl, mem_g 575 (by decide +kernel) rfl, Lp.of (by decide +kernel)⟩
theorem v2_41 : Lv RX2 41 yX5_start 2 := ⟨mem_g 581 (by decide +kernel) rfl, mem_g 582 (by decide +kernel) rfl, mem_g 583 (by decide +kernel) rfl, Lp.of (by decide +kernel)⟩
theorem v2_45 : Lv RX2 45 yX5_advance 0 := ⟨mem_g 586 (by decide +kernel) rfl, mem_g 587 (by decide +kernel) rfl, mem_g 588 (by decide +kernel) rfl, Lp.of (by decide +kernel)⟩
theorem v2_51 : Lv RX2 51 yX2_line 0 := ⟨mem_g 668 (by decide +kernel) rfl, mem_g 670 (by decide +kernel) rfl, mem_g 4 (by decide +kernel) rfl, Lp.of (by decide +kernel)⟩
theorem v2_54 : Lv RX2 54 yX2_expect 1 := ⟨mem_g 790 (by decide +kernel) rfl, mem_g 792 (by decide +kernel) rfl, mem_g 26 (by decide +kernel) rfl, Lp.of (by decide +kernel)⟩
theorem v2_59 : Lv RX2 59 yX2_fail 1 := ⟨mem_g 684 (by decide +kernel) rfl, mem_g 686 (by decide +kernel) rfl, mem_g 7 (by decide +kernel) rfl, Lp.of (by decide +kernel)⟩
theorem v2_62 : Lv RX2 62 yX2_kindLine 0 := ⟨mem_g 672 (by decide +kernel) rfl, mem_g 674 (by decide +kernel) rfl, mem_g 5 (by decide +kernel) rfl, Lp.of (by decide +kernel)⟩
theorem v2_65 : Lv RX2 65 yX2_tinLine 0 := ⟨mem_g 709 (by decide +kernel) rfl, mem_g 711 (by decide +kernel) rfl, mem_g 10 (by decide +kernel) rfl, Lp.of (by decide +kernel)⟩
theorem v2_68 : Lv RX2 68 yX2_openLine 0 := ⟨mem_g 718 (by decide +kernel) rfl, mem_g 720 (by decide +kernel) rfl, mem_g 12 (by decide +kernel) rfl, Lp.of (by decide +kernel)⟩
theorem v2_71 : Lv RX2 71 yX2_wantLine 0 := ⟨mem_g 722 (by decide +kernel) rfl, mem_g 724 (by decide +kernel) rfl, mem_g 13 (by decide +kernel) rfl, Lp.of (by decide +kernel)⟩
theorem v2_74 : Lv RX2 74 yX2_onceLine 1 := ⟨mem_g 726 (by decide +kernel) rfl, mem_g 728 (by decide +kernel) rfl, mem_g 14 (by decide +kernel) rfl, Lp.of (by decide +kernel)⟩
theorem v2_88 : Lv RX2 88 yX2_lawLine 0 := ⟨mem_g 731 (by decide +kernel) rfl, mem_g 733 (by decide +kernel) rfl, mem_g 15 (by decide +kernel) rfl, Lp.of (by decide +kernel)⟩
theorem v2_95 : Lv RX2 95 yX2_room 1 := ⟨mem_g 676 (by decide +kernel) rfl, mem_g 678 (by decide +kernel) rfl, mem_g 6 (by decide +kernel) rfl, Lp.of (by decide +kernel)⟩
theorem v2_99 : Lv RX2 99 yX2_newName 1 := ⟨mem_g 688 (by decide +kernel) rfl, mem_g 690 (by decide +kernel) rfl, mem_g 8 (by decide +kernel) rfl, Lp.of (by decide +kernel)⟩
theorem v2_103 : Lv RX2 103 yX2_number 2 := ⟨mem_g 696 (by decide +kernel) rfl, mem_g 698 (by decide +kernel) rfl, mem_g 9 (by decide +kernel) rfl, Lp.of (by decide +kernel)⟩
theorem v2_107 : Lv RX2 107 yX4_add 0 := ⟨mem_g 700 (by decide +kernel) rfl, mem_g 701 (by decide +kernel) rfl, mem_g 702 (by decide +kernel) rfl, Lp.of (by decide +kernel)⟩
theorem v2_112 : Lv RX2 112 yX4_set 2 := ⟨mem_g 705 (by decide +kernel) rfl, mem_g 706 (by decide +kernel) rfl, mem_g 707 (by decide +kernel) rfl, Lp.of (by decide +kernel)⟩
theorem v2_119 : Lv RX2 119 yX2_toldName 1 := ⟨mem_g 713 (by decide +kernel) rfl, mem_g 715 (by decide +kernel) rfl, mem_g 11 (by decide +kernel) rfl, Lp.of (by decide +kernel)⟩
theorem v2_139 : Lv RX2 139 yX4_isFull 0 := ⟨mem_g 680 (by decide +kernel) rfl, mem_g 681 (by decide +kernel) rfl, mem_g 682 (by decide +kernel) rfl, Lp.of (by decide +kernel)⟩
theorem v2_146 : Lv RX2 146 yX4_rowOf 1 := ⟨mem_g 692 (by decide +kernel) rfl, mem_g 693 (by decide +kernel) rfl, mem_g 694 (by decide +kernel) rfl, Lp.of (by decide +kernel)⟩
theorem v2_153 : Lv RX2 153 yX1_has 1 := ⟨mem_g 735 (by decide +kernel) rfl, mem_g 736 (by decide +kernel) rfl, mem_g 737 (by decide +kernel) rfl, Lp.of (by decide +kernel)⟩
theorem v2_159 : Lv RX2 159 yX1_begin 1 := ⟨mem_g 742 (by decide +kernel) rfl, mem_g 743 (by decide +kernel) rfl, mem_g 744 (by decide +kernel) rfl, Lp.of (by decide +kernel)⟩
theorem v2_162 : Lv RX2 162 yX2_either 1 := ⟨mem_g 746 (by decide +kernel) rfl, mem_g 748 (by decide +kernel) rfl, mem_g 16 (by decide +kernel) rfl, Lp.of (by decide +kernel)⟩
theorem v2_165 : Lv RX2 165 yX1_end 1 := ⟨mem_g 797 (by decide +kernel) rfl, mem_g 798 (by decide +kernel) rfl, mem_g 799 (by decide +kernel) rfl, Lp.of (by decide +kernel)⟩
theorem v2_171 : Lv RX2 171 yX1_emit 1 := ⟨mem_g 782 (by decide +kernel) rfl, mem_g 783 (by decide +kernel) rfl, mem_g 784 (by decide +kernel) rfl, Lp.of (by decide +kernel)⟩
theorem v2_174 : Lv RX2 174 yX2_both 1 := ⟨mem_g 750 (by decide +kernel) rfl, mem_g 752 (by decide +kernel) rfl, mem_g 17 (by decide +kernel) rfl, Lp.of (by decide +kernel)⟩
theorem v2_177 : Lv RX2 177 yX2_knot 0 := ⟨mem_g 758 (by decide +kernel) rfl, mem_g 760 (by decide +kernel) rfl, mem_g 19 (by decide +kernel) rfl, Lp.of (by decide +kernel)⟩
theorem v2_180 : Lv RX2 180 yX2_emit 1 := ⟨mem_g 778 (by decide +kernel) rfl, mem_g 780 (by decide +kernel) rfl, mem_g 24 (by decide +kernel) rfl, Lp.of (by decide +kernel)⟩
theorem v2_181 : Lv RX2 181 yX2_denied 1 := ⟨mem_g 754 (by decide +kernel) rfl, mem_g 756 (by decide +kernel) rfl, mem_g 18 (by decide +kernel) rfl, Lp.of (by decide +kernel)⟩
theorem v2_184 : Lv RX2 184 yX2_compared 1 := ⟨mem_g 762 (by decide +kernel) rfl, mem_g 764 (by decide +kernel) rfl, mem_g 20 (by decide +kernel) rfl, Lp.of (by decide +kernel)⟩
theorem v2_187 : Lv RX2 187 yX2_sum 1 := ⟨mem_g 766 (by decide +kernel) rfl, mem_g 768 (by decide +kernel) rfl, mem_g 21 (by decide +kernel) rfl, Lp.of (by decide +kernel)⟩
theorem v2_190 : Ls RX2 190 yX2_isComparison 1 := ⟨mem_g 794 (by decide +kernel) rfl, mem_g 795 (by decide +kernel) rfl, Lp.of (by decide +kernel)⟩
theorem v2_193 : Lv RX2 193 yX2_product 1 := ⟨mem_g 770 (by decide +kernel) rfl, mem_g 772 (by decide +kernel) rfl, mem_g 22 (by decide +kernel) rfl, Lp.of (by decide +kernel)⟩
theorem v2_196 : Lv RX2 196 yX2_part 1 := ⟨mem_g 774 (by decide +kernel) rfl, mem_g 776 (by decide +kernel) rfl, mem_g 23 (by decide +kernel) rfl, Lp.of (by decide +kernel)⟩
theorem v2_199 : Lv RX2 199 yX2_bracket 1 := ⟨mem_g 786 (by decide +kernel) rfl, mem_g 788 (by decide +kernel) rfl, mem_g 25 (by decide +kernel) rfl, Lp.of (by decide +kernel)⟩
theorem v3_11 : Li RX3 11 yX4_init 2 := ⟨mem_g 151 (by decide +kernel) rfl, mem_g 152 (by decide +kernel) rfl, rfl, Lp.of (by decide +kernel)⟩
theorem v3_31 : LiN RX3 31 yX1_init 0 := ⟨by decide +kernel, mem_g 178 (by decide +kernel) rfl, rfl, Lp.of (by decide +kernel)⟩
theorem v3_49 : Lv RX3 49 yX1_clear 0 := ⟨mem_g 577 (by decide +kernel) rfl, mem_g 578 (by decide +kernel) rfl, mem_g 579 (by decide +kernel) rfl, Lp.of (by decide +kernel)⟩
theorem v3_58 : Lv RX3 58 yX4_take 1 := ⟨mem_g 805 (by decide +kernel) rfl, mem_g 806 (by decide +kernel) rfl, mem_g 807 (by decide +kernel) rfl, Lp.of (by decide +kernel)⟩
theorem v3_62 : Lv RX3 62 yX1_take 1 := ⟨mem_g 813 (by decide +kernel) rfl, mem_g 814 (by decide +kernel) rfl, mem_g 815 (by decide +kernel) rfl, Lp.of (by decide +kernel)⟩
theorem v4_23 : Lv RX4 23 yX4_has 1 := ⟨mem_g 509 (by decide +kernel) rfl, mem_g 510 (by decide +kernel) rfl, mem_g 511 (by decide +kernel) rfl, Lp.of (by decide +kernel)⟩
theorem v4_27 : Lv RX4 27 yX4_column 1 := ⟨mem_g 513 (by decide +kernel) rfl, mem_g 514 (by decide +kernel) rfl, mem_g 515 (by decide +kernel) rfl, Lp.of (by decide +kernel)⟩
theorem v4_31 : Lv RX4 31 yX4_isFull 0 := ⟨mem_g 704 (by decide +kernel) rfl, mem_g 681 (by decide +kernel) rfl, mem_g 682 (by decide +kernel) rfl, Lp.of (by decide +kernel)⟩
theorem v5_46 : Lv RX5 46 yX5_takeWord 0 := ⟨mem_g 590 (by decide +kernel) rfl, mem_g 592 (by decide +kernel) rfl, mem_g 1 (by decide +kernel) rfl, Lp.of (by decide +kernel)⟩
theorem v5_49 : Lv RX5 49 yX5_takeNumber 0 := ⟨mem_g 594 (by decide +kernel) rfl, mem_g 596 (by decide +kernel) rfl, mem_g 2 (by decide +kernel) rfl, Lp.of (by decide +kernel)⟩
theorem v5_52 : Lv RX5 52 yX5_takeSign 0 := ⟨mem_g 599 (by decide +kernel) rfl, mem_g 601 (by decide +kernel) rfl, mem_g 3 (by decide +kernel) rfl, Lp.of (by decide +kernel)⟩
theorem v6_53 : Lv RX6 53 yX4_at 2 := ⟨mem_g 505 (by decide +kernel) rfl, mem_g 506 (by decide +kernel) rfl, mem_g 507 (by decide +kernel) rfl, Lp.of (by decide +kernel)⟩
theorem v6_88 : Lv RX6 88 yX6_has 1 := ⟨mem_g 861 (by decide +kernel) rfl, mem_g 862 (by decide +kernel) rfl, mem_g 863 (by decide +kernel) rfl, Lp.of (by decide +kernel)⟩
theorem v6_92 : Lv RX6 92 yX6_isClosed 1 := ⟨mem_g 857 (by decide +kernel) rfl, mem_g 858 (by decide +kernel) rfl, mem_g 859 (by decide +kernel) rfl, Lp.of (by decide +kernel)⟩
theorem v6_95 : Lv RX6 95 yX6_closedAbove 1 := ⟨mem_g 865 (by decide +kernel) rfl, mem_g 866 (by decide +kernel) rfl, mem_g 867 (by decide +kernel) rfl, Lp.of (by decide +kernel)⟩
theorem v7_11 : Li RX7 11 yX4_init 2 := ⟨mem_g 492 (by decide +kernel) rfl, mem_g 152 (by decide +kernel) rfl, rfl, Lp.of (by decide +kernel)⟩
theorem v7_24 : Lv RX7 24 yX4_isFull 0 := ⟨mem_g 916 (by decide +kernel) rfl, mem_g 681 (by decide +kernel) rfl, mem_g 682 (by decide +kernel) rfl, Lp.of (by decide +kernel)⟩
theorem v7_28 : Lv RX7 28 yX4_dropFirst 0 := ⟨mem_g 917 (by decide +kernel) rfl, mem_g 918 (by decide +kernel) rfl, mem_g 919 (by decide +kernel) rfl, Lp.of (by decide +kernel)⟩
theorem v7_31 : Lv RX7 31 yX4_add 0 := ⟨mem_g 921 (by decide +kernel) rfl, mem_g 701 (by decide +kernel) rfl, mem_g 702 (by decide +kernel) rfl, Lp.of (by decide +kernel)⟩
theorem v7_34 : Lv RX7 34 yX4_set 2 := ⟨mem_g 922 (by decide +kernel) rfl, mem_g 706 (by decide +kernel) rfl, mem_g 707 (by decide +kernel) rfl, Lp.of (by decide +kernel)⟩
theorem v7_37 : Lv RX7 37 yX4_at 2 := ⟨mem_g 1194 (by decide +kernel) rfl, mem_g 506 (by decide +kernel) rfl, mem_g 507 (by decide +kernel) rfl, Lp.of (by decide +kernel)⟩
theorem v7_46 : Lv RX7 46 yX6_has 1 := ⟨mem_g 1195 (by decide +kernel) rfl, mem_g 862 (by decide +kernel) rfl, mem_g 863 (by decide +kernel) rfl, Lp.of (by decide +kernel)⟩
theorem v7_50 : Lv RX7 50 yX7_takeBackOfTin 3 := ⟨mem_g 1196 (by decide +kernel) rfl, mem_g 1198 (by decide +kernel) rfl, mem_g 43 (by decide +kernel) rfl, Lp.of (by decide +kernel)⟩
theorem v8_11 : Li RX8 11 yX4_init 2 := ⟨mem_g 475 (by decide +kernel) rfl, mem_g 152 (by decide +kernel) rfl, rfl, Lp.of (by decide +kernel)⟩
theorem v8_27 : Lv RX8 27 yX4_isFull 0 := ⟨mem_g 1108 (by decide +kernel) rfl, mem_g 681 (by decide +kernel) rfl, mem_g 682 (by decide +kernel) rfl, Lp.of (by decide +kernel)⟩
theorem v8_31 : Lv RX8 31 yX4_add 0 := ⟨mem_g 1109 (by decide +kernel) rfl, mem_g 701 (by decide +kernel) rfl, mem_g 702 (by decide +kernel) rfl, Lp.of (by decide +kernel)⟩
theorem v8_34 : Lv RX8 34 yX4_set 2 := ⟨mem_g 1110 (by decide +kernel) rfl, mem_g 706 (by decide +kernel) rfl, mem_g 707 (by decide +kernel) rfl, Lp.of (by decide +kernel)⟩
theorem v8_43 : Lv RX8 43 yX8_howManyKnown 0 := ⟨mem_g 1131 (by decide +kernel) rfl, mem_g 1132 (by decide +kernel) rfl, mem_g 1133 (by decide +kernel) rfl, Lp.of (by decide +kernel)⟩
theorem v8_47 : LsN RX8 47 yX9_isBit 2 := ⟨by decide +kernel, mem_g 740 (by decide +kernel) rfl, Lp.of (by decide +kernel)⟩
theorem v8_51 : Lv RX8 51 yX4_at 2 := ⟨mem_g 1137 (by decide +kernel) rfl, mem_g 506 (by decide +kernel) rfl, mem_g 507 (by decide +kernel) rfl, Lp.of (by decide +kernel)⟩
theorem v8_57 : Lv RX8 57 yX6_has 1 := ⟨mem_g 1173 (by decide +kernel) rfl, mem_g 862 (by decide +kernel) rfl, mem_g 863 (by decide +kernel) rfl, Lp.of (by decide +kernel)⟩
theorem vL_7 : Lv RL 7 yX9_tin 2 := ⟨mem_g 1219 (by decide +kernel) rfl, mem_g 1220 (by decide +kernel) rfl, mem_g 1221 (by decide +kernel) rfl, Lp.of (by decide +kernel)⟩
theorem vL_17 : Li RL 17 yX9_init 0 := ⟨mem_g 131 (by decide +kernel) rfl, mem_g 132 (by decide +kernel) rfl, rfl, Lp.of (by decide +kernel)⟩
theorem vL_20 : Li RL 20 yX10_init 0 := ⟨mem_g 1307 (by decide +kernel) rfl, mem_g 1308 (by decide +kernel) rfl, rfl, Lp.of (by decide +kernel)⟩
theorem vL_21 : Lv RL 21 yX9_feed 5 := ⟨mem_g 557 (by decide +kernel) rfl, mem_g 558 (by decide +kernel) rfl, mem_g 559 (by decide +kernel) rfl, Lp.of (by decide +kernel)⟩
theorem vL_25 : Lv RL 25 yX10_feed 5 := ⟨mem_g 1523 (by decide +kernel) rfl, mem_g 1524 (by decide +kernel) rfl, mem_g 1525 (by decide +kernel) rfl, Lp.of (by decide +kernel)⟩
theorem vL_26 : Lv RL 26 yX9_text 1 := ⟨mem_g 565 (by decide +kernel) rfl, mem_g 566 (by decide +kernel) rfl, mem_g 567 (by decide +kernel) rfl, Lp.of (by decide +kernel)⟩
theorem vL_30 : Lv RL 30 yX10_text 1 := ⟨mem_g 1527 (by decide +kernel) rfl, mem_g 1528 (by decide +kernel) rfl, mem_g 1529 (by decide +kernel) rfl, Lp.of (by decide +kernel)⟩
theorem vL_31 : Lv RL 31 yX9_fault 1 := ⟨mem_g 826 (by decide +kernel) rfl, mem_g 827 (by decide +kernel) rfl, mem_g 828 (by decide +kernel) rfl, Lp.of (by decide +kernel)⟩
theorem vL_34 : Lv RL 34 yX10_fault 1 := ⟨mem_g 1647 (by decide +kernel) rfl, mem_g 1648 (by decide +kernel) rfl, mem_g 1649 (by decide +kernel) rfl, Lp.of (by decide +kernel)⟩
theorem vL_35 : Lv RL 35 yX9_named 2 := ⟨mem_g 830 (by decide +kernel) rfl, mem_g 831 (by decide +kernel) rfl, mem_g 832 (by decide +kernel) rfl, Lp.of (by decide +kernel)⟩
theorem vL_38 : Lv RL 38 yX10_named 2 := ⟨mem_g 1651 (by decide +kernel) rfl, mem_g 1652 (by decide +kernel) rfl, mem_g 1653 (by decide +kernel) rfl, Lp.of (by decide +kernel)⟩
theorem vL_44 : Lv RL 44 yX10_tin 2 := ⟨mem_g 1655 (by decide +kernel) rfl, mem_g 1656 (by decide +kernel) rfl, mem_g 1657 (by decide +kernel) rfl, Lp.of (by decide +kernel)⟩
theorem vL_45 : Lv RL 45 yX10_thrown 0 := ⟨mem_g 1519 (by decide +kernel) rfl, mem_g 1520 (by decide +kernel) rfl, mem_g 1521 (by decide +kernel) rfl, Lp.of (by decide +kernel)⟩
theorem vL_49 : Lv RL 49 yX9_kind 2 := ⟨mem_g 835 (by decide +kernel) rfl, mem_g 836 (by decide +kernel) rfl, mem_g 837 (by decide +kernel) rfl, Lp.of (by decide +kernel)⟩
theorem vL_52 : Lv RL 52 yX10_kind 2 := ⟨mem_g 1663 (by decide +kernel) rfl, mem_g 1664 (by decide +kernel) rfl, mem_g 1665 (by decide +kernel) rfl, Lp.of (by decide +kernel)⟩
theorem vL_53 : Lv RL 53 yX9_want 2 := ⟨mem_g 845 (by decide +kernel) rfl, mem_g 846 (by decide +kernel) rfl, mem_g 847 (by decide +kernel) rfl, Lp.of (by decide +kernel)⟩
theorem vL_56 : Lv RL 56 yX10_want 2 := ⟨mem_g 1675 (by decide +kernel) rfl, mem_g 1676 (by decide +kernel) rfl, mem_g 1677 (by decide +kernel) rfl, Lp.of (by decide +kernel)⟩
theorem vL_57 : Lv RL 57 yX9_top 1 := ⟨mem_g 849 (by decide +kernel) rfl, mem_g 850 (by decide +kernel) rfl, mem_g 851 (by decide +kernel) rfl, Lp.of (by decide +kernel)⟩
theorem vL_60 : Lv RL 60 yX10_top 1 := ⟨mem_g 1679 (by decide +kernel) rfl, mem_g 1680 (by decide +kernel) rfl, mem_g 1681 (by decide +kernel) rfl, Lp.of (by decide +kernel)⟩
theorem vL_61 : Lv RL 61 yX9_law 3 := ⟨mem_g 869 (by decide +kernel) rfl, mem_g 870 (by decide +kernel) rfl, mem_g 871 (by decide +kernel) rfl, Lp.of (by decide +kernel)⟩
theorem vL_65 : Lv RL 65 yX10_law 3 := ⟨mem_g 1698 (by decide +kernel) rfl, mem_g 1699 (by decide +kernel) rfl, mem_g 1700 (by decide +kernel) rfl, Lp.of (by decide +kernel)⟩
theorem vL_66 : Lv RL 66 yX9_open 1 := ⟨mem_g 892 (by decide +kernel) rfl, mem_g 893 (by decide +kernel) rfl, mem_g 894 (by decide +kernel) rfl, Lp.of (by decide +kernel)⟩
theorem vL_69 : Lv RL 69 yX10_open 1 := ⟨mem_g 1727 (by decide +kernel) rfl, mem_g 1728 (by decide +kernel) rfl, mem_g 1729 (by decide +kernel) rfl, Lp.of (by decide +kernel)⟩
theorem vL_70 : Lv RL 70 yX9_put 2 := ⟨mem_g 923 (by decide +kernel) rfl, mem_g 924 (by decide +kernel) rfl, mem_g 925 (by decide +kernel) rfl, Lp.of (by decide +kernel)⟩
theorem vL_74 : Lv RL 74 yX10_put 2 := ⟨mem_g 1749 (by decide +kernel) rfl, mem_g 1750 (by decide +kernel) rfl, mem_g 1751 (by decide +kernel) rfl, Lp.of (by decide +kernel)⟩
theorem vL_75 : Lv RL 75 yX9_dent 1 := ⟨mem_g 932 (by decide +kernel) rfl, mem_g 933 (by decide +kernel) rfl, mem_g 934 (by decide +kernel) rfl, Lp.of (by decide +kernel)⟩
theorem vL_78 : Lv RL 78 yX10_dent 1 := ⟨mem_g 1753 (by decide +kernel) rfl, mem_g 1754 (by decide +kernel) rfl, mem_g 1755 (by decide +kernel) rfl, Lp.of (by decide +kernel)⟩
theorem vL_79 : Lv RL 79 yX9_find 1 := ⟨mem_g 937 (by decide +kernel) rfl, mem_g 938 (by decide +kernel) rfl, mem_g 939 (by decide +kernel) rfl, Lp.of (by decide +kernel)⟩
theorem vL_82 : Lv RL 82 yX10_find 1 := ⟨mem_g 1757 (by decide +kernel) rfl, mem_g 1758 (by decide +kernel) rfl, mem_g 1759 (by decide +kernel) rfl, Lp.of (by decide +kernel)⟩
theorem vL_83 : Lv RL 83 yX9_go 1 := ⟨mem_g 941 (by decide +kernel) rfl, mem_g 942 (by decide +kernel) rfl, mem_g 943 (by decide +kernel) rfl, Lp.of (by decide +kernel)⟩
theorem vL_86 : Lv RL 86 yX10_go 1 := ⟨mem_g 1761 (by decide +kernel) rfl, mem_g 1762 (by decide +kernel) rfl, mem_g 1763 (by decide +kernel) rfl, Lp.of (by decide +kernel)⟩
theorem vL_87 : Lv RL 87 yX9_ahead 2 := ⟨mem_g 996 (by decide +kernel) rfl, mem_g 997 (by decide +kernel) rfl, mem_g 998 (by decide +kernel) rfl, Lp.of (by decide +kernel)⟩
theorem vL_90 : Lv RL 90 yX10_ahead 2 := ⟨mem_g 1784 (by decide +kernel) rfl, mem_g 1785 (by decide +kernel) rfl, mem_g 1786 (by decide +kernel) rfl, Lp.of (by decide +kernel)⟩
theorem vL_91 : Lv RL 91 yX9_above 1 := ⟨mem_g 1013 (by decide +kernel) rfl, mem_g 1014 (by decide +kernel) rfl, mem_g 1015 (by decide +kernel) rfl, Lp.of (by decide +kernel)⟩
theorem vL_94 : Lv RL 94 yX10_above 1 := ⟨mem_g 1804 (by decide +kernel) rfl, mem_g 1805 (by decide +kernel) rfl, mem_g 1806 (by decide +kernel) rfl, Lp.of (by decide +kernel)⟩
theorem vL_95 : Lv RL 95 yX9_order 1 := ⟨mem_g 1018 (by decide +kernel) rfl, mem_g 1019 (by decide +kernel) rfl, mem_g 1020 (by decide +kernel) rfl, Lp.of (by decide +kernel)⟩
theorem vL_98 : Lv RL 98 yX10_order 1 := ⟨mem_g 1812 (by decide +kernel) rfl, mem_g 1813 (by decide +kernel) rfl, mem_g 1814 (by decide +kernel) rfl, Lp.of (by decide +kernel)⟩
theorem vL_99 : Lv RL 99 yX9_best 2 := ⟨mem_g 1048 (by decide +kernel) rfl, mem_g 1049 (by decide +kernel) rfl, mem_g 1050 (by decide +kernel) rfl, Lp.of (by decide +kernel)⟩
theorem vL_102 : Lv RL 102 yX10_best 2 := ⟨mem_g 1820 (by decide +kernel) rfl, mem_g 1821 (by decide +kernel) rfl, mem_g 1822 (by decide +kernel) rfl, Lp.of (by decide +kernel)⟩
theorem vL_103 : Lv RL 103 yX9_tidy 1 := ⟨mem_g 1056 (by decide +kernel) rfl, mem_g 1057 (by decide +kernel) rfl, mem_g 1058 (by decide +kernel) rfl, Lp.of (by decide +kernel)⟩
theorem vL_106 : Lv RL 106 yX10_tidy 1 := ⟨mem_g 1824 (by decide +kernel) rfl, mem_g 1825 (by decide +kernel) rfl, mem_g 1826 (by decide +kernel) rfl, Lp.of (by decide +kernel)⟩
theorem vL_107 : Lv RL 107 yX9_rests 1 := ⟨mem_g 1069 (by decide +kernel) rfl, mem_g 1070 (by decide +kernel) rfl, mem_g 1071 (by decide +kernel) rfl, Lp.of (by decide +kernel)⟩
theorem vL_110 : Lv RL 110 yX10_rests 1 := ⟨mem_g 1835 (by decide +kernel) rfl, mem_g 1836 (by decide +kernel) rfl, mem_g 1837 (by decide +kernel) rfl, Lp.of (by decide +kernel)⟩
theorem vL_111 : Lv RL 111 yX9_rest 2 := ⟨mem_g 1079 (by decide +kernel) rfl, mem_g 1080 (by decide +kernel) rfl, mem_g 1081 (by decide +kernel) rfl, Lp.of (by decide +kernel)⟩
theorem vL_114 : Lv RL 114 yX10_rest 2 := ⟨mem_g 1852 (by decide +kernel) rfl, mem_g 1853 (by decide +kernel) rfl, mem_g 1854 (by decide +kernel) rfl, Lp.of (by decide +kernel)⟩
theorem vL_115 : Lv RL 115 yX9_whole 2 := ⟨mem_g 1083 (by decide +kernel) rfl, mem_g 1084 (by decide +kernel) rfl, mem_g 1085 (by decide +kernel) rfl, Lp.of (by decide +kernel)⟩
theorem vL_119 : Lv RL 119 yX10_whole 2 := ⟨mem_g 1856 (by decide +kernel) rfl, mem_g 1857 (by decide +kernel) rfl, mem_g 1858 (by decide +kernel) rfl, Lp.of (by decide +kernel)⟩
theorem vL_120 : Lv RL 120 yX9_unmet 0 := ⟨mem_g 1092 (by decide +kernel) rfl, mem_g 1093 (by decide +kernel) rfl, mem_g 1094 (by decide +kernel) rfl, Lp.of (by decide +kernel)⟩
theorem vL_123 : Lv RL 123 yX10_unmet 0 := ⟨mem_g 1865 (by decide +kernel) rfl, mem_g 1866 (by decide +kernel) rfl, mem_g 1867 (by decide +kernel) rfl, Lp.of (by decide +kernel)⟩
theorem vL_124 : Lv RL 124 yX9_blows 1 := ⟨mem_g 1096 (by decide +kernel) rfl, mem_g 1097 (by decide +kernel) rfl, mem_g 1098 (by decide +kernel) rfl, Lp.of (by decide +kernel)⟩
theorem vL_127 : Lv RL 127 yX10_blows 1 := ⟨mem_g 1808 (by decide +kernel) rfl, mem_g 1809 (by decide +kernel) rfl, mem_g 1810 (by decide +kernel) rfl, Lp.of (by decide +kernel)⟩
theorem vL_128 : Lv RL 128 yX9_note 3 := ⟨mem_g 1100 (by decide +kernel) rfl, mem_g 1101 (by decide +kernel) rfl, mem_g 1102 (by decide +kernel) rfl, Lp.of (by decide +kernel)⟩
theorem vL_132 : Lv RL 132 yX10_note 3 := ⟨mem_g 1869 (by decide +kernel) rfl, mem_g 1870 (by decide +kernel) rfl, mem_g 1871 (by decide +kernel) rfl, Lp.of (by decide +kernel)⟩
theorem vL_133 : Lv RL 133 yX9_see 3 := ⟨mem_g 1111 (by decide +kernel) rfl, mem_g 1112 (by decide +kernel) rfl, mem_g 1113 (by decide +kernel) rfl, Lp.of (by decide +kernel)⟩
theorem vL_136 : Lv RL 136 yX10_see 3 := ⟨mem_g 1877 (by decide +kernel) rfl, mem_g 1878 (by decide +kernel) rfl, mem_g 1879 (by decide +kernel) rfl, Lp.of (by decide +kernel)⟩
theorem vL_137 : Lv RL 137 yX9_strike 1 := ⟨mem_g 1115 (by decide +kernel) rfl, mem_g 1116 (by decide +kernel) rfl, mem_g 1117 (by decide +kernel) rfl, Lp.of (by decide +kernel)⟩
theorem vL_140 : Lv RL 140 yX10_strike 1 := ⟨mem_g 1881 (by decide +kernel) rfl, mem_g 1882 (by decide +kernel) rfl, mem_g 1883 (by decide +kernel) rfl, Lp.of (by decide +kernel)⟩
theorem vL_141 : Lv RL 141 yX9_known 1 := ⟨mem_g 1119 (by decide +kernel) rfl, mem_g 1120 (by decide +kernel) rfl, mem_g 1121 (by decide +kernel) rfl, Lp.of (by decide +kernel)⟩
theorem vL_145 : Lv RL 145 yX10_known 1 := ⟨mem_g 1885 (by decide +kernel) rfl, mem_g 1886 (by decide +kernel) rfl, mem_g 1887 (by decide +kernel) rfl, Lp.of (by decide +kernel)⟩
theorem vL_146 : Lv RL 146 yX9_which 0 := ⟨mem_g 1123 (by decide +kernel) rfl, mem_g 1124 (by decide +kernel) rfl, mem_g 1125 (by decide +kernel) rfl, Lp.of (by decide +kernel)⟩
theorem vL_149 : Lv RL 149 yX10_which 0 := ⟨mem_g 1889 (by decide +kernel) rfl, mem_g 1890 (by decide +kernel) rfl, mem_g 1891 (by decide +kernel) rfl, Lp.of (by decide +kernel)⟩
theorem vL_150 : Lv RL 150 yX9_ask 1 := ⟨mem_g 1142 (by decide +kernel) rfl, mem_g 1143 (by decide +kernel) rfl, mem_g 1144 (by decide +kernel) rfl, Lp.of (by decide +kernel)⟩
theorem vL_153 : Lv RL 153 yX10_ask 1 := ⟨mem_g 1909 (by decide +kernel) rfl, mem_g 1910 (by decide +kernel) rfl, mem_g 1911 (by decide +kernel) rfl, Lp.of (by decide +kernel)⟩
theorem vL_154 : Lv RL 154 yX9_dented 1 := ⟨mem_g 1156 (by decide +kernel) rfl, mem_g 1157 (by decide +kernel) rfl, mem_g 1158 (by decide +kernel) rfl, Lp.of (by decide +kernel)⟩
theorem vL_157 : Lv RL 157 yX10_dented 1 := ⟨mem_g 1914 (by decide +kernel) rfl, mem_g 1915 (by decide +kernel) rfl, mem_g 1916 (by decide +kernel) rfl, Lp.of (by decide +kernel)⟩
theorem vL_158 : Lv RL 158 yX9_chance 3 := ⟨mem_g 1174 (by decide +kernel) rfl, mem_g 1175 (by decide +kernel) rfl, mem_g 1176 (by decide +kernel) rfl, Lp.of (by decide +kernel)⟩
theorem vL_162 : Lv RL 162 yX10_chance 3 := ⟨mem_g 1926 (by decide +kernel) rfl, mem_g 1927 (by decide +kernel) rfl, mem_g 1928 (by decide +kernel) rfl, Lp.of (by decide +kernel)⟩
theorem vL_163 : Lv RL 163 yX9_tried 3 := ⟨mem_g 1178 (by decide +kernel) rfl, mem_g 1179 (by decide +kernel) rfl, mem_g 1180 (by decide +kernel) rfl, Lp.of (by decide +kernel)⟩
theorem vL_166 : Lv RL 166 yX10_tried 3 := ⟨mem_g 1930 (by decide +kernel) rfl, mem_g 1931 (by decide +kernel) rfl, mem_g 1932 (by decide +kernel) rfl, Lp.of (by decide +kernel)⟩
theorem vL_167 : Lv RL 167 yX9_undo 0 := ⟨mem_g 1186 (by decide +kernel) rfl, mem_g 1187 (by decide +kernel) rfl, mem_g 1188 (by decide +kernel) rfl, Lp.of (by decide +kernel)⟩
theorem vL_170 : Lv RL 170 yX10_undo 0 := ⟨mem_g 1934 (by decide +kernel) rfl, mem_g 1935 (by decide +kernel) rfl, mem_g 1936 (by decide +kernel) rfl, Lp.of (by decide +kernel)⟩
theorem vL_171 : Lv RL 171 yX9_keep 0 := ⟨mem_g 1201 (by decide +kernel) rfl, mem_g 1202 (by decide +kernel) rfl, mem_g 1203 (by decide +kernel) rfl, Lp.of (by decide +kernel)⟩
theorem vL_174 : Lv RL 174 yX10_keep 0 := ⟨mem_g 1938 (by decide +kernel) rfl, mem_g 1939 (by decide +kernel) rfl, mem_g 1940 (by decide +kernel) rfl, Lp.of (by decide +kernel)⟩
theorem vL_175 : Lv RL 175 yX9_back 0 := ⟨mem_g 1205 (by decide +kernel) rfl, mem_g 1206 (by decide +kernel) rfl, mem_g 1207 (by decide +kernel) rfl, Lp.of (by decide +kernel)⟩
theorem vL_178 : Lv RL 178 yX10_back 0 := ⟨mem_g 1942 (by decide +kernel) rfl, mem_g 1943 (by decide +kernel) rfl, mem_g 1944 (by decide +kernel) rfl, Lp.of (by decide +kernel)⟩
theorem vL_179 : Lv RL 179 yX9_count 1 := ⟨mem_g 1209 (by decide +kernel) rfl, mem_g 1210 (by decide +kernel) rfl, mem_g 1211 (by decide +kernel) rfl, Lp.of (by decide +kernel)⟩
theorem vL_182 : Lv RL 182 yX10_count 1 := ⟨mem_g 1946 (by decide +kernel) rfl, mem_g 1947 (by decide +kernel) rfl, mem_g 1948 (by decide +kernel) rfl, Lp.of (by decide +kernel)⟩
theorem v10_148 : Lv RX10 148 yX10_begins 0 := ⟨mem_g 1311 (by decide +kernel) rfl, mem_g 1313 (by decide +kernel) rfl, mem_g 45 (by decide +kernel) rfl, Lp.of (by decide +kernel)⟩
theorem v10_163 : Lv RX10 163 yX10_here 0 := ⟨mem_g 1539 (by decide +kernel) rfl, mem_g 1541 (by decide +kernel) rfl, mem_g 49 (by decide +kernel) rfl, Lp.of (by decide +kernel)⟩
theorem v10_173 : Ls RX10 173 yX10_isSmall 1 := ⟨mem_g 1543 (by decide +kernel) rfl, mem_g 1544 (by decide +kernel) rfl, Lp.of (by decide +kernel)⟩
theorem v10_177 : Lv RX10 177 yX10_word 0 := ⟨mem_g 1546 (by decide +kernel) rfl, mem_g 1548 (by decide +kernel) rfl, mem_g 50 (by decide +kernel) rfl, Lp.of (by decide +kernel)⟩
theorem v10_183 : Lv RX10 183 yX10_name 0 := ⟨mem_g 1553 (by decide +kernel) rfl, mem_g 1555 (by decide +kernel) rfl, mem_g 51 (by decide +kernel) rfl, Lp.of (by decide +kernel)⟩
theorem v10_186 : Ls RX10 186 yX10_isDigit 1 := ⟨mem_g 1557 (by decide +kernel) rfl, mem_g 1558 (by decide +kernel) rfl, Lp.of (by decide +kernel)⟩
theorem v10_190 : Lv RX10 190 yX10_sign 1 := ⟨mem_g 1561 (by decide +kernel) rfl, mem_g 1563 (by decide +kernel) rfl, mem_g 52 (by decide +kernel) rfl, Lp.of (by decide +kernel)⟩
theorem v10_211 : Lv RX10 211 yX10_token 0 := ⟨mem_g 1535 (by decide +kernel) rfl, mem_g 1537 (by decide +kernel) rfl, mem_g 48 (by decide +kernel) rfl, Lp.of (by decide +kernel)⟩
theorem v10_214 : Lv RX10 214 yX10_wrong 1 := ⟨mem_g 1569 (by decide +kernel) rfl, mem_g 1571 (by decide +kernel) rfl, mem_g 54 (by decide +kernel) rfl, Lp.of (by decide +kernel)⟩
theorem v10_217 : Ls RX10 217 yX10_found 4 := ⟨mem_g 1585 (by decide +kernel) rfl, mem_g 1586 (by decide +kernel) rfl, Lp.of (by decide +kernel)⟩
theorem v10_221 : Lv RX10 221 yX10_goOn 0 := ⟨mem_g 1596 (by decide +kernel) rfl, mem_g 1598 (by decide +kernel) rfl, mem_g 60 (by decide +kernel) rfl, Lp.of (by decide +kernel)⟩
theorem v10_224 : Lv RX10 224 yX10_fresher 1 := ⟨mem_g 1577 (by decide +kernel) rfl, mem_g 1579 (by decide +kernel) rfl, mem_g 56 (by decide +kernel) rfl, Lp.of (by decide +kernel)⟩
theorem v10_228 : Lv RX10 228 yX10_isFull 1 := ⟨mem_g 1573 (by decide +kernel) rfl, mem_g 1575 (by decide +kernel) rfl, mem_g 55 (by decide +kernel) rfl, Lp.of (by decide +kernel)⟩
theorem v10_234 : Lv RX10 234 yX10_fresh 3 := ⟨mem_g 1581 (by decide +kernel) rfl, mem_g 1583 (by decide +kernel) rfl, mem_g 57 (by decide +kernel) rfl, Lp.of (by decide +kernel)⟩
theorem v10_238 : Lv RX10 238 yX10_numeral 2 := ⟨mem_g 1588 (by decide +kernel) rfl, mem_g 1590 (by decide +kernel) rfl, mem_g 58 (by decide +kernel) rfl, Lp.of (by decide +kernel)⟩
theorem v10_242 : Lv RX10 242 yX10_reads 2 := ⟨mem_g 1531 (by decide +kernel) rfl, mem_g 1533 (by decide +kernel) rfl, mem_g 47 (by decide +kernel) rfl, Lp.of (by decide +kernel)⟩
theorem v10_246 : Lv RX10 246 yX10_toldAhead 3 := ⟨mem_g 1592 (by decide +kernel) rfl, mem_g 1594 (by decide +kernel) rfl, mem_g 59 (by decide +kernel) rfl, Lp.of (by decide +kernel)⟩
theorem v10_249 : Lv RX10 249 yX10_lawLine 0 := ⟨mem_g 1600 (by decide +kernel) rfl, mem_g 1602 (by decide +kernel) rfl, mem_g 61 (by decide +kernel) rfl, Lp.of (by decide +kernel)⟩
theorem v10_252 : Lv RX10 252 yX10_isSign 1 := ⟨mem_g 1640 (by decide +kernel) rfl, mem_g 1642 (by decide +kernel) rfl, mem_g 71 (by decide +kernel) rfl, Lp.of (by decide +kernel)⟩
theorem v10_258 : Lv RX10 258 yX10_expression 0 := ⟨mem_g 1604 (by decide +kernel) rfl, mem_g 1606 (by decide +kernel) rfl, mem_g 62 (by decide +kernel) rfl, Lp.of (by decide +kernel)⟩
theorem v10_264 : Lv RX10 264 yX10_conjunction 0 := ⟨mem_g 1608 (by decide +kernel) rfl, mem_g 1610 (by decide +kernel) rfl, mem_g 63 (by decide +kernel) rfl, Lp.of (by decide +kernel)⟩
theorem v10_267 : Lv RX10 267 yX10_isWord 1 := ⟨mem_g 1616 (by decide +kernel) rfl, mem_g 1618 (by decide +kernel) rfl, mem_g 65 (by decide +kernel) rfl, Lp.of (by decide +kernel)⟩
theorem v10_270 : Lv RX10 270 yX10_knot 0 := ⟨mem_g 1620 (by decide +kernel) rfl, mem_g 1622 (by decide +kernel) rfl, mem_g 66 (by decide +kernel) rfl, Lp.of (by decide +kernel)⟩
theorem v10_273 : Lv RX10 273 yX10_puts 2 := ⟨mem_g 1624 (by decide +kernel) rfl, mem_g 1626 (by decide +kernel) rfl, mem_g 67 (by decide +kernel) rfl, Lp.of (by decide +kernel)⟩
theorem v10_275 : Lv RX10 275 yX10_negation 0 := ⟨mem_g 1612 (by decide +kernel) rfl, mem_g 1614 (by decide +kernel) rfl, mem_g 64 (by decide +kernel) rfl, Lp.of (by decide +kernel)⟩
theorem v10_278 : Lv RX10 278 yX10_sum 0 := ⟨mem_g 1628 (by decide +kernel) rfl, mem_g 1630 (by decide +kernel) rfl, mem_g 68 (by decide +kernel) rfl, Lp.of (by decide +kernel)⟩
theorem v10_281 : Lv RX10 281 yX10_product 0 := ⟨mem_g 1632 (by decide +kernel) rfl, mem_g 1634 (by decide +kernel) rfl, mem_g 69 (by decide +kernel) rfl, Lp.of (by decide +kernel)⟩
theorem v10_284 : Lv RX10 284 yX10_primary 0 := ⟨mem_g 1636 (by decide +kernel) rfl, mem_g 1638 (by decide +kernel) rfl, mem_g 70 (by decide +kernel) rfl, Lp.of (by decide +kernel)⟩
theorem v10_290 : Lv RX10 290 yX10_line 0 := ⟨mem_g 1565 (by decide +kernel) rfl, mem_g 1567 (by decide +kernel) rfl, mem_g 53 (by decide +kernel) rfl, Lp.of (by decide +kernel)⟩
theorem v10_296 : Ls RX10 296 yX10_half 1 := ⟨mem_g 1644 (by decide +kernel) rfl, mem_g 1645 (by decide +kernel) rfl, Lp.of (by decide +kernel)⟩
theorem v10_313 : Ls RX10 313 yX10_is 1 := ⟨mem_g 1719 (by decide +kernel) rfl, mem_g 1720 (by decide +kernel) rfl, Lp.of (by decide +kernel)⟩
theorem v10_327 : Lv RX10 327 yX10_works 1 := ⟨mem_g 1715 (by decide +kernel) rfl, mem_g 1717 (by decide +kernel) rfl, mem_g 81 (by decide +kernel) rfl, Lp.of (by decide +kernel)⟩
theorem v10_330 : Lv RX10 330 yX10_starts 1 := ⟨mem_g 1315 (by decide +kernel) rfl, mem_g 1317 (by decide +kernel) rfl, mem_g 46 (by decide +kernel) rfl, Lp.of (by decide +kernel)⟩
theorem v10_333 : Lv RX10 333 yX10_isClosed 2 := ⟨mem_g 1690 (by decide +kernel) rfl, mem_g 1692 (by decide +kernel) rfl, mem_g 76 (by decide +kernel) rfl, Lp.of (by decide +kernel)⟩
theorem v10_337 : Lv RX10 337 yX10_aboveOf 2 := ⟨mem_g 1694 (by decide +kernel) rfl, mem_g 1696 (by decide +kernel) rfl, mem_g 77 (by decide +kernel) rfl, Lp.of (by decide +kernel)⟩
theorem v10_340 : Lv RX10 340 yX10_hasLaw 1 := ⟨mem_g 1702 (by decide +kernel) rfl, mem_g 1704 (by decide +kernel) rfl, mem_g 78 (by decide +kernel) rfl, Lp.of (by decide +kernel)⟩
theorem v10_343 : Lv RX10 343 yX10_goes 1 := ⟨mem_g 1711 (by decide +kernel) rfl, mem_g 1713 (by decide +kernel) rfl, mem_g 80 (by decide +kernel) rfl, Lp.of (by decide +kernel)⟩
theorem v10_353 : Lv RX10 353 yX10_calls 3 := ⟨mem_g 1707 (by decide +kernel) rfl, mem_g 1709 (by decide +kernel) rfl, mem_g 79 (by decide +kernel) rfl, Lp.of (by decide +kernel)⟩
theorem v10_357 : Lv RX10 357 yX10_within 4 := ⟨mem_g 1743 (by decide +kernel) rfl, mem_g 1745 (by decide +kernel) rfl, mem_g 85 (by decide +kernel) rfl, Lp.of (by decide +kernel)⟩
theorem v10_364 : Lv RX10 364 yX10_isOnTop 2 := ⟨mem_g 1686 (by decide +kernel) rfl, mem_g 1688 (by decide +kernel) rfl, mem_g 75 (by decide +kernel) rfl, Lp.of (by decide +kernel)⟩
theorem v10_367 : Lv RX10 367 yX10_opens 2 := ⟨mem_g 1739 (by decide +kernel) rfl, mem_g 1741 (by decide +kernel) rfl, mem_g 84 (by decide +kernel) rfl, Lp.of (by decide +kernel)⟩
theorem v10_374 : Lv RX10 374 yX10_opensTold 2 := ⟨mem_g 1769 (by decide +kernel) rfl, mem_g 1771 (by decide +kernel) rfl, mem_g 87 (by decide +kernel) rfl, Lp.of (by decide +kernel)⟩
theorem v10_377 : Lv RX10 377 yX10_serves 3 := ⟨mem_g 1773 (by decide +kernel) rfl, mem_g 1775 (by decide +kernel) rfl, mem_g 88 (by decide +kernel) rfl, Lp.of (by decide +kernel)⟩
theorem v10_381 : Lv RX10 381 yX10_doesRust 3 := ⟨mem_g 1777 (by decide +kernel) rfl, mem_g 1779 (by decide +kernel) rfl, mem_g 89 (by decide +kernel) rfl, Lp.of (by decide +kernel)⟩
theorem v10_387 : Lv RX10 387 yX10_passes 2 := ⟨mem_g 1765 (by decide +kernel) rfl, mem_g 1767 (by decide +kernel) rfl, mem_g 86 (by decide +kernel) rfl, Lp.of (by decide +kernel)⟩
theorem v10_391 : Lv RX10 391 yX10_copies 2 := ⟨mem_g 1735 (by decide +kernel) rfl, mem_g 1737 (by decide +kernel) rfl, mem_g 83 (by decide +kernel) rfl, Lp.of (by decide +kernel)⟩
theorem v10_394 : Lv RX10 394 yX10_goesOn 1 := ⟨mem_g 1792 (by decide +kernel) rfl, mem_g 1794 (by decide +kernel) rfl, mem_g 91 (by decide +kernel) rfl, Lp.of (by decide +kernel)⟩
theorem v10_397 : Lv RX10 397 yX10_isTin 1 := ⟨mem_g 1659 (by decide +kernel) rfl, mem_g 1661 (by decide +kernel) rfl, mem_g 72 (by decide +kernel) rfl, Lp.of (by decide +kernel)⟩
theorem v10_400 : Lv RX10 400 yX10_isKind 1 := ⟨mem_g 1667 (by decide +kernel) rfl, mem_g 1669 (by decide +kernel) rfl, mem_g 73 (by decide +kernel) rfl, Lp.of (by decide +kernel)⟩
theorem v10_403 : Lv RX10 403 yX10_setOf 2 := ⟨mem_g 1671 (by decide +kernel) rfl, mem_g 1673 (by decide +kernel) rfl, mem_g 74 (by decide +kernel) rfl, Lp.of (by decide +kernel)⟩
theorem v10_406 : Ls RX10 406 yX10_isStack 1 := ⟨mem_g 1683 (by decide +kernel) rfl, mem_g 1684 (by decide +kernel) rfl, Lp.of (by decide +kernel)⟩
theorem v10_413 : Lv RX10 413 yX10_keepNow 0 := ⟨mem_g 1731 (by decide +kernel) rfl, mem_g 1733 (by decide +kernel) rfl, mem_g 82 (by decide +kernel) rfl, Lp.of (by decide +kernel)⟩
theorem v10_416 : Lv RX10 416 yX10_runs 1 := ⟨mem_g 1788 (by decide +kernel) rfl, mem_g 1790 (by decide +kernel) rfl, mem_g 90 (by decide +kernel) rfl, Lp.of (by decide +kernel)⟩
theorem v10_419 : Lv RX10 419 yX10_wantsOf 2 := ⟨mem_g 1796 (by decide +kernel) rfl, mem_g 1798 (by decide +kernel) rfl, mem_g 92 (by decide +kernel) rfl, Lp.of (by decide +kernel)⟩
theorem v10_422 : Lv RX10 422 yX10_tinsOf 2 := ⟨mem_g 1800 (by decide +kernel) rfl, mem_g 1802 (by decide +kernel) rfl, mem_g 93 (by decide +kernel) rfl, Lp.of (by decide +kernel)⟩
theorem v10_428 : Lv RX10 428 yX10_rows 2 := ⟨mem_g 1816 (by decide +kernel) rfl, mem_g 1818 (by decide +kernel) rfl, mem_g 94 (by decide +kernel) rfl, Lp.of (by decide +kernel)⟩
theorem v10_434 : Ls RX10 434 yX10_bitsOf 1 := ⟨mem_g 1828 (by decide +kernel) rfl, mem_g 1829 (by decide +kernel) rfl, Lp.of (by decide +kernel)⟩
theorem v10_437 : Lv RX10 437 yX10_isTidy 2 := ⟨mem_g 1831 (by decide +kernel) rfl, mem_g 1833 (by decide +kernel) rfl, mem_g 95 (by decide +kernel) rfl, Lp.of (by decide +kernel)⟩
theorem v10_440 : Ls RX10 440 yX10_hasOf 3 := ⟨mem_g 1849 (by decide +kernel) rfl, mem_g 1850 (by decide +kernel) rfl, Lp.of (by decide +kernel)⟩
theorem v10_443 : Ls RX10 443 yX10_isRest 3 := ⟨mem_g 1846 (by decide +kernel) rfl, mem_g 1847 (by decide +kernel) rfl, Lp.of (by decide +kernel)⟩
theorem v10_447 : Lv RX10 447 yX10_isOpen 1 := ⟨mem_g 1839 (by decide +kernel) rfl, mem_g 1841 (by decide +kernel) rfl, mem_g 96 (by decide +kernel) rfl, Lp.of (by decide +kernel)⟩
theorem v10_450 : Ls RX10 450 yX10_restOf 2 := ⟨mem_g 1843 (by decide +kernel) rfl, mem_g 1844 (by decide +kernel) rfl, Lp.of (by decide +kernel)⟩
theorem v10_457 : Ls RX10 457 yX10_common 2 := ⟨mem_g 1862 (by decide +kernel) rfl, mem_g 1863 (by decide +kernel) rfl, Lp.of (by decide +kernel)⟩
theorem v10_460 : Lv RX10 460 yX10_noted 4 := ⟨mem_g 1873 (by decide +kernel) rfl, mem_g 1875 (by decide +kernel) rfl, mem_g 97 (by decide +kernel) rfl, Lp.of (by decide +kernel)⟩
theorem v10_464 : Lv RX10 464 yX10_knownMany 0 := ⟨mem_g 1901 (by decide +kernel) rfl, mem_g 1903 (by decide +kernel) rfl, mem_g 100 (by decide +kernel) rfl, Lp.of (by decide +kernel)⟩
theorem v10_467 : Lv RX10 467 yX10_strikes 0 := ⟨mem_g 1897 (by decide +kernel) rfl, mem_g 1899 (by decide +kernel) rfl, mem_g 99 (by decide +kernel) rfl, Lp.of (by decide +kernel)⟩
theorem v10_470 : Lv RX10 470 yX10_isNoted 1 := ⟨mem_g 1905 (by decide +kernel) rfl, mem_g 1907 (by decide +kernel) rfl, mem_g 101 (by decide +kernel) rfl, Lp.of (by decide +kernel)⟩
theorem v10_473 : Lv RX10 473 yX10_whichOnes 0 := ⟨mem_g 1893 (by decide +kernel) rfl, mem_g 1895 (by decide +kernel) rfl, mem_g 98 (by decide +kernel) rfl, Lp.of (by decide +kernel)⟩
theorem v10_478 : Lv RX10 478 yX10_isSo 1 := ⟨mem_g 1922 (by decide +kernel) rfl, mem_g 1924 (by decide +kernel) rfl, mem_g 103 (by decide +kernel) rfl, Lp.of (by decide +kernel)⟩
theorem v10_481 : Lv RX10 481 yX10_fitsDents 3 := ⟨mem_g 1918 (by decide +kernel) rfl, mem_g 1920 (by decide +kernel) rfl, mem_g 102 (by decide +kernel) rfl, Lp.of (by decide +kernel)⟩
theorem k9_170 : Cond.constantLong RX9 170 (-9223372036854775808 : Int64) ∈ gtbl := mem_g 874 (by decide +kernel) rfl
theorem k9_289 : Cond.constantLong RX9 289 (-1 : Int64) ∈ gtbl := mem_g 1087 (by decide +kernel) rfl
theorem k9_294 : Cond.constantLong RX9 294 (100 : Int64) ∈ gtbl := mem_g 1088 (by decide +kernel) rfl
theorem k0_153 : Cond.constantLong RX0 153 (-9223372036854775808 : Int64) ∈ gtbl := mem_g 905 (by decide +kernel) rfl
theorem k1_49 : Cond.constantLong RX1 49 (-9223372036854775808 : Int64) ∈ gtbl := mem_g 886 (by decide +kernel) rfl
theorem k1_57 : Cond.constantLong RX1 57 (1000000000000 : Int64) ∈ gtbl := mem_g 890 (by decide +kernel) rfl
theorem k1_59 : Cond.constantLong RX1 59 (-1000000000000 : Int64) ∈ gtbl := mem_g 891 (by decide +kernel) rfl
theorem k6_102 : Cond.constantLong RX6 102 (1103515245 : Int64) ∈ gtbl := mem_g 987 (by decide +kernel) rfl
theorem k6_104 : Cond.constantLong RX6 104 (12345 : Int64) ∈ gtbl := mem_g 988 (by decide +kernel) rfl
theorem k6_106 : Cond.constantLong RX6 106 (2147483647 : Int64) ∈ gtbl := mem_g 989 (by decide +kernel) rfl
theorem k6_108 : Cond.constantLong RX6 108 (65536 : Int64) ∈ gtbl := mem_g 990 (by decide +kernel) rfl
theorem k10_323 : Cond.constantLong RX10 323 (1000000000000 : Int64) ∈ gtbl := mem_g 1725 (by decide +kernel) rfl
theorem k10_325 : Cond.constantLong RX10 325 (-1000000000000 : Int64) ∈ gtbl := mem_g 1726 (by decide +kernel) rfl
theorem k10_411 : Cond.constantLong RX10 411 (-9223372036854775808 : Int64) ∈ gtbl := mem_g 1706 (by decide +kernel) rfl
theorem k10_453 : Cond.constantLong RX10 453 (-1 : Int64) ∈ gtbl := mem_g 1860 (by decide +kernel) rfl
theorem k10_455 : Cond.constantLong RX10 455 (100 : Int64) ∈ gtbl := mem_g 1861 (by decide +kernel) rfl
theorem k9_323 : Cond.constant RX9 323 (2147483647 : Int32) ∈ gtbl := mem_g 1147 (by decide +kernel) rfl
theorem k2_84 : Cond.constant RX2 84 (99999 : Int32) ∈ gtbl := mem_g 730 (by decide +kernel) rfl
theorem k5_58 : Cond.constant RX5 58 (1000000 : Int32) ∈ gtbl := mem_g 598 (by decide +kernel) rfl
theorem k10_189 : Cond.constant RX10 189 (99999 : Int32) ∈ gtbl := mem_g 1560 (by decide +kernel) rfl
theorem k10_370 : Cond.constant RX10 370 (1103515245 : Int32) ∈ gtbl := mem_g 1781 (by decide +kernel) rfl
theorem k10_373 : Cond.constant RX10 373 (2147483647 : Int32) ∈ gtbl := mem_g 1782 (by decide +kernel) rfl
theorem v9_3 : Cond.methodLink RX9 3 objectInit ∈ gtbl := mem_g 134 (by decide +kernel) rfl
theorem v9_243 : Cond.methodLink RX9 243 arraycopyName ∈ gtbl := mem_g 1038 (by decide +kernel) rfl
theorem v9_259 : Cond.methodLink RX9 259 Lib.Math.min.name ∈ gtbl := mem_g 1043 (by decide +kernel) rfl
theorem v9_331 : Cond.methodLink RX9 331 Lib.Math.max.name ∈ gtbl := mem_g 1155 (by decide +kernel) rfl
theorem v0_3 : Cond.methodLink RX0 3 objectInit ∈ gtbl := mem_g 365 (by decide +kernel) rfl
theorem v0_162 : Cond.methodLink RX0 162 Lib.Math.min.name ∈ gtbl := mem_g 991 (by decide +kernel) rfl
theorem v0_174 : Cond.methodLink RX0 174 Lib.MathLoose.min_long.x ∈ gtbl := mem_g 906 (by decide +kernel) rfl
theorem v0_177 : Cond.methodLink RX0 177 Lib.MathLoose.max_long.x ∈ gtbl := mem_g 909 (by decide +kernel) rfl
theorem v1_3 : Cond.methodLink RX1 3 objectInit ∈ gtbl := mem_g 180 (by decide +kernel) rfl
theorem v1_35 : Cond.methodLink RX1 35 arraycopyName ∈ gtbl := mem_g 817 (by decide +kernel) rfl
theorem v2_3 : Cond.methodLink RX2 3 objectInit ∈ gtbl := mem_g 142 (by decide +kernel) rfl
theorem v2_128 : Cond.methodLink RX2 128 Lib.Math.max.name ∈ gtbl := mem_g 717 (by decide +kernel) rfl
theorem v3_3 : Cond.methodLink RX3 3 objectInit ∈ gtbl := mem_g 148 (by decide +kernel) rfl
theorem v4_3 : Cond.methodLink RX4 3 objectInit ∈ gtbl := mem_g 154 (by decide +kernel) rfl
theorem v4_35 : Cond.methodLink RX4 35 arraycopyName ∈ gtbl := mem_g 810 (by decide +kernel) rfl
theorem v4_41 : Cond.methodLink RX4 41 Lib.Math.min.name ∈ gtbl := mem_g 809 (by decide +kernel) rfl
theorem v5_3 : Cond.methodLink RX5 3 objectInit ∈ gtbl := mem_g 268 (by decide +kernel) rfl
theorem v5_27 : Cond.methodLink RX5 27 Lib.Math.min.name ∈ gtbl := mem_g 585 (by decide +kernel) rfl
theorem v6_3 : Cond.methodLink RX6 3 objectInit ∈ gtbl := mem_g 387 (by decide +kernel) rfl
theorem v6_45 : Cond.methodLink RX6 45 Lib.Math.min.name ∈ gtbl := mem_g 502 (by decide +kernel) rfl
theorem v6_82 : Cond.methodLink RX6 82 arraycopyName ∈ gtbl := mem_g 1008 (by decide +kernel) rfl
theorem v6_99 : Cond.methodLink RX6 99 Lib.Math.max.name ∈ gtbl := mem_g 931 (by decide +kernel) rfl
theorem v7_3 : Cond.methodLink RX7 3 objectInit ∈ gtbl := mem_g 490 (by decide +kernel) rfl
theorem v7_54 : Cond.methodLink RX7 54 Lib.Math.max.name ∈ gtbl := mem_g 1200 (by decide +kernel) rfl
theorem v8_3 : Cond.methodLink RX8 3 objectInit ∈ gtbl := mem_g 473 (by decide +kernel) rfl
theorem v8_37 : Cond.methodLink RX8 37 Lib.Math.min.name ∈ gtbl := mem_g 1135 (by decide +kernel) rfl
theorem v8_54 : Cond.methodLink RX8 54 Lib.Math.max.name ∈ gtbl := mem_g 1168 (by decide +kernel) rfl
theorem v10_1 : Cond.methodLink RX10 1 objectInit ∈ gtbl := mem_g 1310 (by decide +kernel) rfl
theorem v10_317 : Cond.methodLink RX10 317 Lib.MathLoose.abs_long.x ∈ gtbl := mem_g 1722 (by decide +kernel) rfl
theorem v10_346 : Cond.methodLink RX10 346 Lib.MathLoose.min_long.x ∈ gtbl := mem_g 1747 (by decide +kernel) rfl
theorem v10_350 : Cond.methodLink RX10 350 Lib.MathLoose.max_long.x ∈ gtbl := mem_g 1748 (by decide +kernel) rfl
theorem v10_385 : Cond.methodLink RX10 385 Lib.Math.min.name ∈ gtbl := mem_g 1783 (by decide +kernel) rfl
theorem v10_476 : Cond.methodLink RX10 476 Lib.Math.max.name ∈ gtbl := mem_g 1913 (by decide +kernel) rfl
end
section
/-- what stays while nothing is made: references, shapes, how many -/
abbrev Kt : Type := (Nat → Nat → Option Nat) × (Nat → Nat × Nat) × Nat
abbrev IM : Type := Nat → Nat → Int32
abbrev JM : Type := Nat → Nat → Int64
def u2 {α : Type} (I : Nat → Nat → α) (a k : Nat) (v : α) : Nat → Nat → α := fun a' k' => if a' = a ∧ k' = k then v else I a' k'
/-- a whole row -/
def uR {α : Type} (I : Nat → Nat → α) (a : Nat) (f : Nat → α) : Nat → Nat → α := fun a' k' => if a' = a then f k' else I a' k'
theorem u2_at {α : Type} (I : Nat → Nat → α) (a k : Nat) (v : α) : u2 I a k v a k = v := by simp [u2]
theorem u2_ne {α : Type} (I : Nat → Nat → α) {a k a' k' : Nat} (v : α) (h : a' ≠ a) : u2 I a k v a' k' = I a' k' := by simp [u2, h]
theorem u2_nk {α : Type} (I : Nat → Nat → α) {a k a' k' : Nat} (v : α) (h : k' ≠ k) : u2 I a k v a' k' = I a' k' := by simp [u2, h]
theorem u2_row {α : Type} (I : Nat → Nat → α) {a k a' : Nat} (v : α) (h : a' ≠ a) : u2 I a k v a' = I a' := by funext k'; simp [u2, h]
theorem uR_at {α : Type} (I : Nat → Nat → α) (a : Nat) (f : Nat → α) : uR I a f a = f := by funext k; simp [uR]
theorem uR_ne {α : Type} (I : Nat → Nat → α) {a a' : Nat} (f : Nat → α) (h : a' ≠ a) : uR I a f a' = I a' := by funext k; simp [uR, h]
def Gw (l : Launch) (G : GG) (d : Nat) (M : MD) (pc : Nat) (L st : List Value) (h : Hp) (Q : Option Value → Hp → Prop) : Prop := ∃ r h', Go l G d 0 0 M 0 0 pc L st h r h' ∧ Q r h'
def Cw (l : Launch) (G : GG) (d : Nat) (M : MD) (as : List Value) (h : Hp) (Q : Option Value → Hp → Prop) : Prop := ∃ r h', Ct l G d 0 0 M as h r h' ∧ Q r h'
/-- a method that only answers -/
def Cp (l : Launch) (G : GG) (d : Nat) (M : MD) (as : List Value) (h : Hp) (v : Value) : Prop := Ct l G d 0 0 M as h (some v) h
section RowsW
variable {l : Launch} {G : GG} {d pc npc : Nat} {M : MD} {L st : List Value} {h : Hp} {I : IM} {J : JM} {K : Kt} {Q Q1 : Option Value → Hp → Prop} {a k kd n i : Nat}
theorem Cw.of {as : List Value} (hM : MOk M) (hn : Nat.ble (argF as).length M.2.2.1 = true) (hl : argL as M.2.2.1 = L) (hg : Gw l G d M 0 L [] h Q) : Cw l G d M as h Q := by
  obtain ⟨r, h', k, q⟩ := hg
  exact ⟨r, h', Ct.of hM hn hl k, q⟩
theorem Cp.of {as : List Value} {v : Value} (hM : MOk M) (hn : Nat.ble (argF as).length M.2.2.1 = true) (hl : argL as M.2.2.1 = L) (hg : Gw l G d M 0 L [] h (fun r h' => r = some v ∧ h' = h)) : Cp l G d M as h v := by
  obtain ⟨r, h', k, rfl, rfl⟩ := hg
  exact Ct.of hM hn hl k
theorem Cw.mono {as : List Value} (hc : Cw l G d M as h Q1) (hq : ∀ r h', Q1 r h' → Q r h') : Cw l G d M as h Q := by
  obtain ⟨r, h', k, q⟩ := hc
  exact ⟨r, h', k, hq r h' q⟩

theorem e_iconst {n : Int} {v : Int32} (hc : lk M pc = some (.iconst n, npc, 1)) (hv : Int32.ofInt n = v) (kk : Gw l G d M npc L (.int v :: st) h Q) : Gw l G d M pc L st h Q := by
  obtain ⟨r, h', kk, q⟩ := kk
  exact ⟨r, h', go_iconst hc hv kk, q⟩
theorem e_bipush {n : Int} {v : Int32} (hc : lk M pc = some (.bipush n, npc, 2)) (hv : (Int8.ofInt n).toInt32 = v) (kk : Gw l G d M npc L (.int v :: st) h Q) : Gw l G d M pc L st h Q := by
  obtain ⟨r, h', kk, q⟩ := kk
  exact ⟨r, h', go_bipush hc hv kk, q⟩
theorem e_sipush {n : Int} {v : Int32} (hc : lk M pc = some (.sipush n, npc, 3)) (hv : (Int16.ofInt n).toInt32 = v) (kk : Gw l G d M npc L (.int v :: st) h Q) : Gw l G d M pc L st h Q := by
  obtain ⟨r, h', kk, q⟩ := kk
  exact ⟨r, h', go_sipush hc hv kk, q⟩
theorem e_lconst {n : Fin 2} {v : Int64} (hc : lk M pc = some (.lconst n, npc, 1)) (hv : Int64.ofNat (n : Nat) = v) (kk : Gw l G d M npc L (.long v :: st) h Q) : Gw l G d M pc L st h Q := by
  obtain ⟨r, h', kk, q⟩ := kk
  exact ⟨r, h', go_lconst hc hv kk, q⟩
theorem e_iadd {x y : Int32} (hc : lk M pc = some (.iadd, npc, 1)) (kk : Gw l G d M npc L (.int (x + y) :: st) h Q) : Gw l G d M pc L (.int y :: .int x :: st) h Q := by
  obtain ⟨r, h', kk, q⟩ := kk
  exact ⟨r, h', go_iadd hc kk, q⟩
theorem e_isub {x y : Int32} (hc : lk M pc = some (.isub, npc, 1)) (kk : Gw l G d M npc L (.int (x - y) :: st) h Q) : Gw l G d M pc L (.int y :: .int x :: st) h Q := by
  obtain ⟨r, h', kk, q⟩ := kk
  exact ⟨r, h', go_isub hc kk, q⟩
theorem e_imul {x y : Int32} (hc : lk M pc = some (.imul, npc, 1)) (kk : Gw l G d M npc L (.int (x * y) :: st) h Q) : Gw l G d M pc L (.int y :: .int x :: st) h Q := by
  obtain ⟨r, h', kk, q⟩ := kk
  exact ⟨r, h', go_imul hc kk, q⟩
theorem e_iand {x y : Int32} (hc : lk M pc = some (.iand, npc, 1)) (kk : Gw l G d M npc L (.int (x &&& y) :: st) h Q) : Gw l G d M pc L (.int y :: .int x :: st) h Q := by
  obtain ⟨r, h', kk, q⟩ := kk
  exact ⟨r, h', go_iand hc kk, q⟩
theorem e_ior {x y : Int32} (hc : lk M pc = some (.ior, npc, 1)) (kk : Gw l G d M npc L (.int (x ||| y) :: st) h Q) : Gw l G d M pc L (.int y :: .int x :: st) h Q := by
  obtain ⟨r, h', kk, q⟩ := kk
  exact ⟨r, h', go_ior hc kk, q⟩
theorem e_ixor {x y : Int32} (hc : lk M pc = some (.ixor, npc, 1)) (kk : Gw l G d M npc L (.int (x ^^^ y) :: st) h Q) : Gw l G d M pc L (.int y :: .int x :: st) h Q := by
  obtain ⟨r, h', kk, q⟩ := kk
  exact ⟨r, h', go_ixor hc kk, q⟩
theorem e_ishl {x y : Int32} (hc : lk M pc = some (.ishl, npc, 1)) (kk : Gw l G d M npc L (.int (x <<< (y &&& 31)) :: st) h Q) : Gw l G d M pc L (.int y :: .int x :: st) h Q := by
  obtain ⟨r, h', kk, q⟩ := kk
  exact ⟨r, h', go_ishl hc kk, q⟩
theorem e_ishr {x y : Int32} (hc : lk M pc = some (.ishr, npc, 1)) (kk : Gw l G d M npc L (.int (x >>> (y &&& 31)) :: st) h Q) : Gw l G d M pc L (.int y :: .int x :: st) h Q := by
  obtain ⟨r, h', kk, q⟩ := kk
  exact ⟨r, h', go_ishr hc kk, q⟩
theorem e_ladd {x y : Int64} (hc : lk M pc = some (.ladd, npc, 1)) (kk : Gw l G d M npc L (.long (x + y) :: st) h Q) : Gw l G d M pc L (.long y :: .long x :: st) h Q := by
  obtain ⟨r, h', kk, q⟩ := kk
  exact ⟨r, h', go_ladd hc kk, q⟩
theorem e_lsub {x y : Int64} (hc : lk M pc = some (.lsub, npc, 1)) (kk : Gw l G d M npc L (.long (x - y) :: st) h Q) : Gw l G d M pc L (.long y :: .long x :: st) h Q := by
  obtain ⟨r, h', kk, q⟩ := kk
  exact ⟨r, h', go_lsub hc kk, q⟩
theorem e_lmul {x y : Int64} (hc : lk M pc = some (.lmul, npc, 1)) (kk : Gw l G d M npc L (.long (x * y) :: st) h Q) : Gw l G d M pc L (.long y :: .long x :: st) h Q := by
  obtain ⟨r, h', kk, q⟩ := kk
  exact ⟨r, h', go_lmul hc kk, q⟩
theorem e_land {x y : Int64} (hc : lk M pc = some (.land, npc, 1)) (kk : Gw l G d M npc L (.long (x &&& y) :: st) h Q) : Gw l G d M pc L (.long y :: .long x :: st) h Q := by
  obtain ⟨r, h', kk, q⟩ := kk
  exact ⟨r, h', go_land hc kk, q⟩
theorem e_idiv {x y : Int32} (hc : lk M pc = some (.idiv, npc, 1)) (hne : ¬ y = 0) (kk : Gw l G d M npc L (.int (x / y) :: st) h Q) : Gw l G d M pc L (.int y :: .int x :: st) h Q := by
  obtain ⟨r, h', kk, q⟩ := kk
  exact ⟨r, h', go_idiv hc hne kk, q⟩
theorem e_irem {x y : Int32} (hc : lk M pc = some (.irem, npc, 1)) (hne : ¬ y = 0) (kk : Gw l G d M npc L (.int (x - x / y * y) :: st) h Q) : Gw l G d M pc L (.int y :: .int x :: st) h Q := by
  obtain ⟨r, h', kk, q⟩ := kk
  exact ⟨r, h', go_irem hc hne kk, q⟩
theorem e_ldiv {x y : Int64} (hc : lk M pc = some (.ldiv, npc, 1)) (hne : ¬ y = 0) (kk : Gw l G d M npc L (.long (x / y) :: st) h Q) : Gw l G d M pc L (.long y :: .long x :: st) h Q := by
  obtain ⟨r, h', kk, q⟩ := kk
  exact ⟨r, h', go_ldiv hc hne kk, q⟩
theorem e_lrem {x y : Int64} (hc : lk M pc = some (.lrem, npc, 1)) (hne : ¬ y = 0) (kk : Gw l G d M npc L (.long (x - x / y * y) :: st) h Q) : Gw l G d M pc L (.long y :: .long x :: st) h Q := by
  obtain ⟨r, h', kk, q⟩ := kk
  exact ⟨r, h', go_lrem hc hne kk, q⟩
theorem e_ineg {x : Int32} (hc : lk M pc = some (.ineg, npc, 1)) (kk : Gw l G d M npc L (.int (-x) :: st) h Q) : Gw l G d M pc L (.int x :: st) h Q := by
  obtain ⟨r, h', kk, q⟩ := kk
  exact ⟨r, h', go_ineg hc kk, q⟩
theorem e_lneg {x : Int64} (hc : lk M pc = some (.lneg, npc, 1)) (kk : Gw l G d M npc L (.long (-x) :: st) h Q) : Gw l G d M pc L (.long x :: st) h Q := by
  obtain ⟨r, h', kk, q⟩ := kk
  exact ⟨r, h', go_lneg hc kk, q⟩
theorem e_i2l {x : Int32} (hc : lk M pc = some (.i2l, npc, 1)) (kk : Gw l G d M npc L (.long x.toInt64 :: st) h Q) : Gw l G d M pc L (.int x :: st) h Q := by
  obtain ⟨r, h', kk, q⟩ := kk
  exact ⟨r, h', go_i2l hc kk, q⟩
theorem e_l2i {x : Int64} (hc : lk M pc = some (.l2i, npc, 1)) (kk : Gw l G d M npc L (.int x.toInt32 :: st) h Q) : Gw l G d M pc L (.long x :: st) h Q := by
  obtain ⟨r, h', kk, q⟩ := kk
  exact ⟨r, h', go_l2i hc kk, q⟩
theorem e_i2b {x : Int32} (hc : lk M pc = some (.i2b, npc, 1)) (kk : Gw l G d M npc L (.int x.toInt8.toInt32 :: st) h Q) : Gw l G d M pc L (.int x :: st) h Q := by
  obtain ⟨r, h', kk, q⟩ := kk
  exact ⟨r, h', go_i2b hc kk, q⟩
theorem e_i2c {x : Int32} (hc : lk M pc = some (.i2c, npc, 1)) (kk : Gw l G d M npc L (.int (x.toUInt32 % 65536).toInt32 :: st) h Q) : Gw l G d M pc L (.int x :: st) h Q := by
  obtain ⟨r, h', kk, q⟩ := kk
  exact ⟨r, h', go_i2c hc kk, q⟩
theorem e_iushr {x y : Int32} (hc : lk M pc = some (.iushr, npc, 1)) (kk : Gw l G d M npc L (.int (x.toUInt32 >>> (y.toUInt32 &&& Int32.toUInt32 31)).toInt32 :: st) h Q) : Gw l G d M pc L (.int y :: .int x :: st) h Q := by
  obtain ⟨r, h', kk, q⟩ := kk
  exact ⟨r, h', go_iushr hc kk, q⟩
theorem e_lcmp {x y : Int64} (hc : lk M pc = some (.lcmp, npc, 1)) (kk : Gw l G d M npc L (.int (lg_cmp x y) :: st) h Q) : Gw l G d M pc L (.long y :: .long x :: st) h Q := by
  obtain ⟨r, h', kk, q⟩ := kk
  exact ⟨r, h', go_lcmp hc kk, q⟩
theorem e_dup {v : Value} (hc : lk M pc = some (.dup, npc, 1)) (hv : v.category = 1) (kk : Gw l G d M npc L (v :: v :: st) h Q) : Gw l G d M pc L (v :: st) h Q := by
  obtain ⟨r, h', kk, q⟩ := kk
  exact ⟨r, h', go_dup hc hv kk, q⟩
theorem e_dup2 {v w : Value} (hc : lk M pc = some (.dup2, npc, 1)) (hv : v.category = 1) (hw : w.category = 1) (kk : Gw l G d M npc L (v :: w :: v :: w :: st) h Q) : Gw l G d M pc L (v :: w :: st) h Q := by
  obtain ⟨r, h', kk, q⟩ := kk
  exact ⟨r, h', go_dup2 hc hv hw kk, q⟩
theorem e_iload {i : Nat} {x : Int32} (hc : lk M pc = some (.iload i, npc, 2)) (hl : L[i]? = some (.int x)) (kk : Gw l G d M npc L (.int x :: st) h Q) : Gw l G d M pc L st h Q := by
  obtain ⟨r, h', kk, q⟩ := kk
  exact ⟨r, h', go_iload hc hl kk, q⟩
theorem e_iload_n {i : Fin 4} {x : Int32} (hc : lk M pc = some (.iload_n i, npc, 1)) (hl : L[(i : Nat)]? = some (.int x)) (kk : Gw l G d M npc L (.int x :: st) h Q) : Gw l G d M pc L st h Q := by
  obtain ⟨r, h', kk, q⟩ := kk
  exact ⟨r, h', go_iload_n hc hl kk, q⟩
theorem e_lload {i : Nat} {x : Int64} (hc : lk M pc = some (.lload i, npc, 2)) (hl : L[i]? = some (.long x)) (kk : Gw l G d M npc L (.long x :: st) h Q) : Gw l G d M pc L st h Q := by
  obtain ⟨r, h', kk, q⟩ := kk
  exact ⟨r, h', go_lload hc hl kk, q⟩
theorem e_lload_n {i : Fin 4} {x : Int64} (hc : lk M pc = some (.lload_n i, npc, 1)) (hl : L[(i : Nat)]? = some (.long x)) (kk : Gw l G d M npc L (.long x :: st) h Q) : Gw l G d M pc L st h Q := by
  obtain ⟨r, h', kk, q⟩ := kk
  exact ⟨r, h', go_lload_n hc hl kk, q⟩
theorem e_aload {i : Nat} {x : Nat} (hc : lk M pc = some (.aload i, npc, 2)) (hl : L[i]? = some (.ref x)) (kk : Gw l G d M npc L (.ref x :: st) h Q) : Gw l G d M pc L st h Q := by
  obtain ⟨r, h', kk, q⟩ := kk
  exact ⟨r, h', go_aload hc hl kk, q⟩
theorem e_aload_n {i : Fin 4} {x : Nat} (hc : lk M pc = some (.aload_n i, npc, 1)) (hl : L[(i : Nat)]? = some (.ref x)) (kk : Gw l G d M npc L (.ref x :: st) h Q) : Gw l G d M pc L st h Q := by
  obtain ⟨r, h', kk, q⟩ := kk
  exact ⟨r, h', go_aload_n hc hl kk, q⟩
theorem e_goto {off : Int} {tgt : Nat} (hc : lk M pc = some (.goto off, npc, 3)) (ht : (pc : Int) + off = (tgt : Int)) (kk : Gw l G d M tgt L st h Q) : Gw l G d M pc L st h Q := by
  obtain ⟨r, h', kk, q⟩ := kk
  exact ⟨r, h', go_goto hc ht kk, q⟩
theorem e_tableOut {dflt lo hi : Int} {offs : Array Int} {len : Nat} {x : Int32} {tgt : Nat} (hc : lk M pc = some (.tableswitch dflt lo hi offs, npc, len)) (hh : x.toInt < lo ∨ hi < x.toInt) (ht : (pc : Int) + dflt = (tgt : Int)) (kk : Gw l G d M tgt L st h Q) : Gw l G d M pc L (.int x :: st) h Q := by
  obtain ⟨r, h', kk, q⟩ := kk
  exact ⟨r, h', go_tableOut hc hh ht kk, q⟩
theorem e_tableIn {dflt lo hi : Int} {offs : Array Int} {len : Nat} {x : Int32} {off : Int} {tgt : Nat} (hc : lk M pc = some (.tableswitch dflt lo hi offs, npc, len)) (h1 : ¬ x.toInt < lo) (h2 : ¬ hi < x.toInt) (ho : offs[(x.toInt - lo).toNat]? = some off) (ht : (pc : Int) + off = (tgt : Int)) (kk : Gw l G d M tgt L st h Q) : Gw l G d M pc L (.int x :: st) h Q := by
  obtain ⟨r, h', kk, q⟩ := kk
  exact ⟨r, h', go_tableIn hc h1 h2 ho ht kk, q⟩
theorem e_lookup {dflt : Int} {ps : Array (Int × Int)} {len : Nat} {x : Int32} {off : Int} {tgt : Nat} (hc : lk M pc = some (.lookupswitch dflt ps, npc, len)) (hp : (ps.toList.zip (ps.toList.drop 1)).all (fun (a, next) => a.1 < next.1) = true) (ho : Op.lookupswitch.offset ps.toList dflt x.toInt = off) (ht : (pc : Int) + off = (tgt : Int)) (kk : Gw l G d M tgt L st h Q) : Gw l G d M pc L (.int x :: st) h Q := by
  obtain ⟨r, h', kk, q⟩ := kk
  exact ⟨r, h', go_lookup hc hp ho ht kk, q⟩
theorem e_istore {i : Nat} {x : Int32} {L' : List Value} (hc : lk M pc = some (.istore i, npc, 2)) (hi : Nat.blt i M.2.2.1 = true) (ho : okL L i = true) (hl : L.set i (.int x) = L') (kk : Gw l G d M npc L' st h Q) : Gw l G d M pc L (.int x :: st) h Q := by
  obtain ⟨r, h', kk, q⟩ := kk
  exact ⟨r, h', go_istore hc hi ho hl kk, q⟩
theorem e_istore_n {i : Fin 4} {x : Int32} {L' : List Value} (hc : lk M pc = some (.istore_n i, npc, 1)) (hi : Nat.blt (i : Nat) M.2.2.1 = true) (ho : okL L (i : Nat) = true) (hl : L.set (i : Nat) (.int x) = L') (kk : Gw l G d M npc L' st h Q) : Gw l G d M pc L (.int x :: st) h Q := by
  obtain ⟨r, h', kk, q⟩ := kk
  exact ⟨r, h', go_istore_n hc hi ho hl kk, q⟩
theorem e_astore {i : Nat} {x : Nat} {L' : List Value} (hc : lk M pc = some (.astore i, npc, 2)) (hi : Nat.blt i M.2.2.1 = true) (ho : okL L i = true) (hl : L.set i (.ref x) = L') (kk : Gw l G d M npc L' st h Q) : Gw l G d M pc L (.ref x :: st) h Q := by
  obtain ⟨r, h', kk, q⟩ := kk
  exact ⟨r, h', go_astore hc hi ho hl kk, q⟩
theorem e_astore_n {i : Fin 4} {x : Nat} {L' : List Value} (hc : lk M pc = some (.astore_n i, npc, 1)) (hi : Nat.blt (i : Nat) M.2.2.1 = true) (ho : okL L (i : Nat) = true) (hl : L.set (i : Nat) (.ref x) = L') (kk : Gw l G d M npc L' st h Q) : Gw l G d M pc L (.ref x :: st) h Q := by
  obtain ⟨r, h', kk, q⟩ := kk
  exact ⟨r, h', go_astore_n hc hi ho hl kk, q⟩
theorem e_lstore {i : Nat} {x : Int64} {L' : List Value} (hc : lk M pc = some (.lstore i, npc, 2)) (hi : Nat.blt (i + 1) M.2.2.1 = true) (ho : okL L i = true) (hl : (L.set i (.long x)).set (i + 1) .null = L') (kk : Gw l G d M npc L' st h Q) : Gw l G d M pc L (.long x :: st) h Q := by
  obtain ⟨r, h', kk, q⟩ := kk
  exact ⟨r, h', go_lstore hc hi ho hl kk, q⟩
theorem e_lstore_n {i : Fin 4} {x : Int64} {L' : List Value} (hc : lk M pc = some (.lstore_n i, npc, 1)) (hi : Nat.blt ((i : Nat) + 1) M.2.2.1 = true) (ho : okL L (i : Nat) = true) (hl : (L.set (i : Nat) (.long x)).set ((i : Nat) + 1) .null = L') (kk : Gw l G d M npc L' st h Q) : Gw l G d M pc L (.long x :: st) h Q := by
  obtain ⟨r, h', kk, q⟩ := kk
  exact ⟨r, h', go_lstore_n hc hi ho hl kk, q⟩
theorem e_iinc {i : Nat} {n : Int} {x : Int32} {L' : List Value} (hc : lk M pc = some (.iinc i n, npc, 3)) (hg : L[i]? = some (.int x)) (hi : Nat.blt i M.2.2.1 = true) (ho : okL L i = true) (hl : L.set i (.int (x + Int32.ofInt n)) = L') (kk : Gw l G d M npc L' st h Q) : Gw l G d M pc L st h Q := by
  obtain ⟨r, h', kk, q⟩ := kk
  exact ⟨r, h', go_iinc hc hg hi ho hl kk, q⟩
theorem e_ldc {v : Int32} (hc : lk M pc = some (.ldc i, npc, 2)) (hk : Cond.constant M.1.cls i v ∈ gtbl) (kk : Gw l G d M npc L (.int v :: st) h Q) : Gw l G d M pc L st h Q := by
  obtain ⟨r, h', kk, q⟩ := kk
  exact ⟨r, h', go_ldc hc hk kk, q⟩
theorem e_ldcw {v : Int32} (hc : lk M pc = some (.ldc_w i, npc, 3)) (hk : Cond.constant M.1.cls i v ∈ gtbl) (kk : Gw l G d M npc L (.int v :: st) h Q) : Gw l G d M pc L st h Q := by
  obtain ⟨r, h', kk, q⟩ := kk
  exact ⟨r, h', go_ldcw hc hk kk, q⟩
theorem e_ldc2 {v : Int64} (hc : lk M pc = some (.ldc2_w i, npc, 3)) (hk : Cond.constantLong M.1.cls i v ∈ gtbl) (kk : Gw l G d M npc L (.long v :: st) h Q) : Gw l G d M pc L st h Q := by
  obtain ⟨r, h', kk, q⟩ := kk
  exact ⟨r, h', go_ldc2 hc hk kk, q⟩
theorem e_min {x y : Int32} (hc : lk M pc = some (.invokestatic i, npc, 3)) (hl : Cond.methodLink M.1.cls i Lib.Math.min.name ∈ gtbl) (hst : Nat.ble (st.map fun v => v.category).sum 8 = true)  (kk : Gw l G (d + 1) M npc L (.int (if y < x then y else x) :: st) h Q) : Gw l G (d + 1) M pc L (.int y :: .int x :: st) h Q := by
  obtain ⟨r, h', kk, q⟩ := kk
  exact ⟨r, h', go_min hc hl hst (Nat.le_refl _) (Nat.le_refl _) kk, q⟩
theorem e_max {x y : Int32} (hc : lk M pc = some (.invokestatic i, npc, 3)) (hl : Cond.methodLink M.1.cls i Lib.Math.max.name ∈ gtbl) (hst : Nat.ble (st.map fun v => v.category).sum 8 = true)  (kk : Gw l G (d + 1) M npc L (.int (if x < y then y else x) :: st) h Q) : Gw l G (d + 1) M pc L (.int y :: .int x :: st) h Q := by
  obtain ⟨r, h', kk, q⟩ := kk
  exact ⟨r, h', go_max hc hl hst (Nat.le_refl _) (Nat.le_refl _) kk, q⟩
theorem e_minl {x y : Int64} (hc : lk M pc = some (.invokestatic i, npc, 3)) (hl : Cond.methodLink M.1.cls i Lib.MathLoose.min_long.x ∈ gtbl) (hst : Nat.ble (st.map fun v => v.category).sum 8 = true)  (kk : Gw l G (d + 1) M npc L (.long (if y < x then y else x) :: st) h Q) : Gw l G (d + 1) M pc L (.long y :: .long x :: st) h Q := by
  obtain ⟨r, h', kk, q⟩ := kk
  exact ⟨r, h', go_minl hc hl hst (Nat.le_refl _) (Nat.le_refl _) kk, q⟩
theorem e_maxl {x y : Int64} (hc : lk M pc = some (.invokestatic i, npc, 3)) (hl : Cond.methodLink M.1.cls i Lib.MathLoose.max_long.x ∈ gtbl) (hst : Nat.ble (st.map fun v => v.category).sum 8 = true)  (kk : Gw l G (d + 1) M npc L (.long (if y < x then x else y) :: st) h Q) : Gw l G (d + 1) M pc L (.long y :: .long x :: st) h Q := by
  obtain ⟨r, h', kk, q⟩ := kk
  exact ⟨r, h', go_maxl hc hl hst (Nat.le_refl _) (Nat.le_refl _) kk, q⟩
theorem e_absl {x : Int64} (hc : lk M pc = some (.invokestatic i, npc, 3)) (hl : Cond.methodLink M.1.cls i Lib.MathLoose.abs_long.x ∈ gtbl) (hst : Nat.ble (st.map fun v => v.category).sum 8 = true)  (kk : Gw l G (d + 1) M npc L (.long (if 0 < x then x else -x) :: st) h Q) : Gw l G (d + 1) M pc L (.long x :: st) h Q := by
  obtain ⟨r, h', kk, q⟩ := kk
  exact ⟨r, h', go_absl hc hl hst (Nat.le_refl _) (Nat.le_refl _) kk, q⟩
theorem e_objInit {b : Nat} (hc : lk M pc = some (.invokespecial i, npc, 3)) (hl : Cond.methodLink M.1.cls i objectInit ∈ gtbl) (hst : Nat.ble (st.map fun v => v.category).sum 8 = true) (kk : Gw l G (d + 1) M npc L st h Q) : Gw l G (d + 1) M pc L (.ref b :: st) h Q := by
  obtain ⟨r, h', kk, q⟩ := kk
  exact ⟨r, h', go_objInit hc hl hst kk, q⟩
theorem e_if_eq {x : Int32} {off : Int} {tgt : Nat} (hc : lk M pc = some (.ifCond .eq off, npc, 3)) (ht : (pc : Int) + off = (tgt : Int)) (kt : x = 0 → Gw l G d M tgt L st h Q) (kf : ¬ x = 0 → Gw l G d M npc L st h Q) : Gw l G d M pc L (.int x :: st) h Q := by
  by_cases z : x = 0
  · obtain ⟨r, h', kk, q⟩ := kt z
    exact ⟨r, h', go_if_eq hc ht (fun _ => kk) (fun y => absurd z y), q⟩
  · obtain ⟨r, h', kk, q⟩ := kf z
    exact ⟨r, h', go_if_eq hc ht (fun y => absurd y z) (fun _ => kk), q⟩
theorem e_if_ne {x : Int32} {off : Int} {tgt : Nat} (hc : lk M pc = some (.ifCond .ne off, npc, 3)) (ht : (pc : Int) + off = (tgt : Int)) (kt : ¬ x = 0 → Gw l G d M tgt L st h Q) (kf : x = 0 → Gw l G d M npc L st h Q) : Gw l G d M pc L (.int x :: st) h Q := by
  by_cases z : x = 0
  · obtain ⟨r, h', kk, q⟩ := kf z
    exact ⟨r, h', go_if_ne hc ht (fun y => absurd z y) (fun _ => kk), q⟩
  · obtain ⟨r, h', kk, q⟩ := kt z
    exact ⟨r, h', go_if_ne hc ht (fun _ => kk) (fun y => absurd y z), q⟩
theorem e_if_lt {x : Int32} {off : Int} {tgt : Nat} (hc : lk M pc = some (.ifCond .lt off, npc, 3)) (ht : (pc : Int) + off = (tgt : Int)) (kt : x < 0 → Gw l G d M tgt L st h Q) (kf : ¬ x < 0 → Gw l G d M npc L st h Q) : Gw l G d M pc L (.int x :: st) h Q := by
  by_cases z : x < 0
  · obtain ⟨r, h', kk, q⟩ := kt z
    exact ⟨r, h', go_if_lt hc ht (fun _ => kk) (fun y => absurd z y), q⟩
  · obtain ⟨r, h', kk, q⟩ := kf z
    exact ⟨r, h', go_if_lt hc ht (fun y => absurd y z) (fun _ => kk), q⟩
theorem e_if_ge {x : Int32} {off : Int} {tgt : Nat} (hc : lk M pc = some (.ifCond .ge off, npc, 3)) (ht : (pc : Int) + off = (tgt : Int)) (kt : 0 ≤ x → Gw l G d M tgt L st h Q) (kf : ¬ 0 ≤ x → Gw l G d M npc L st h Q) : Gw l G d M pc L (.int x :: st) h Q := by
  by_cases z : 0 ≤ x
  · obtain ⟨r, h', kk, q⟩ := kt z
    exact ⟨r, h', go_if_ge hc ht (fun _ => kk) (fun y => absurd z y), q⟩
  · obtain ⟨r, h', kk, q⟩ := kf z
    exact ⟨r, h', go_if_ge hc ht (fun y => absurd y z) (fun _ => kk), q⟩
theorem e_if_gt {x : Int32} {off : Int} {tgt : Nat} (hc : lk M pc = some (.ifCond .gt off, npc, 3)) (ht : (pc : Int) + off = (tgt : Int)) (kt : 0 < x → Gw l G d M tgt L st h Q) (kf : ¬ 0 < x → Gw l G d M npc L st h Q) : Gw l G d M pc L (.int x :: st) h Q := by
  by_cases z : 0 < x
  · obtain ⟨r, h', kk, q⟩ := kt z
    exact ⟨r, h', go_if_gt hc ht (fun _ => kk) (fun y => absurd z y), q⟩
  · obtain ⟨r, h', kk, q⟩ := kf z
    exact ⟨r, h', go_if_gt hc ht (fun y => absurd y z) (fun _ => kk), q⟩
theorem e_if_le {x : Int32} {off : Int} {tgt : Nat} (hc : lk M pc = some (.ifCond .le off, npc, 3)) (ht : (pc : Int) + off = (tgt : Int)) (kt : x ≤ 0 → Gw l G d M tgt L st h Q) (kf : ¬ x ≤ 0 → Gw l G d M npc L st h Q) : Gw l G d M pc L (.int x :: st) h Q := by
  by_cases z : x ≤ 0
  · obtain ⟨r, h', kk, q⟩ := kt z
    exact ⟨r, h', go_if_le hc ht (fun _ => kk) (fun y => absurd z y), q⟩
  · obtain ⟨r, h', kk, q⟩ := kf z
    exact ⟨r, h', go_if_le hc ht (fun y => absurd y z) (fun _ => kk), q⟩
theorem e_icmp_eq {x y : Int32} {off : Int} {tgt : Nat} (hc : lk M pc = some (.if_icmp .eq off, npc, 3)) (ht : (pc : Int) + off = (tgt : Int)) (kt : x = y → Gw l G d M tgt L st h Q) (kf : ¬ x = y → Gw l G d M npc L st h Q) : Gw l G d M pc L (.int y :: .int x :: st) h Q := by
  by_cases z : x = y
  · obtain ⟨r, h', kk, q⟩ := kt z
    exact ⟨r, h', go_icmp_eq hc ht (fun _ => kk) (fun y => absurd z y), q⟩
  · obtain ⟨r, h', kk, q⟩ := kf z
    exact ⟨r, h', go_icmp_eq hc ht (fun y => absurd y z) (fun _ => kk), q⟩
theorem e_icmp_ne {x y : Int32} {off : Int} {tgt : Nat} (hc : lk M pc = some (.if_icmp .ne off, npc, 3)) (ht : (pc : Int) + off = (tgt : Int)) (kt : ¬ x = y → Gw l G d M tgt L st h Q) (kf : x = y → Gw l G d M npc L st h Q) : Gw l G d M pc L (.int y :: .int x :: st) h Q := by
  by_cases z : x = y
  · obtain ⟨r, h', kk, q⟩ := kf z
    exact ⟨r, h', go_icmp_ne hc ht (fun y => absurd z y) (fun _ => kk), q⟩
  · obtain ⟨r, h', kk, q⟩ := kt z
    exact ⟨r, h', go_icmp_ne hc ht (fun _ => kk) (fun y => absurd y z), q⟩
theorem e_icmp_lt {x y : Int32} {off : Int} {tgt : Nat} (hc : lk M pc = some (.if_icmp .lt off, npc, 3)) (ht : (pc : Int) + off = (tgt : Int)) (kt : x < y → Gw l G d M tgt L st h Q) (kf : ¬ x < y → Gw l G d M npc L st h Q) : Gw l G d M pc L (.int y :: .int x :: st) h Q := by
  by_cases z : x < y
  · obtain ⟨r, h', kk, q⟩ := kt z
    exact ⟨r, h', go_icmp_lt hc ht (fun _ => kk) (fun y => absurd z y), q⟩
  · obtain ⟨r, h', kk, q⟩ := kf z
    exact ⟨r, h', go_icmp_lt hc ht (fun y => absurd y z) (fun _ => kk), q⟩
theorem e_icmp_ge {x y : Int32} {off : Int} {tgt : Nat} (hc : lk M pc = some (.if_icmp .ge off, npc, 3)) (ht : (pc : Int) + off = (tgt : Int)) (kt : y ≤ x → Gw l G d M tgt L st h Q) (kf : ¬ y ≤ x → Gw l G d M npc L st h Q) : Gw l G d M pc L (.int y :: .int x :: st) h Q := by
  by_cases z : y ≤ x
  · obtain ⟨r, h', kk, q⟩ := kt z
    exact ⟨r, h', go_icmp_ge hc ht (fun _ => kk) (fun y => absurd z y), q⟩
  · obtain ⟨r, h', kk, q⟩ := kf z
    exact ⟨r, h', go_icmp_ge hc ht (fun y => absurd y z) (fun _ => kk), q⟩
theorem e_icmp_gt {x y : Int32} {off : Int} {tgt : Nat} (hc : lk M pc = some (.if_icmp .gt off, npc, 3)) (ht : (pc : Int) + off = (tgt : Int)) (kt : y < x → Gw l G d M tgt L st h Q) (kf : ¬ y < x → Gw l G d M npc L st h Q) : Gw l G d M pc L (.int y :: .int x :: st) h Q := by
  by_cases z : y < x
  · obtain ⟨r, h', kk, q⟩ := kt z
    exact ⟨r, h', go_icmp_gt hc ht (fun _ => kk) (fun y => absurd z y), q⟩
  · obtain ⟨r, h', kk, q⟩ := kf z
    exact ⟨r, h', go_icmp_gt hc ht (fun y => absurd y z) (fun _ => kk), q⟩
theorem e_icmp_le {x y : Int32} {off : Int} {tgt : Nat} (hc : lk M pc = some (.if_icmp .le off, npc, 3)) (ht : (pc : Int) + off = (tgt : Int)) (kt : x ≤ y → Gw l G d M tgt L st h Q) (kf : ¬ x ≤ y → Gw l G d M npc L st h Q) : Gw l G d M pc L (.int y :: .int x :: st) h Q := by
  by_cases z : x ≤ y
  · obtain ⟨r, h', kk, q⟩ := kt z
    exact ⟨r, h', go_icmp_le hc ht (fun _ => kk) (fun y => absurd z y), q⟩
  · obtain ⟨r, h', kk, q⟩ := kf z
    exact ⟨r, h', go_icmp_le hc ht (fun y => absurd y z) (fun _ => kk), q⟩
theorem e_getI (hc : lk M pc = some (.getfield i, npc, 3)) (hf : Fl M.1.cls i kd k) (hs : (K.2.1 a).1 = kd) (ht : sty kd k = 0) (kk : Gw l G d M npc L (.int (I a k) :: st) (I, J, K) Q) : Gw l G d M pc L (.ref a :: st) (I, J, K) Q := by
  obtain ⟨r, h', kk, q⟩ := kk
  exact ⟨r, h', go_getI hc hf hs ht kk, q⟩
theorem e_getJ (hc : lk M pc = some (.getfield i, npc, 3)) (hf : Fl M.1.cls i kd k) (hs : (K.2.1 a).1 = kd) (ht : sty kd k = 1) (kk : Gw l G d M npc L (.long (J a k) :: st) (I, J, K) Q) : Gw l G d M pc L (.ref a :: st) (I, J, K) Q := by
  obtain ⟨r, h', kk, q⟩ := kk
  exact ⟨r, h', go_getJ hc hf hs ht kk, q⟩
theorem e_getP {b : Nat} (hc : lk M pc = some (.getfield i, npc, 3)) (hf : Fl M.1.cls i kd k) (hs : (K.2.1 a).1 = kd) (ht : sty kd k = 2) (hp : K.1 a k = some b) (kk : Gw l G d M npc L (.ref b :: st) (I, J, K) Q) : Gw l G d M pc L (.ref a :: st) (I, J, K) Q := by
  obtain ⟨r, h', kk, q⟩ := kk
  exact ⟨r, h', go_getP hc hf hs ht hp kk, q⟩
theorem e_putI {v : Int32} (hc : lk M pc = some (.putfield i, npc, 3)) (hf : Fl M.1.cls i kd k) (hs : (K.2.1 a).1 = kd) (hfin : (kT kd k).2.2.2 = false) (ht : kTy kd k = .int) (kk : Gw l G d M npc L st (u2 I a k v, J, K) Q) : Gw l G d M pc L (.int v :: .ref a :: st) (I, J, K) Q := by
  obtain ⟨r, h', kk, q⟩ := kk
  exact ⟨r, h', go_putI hc hf hs hfin ht kk, q⟩
theorem e_putZ {v : Int32} (hc : lk M pc = some (.putfield i, npc, 3)) (hf : Fl M.1.cls i kd k) (hs : (K.2.1 a).1 = kd) (hfin : (kT kd k).2.2.2 = false) (ht : kTy kd k = .boolean) (hv : v = 0 ∨ v = 1) (kk : Gw l G d M npc L st (u2 I a k v, J, K) Q) : Gw l G d M pc L (.int v :: .ref a :: st) (I, J, K) Q := by
  obtain ⟨r, h', kk, q⟩ := kk
  exact ⟨r, h', go_putZ hc hf hs hfin ht hv kk, q⟩
theorem e_putJ {v : Int64} (hc : lk M pc = some (.putfield i, npc, 3)) (hf : Fl M.1.cls i kd k) (hs : (K.2.1 a).1 = kd) (hfin : (kT kd k).2.2.2 = false) (ht : kTy kd k = .long) (kk : Gw l G d M npc L st (I, u2 J a k v, K) Q) : Gw l G d M pc L (.long v :: .ref a :: st) (I, J, K) Q := by
  obtain ⟨r, h', kk, q⟩ := kk
  exact ⟨r, h', go_putJ hc hf hs hfin ht kk, q⟩
theorem e_iaload {x : Int32} (hc : lk M pc = some (.iaload, npc, 1)) (hs : K.2.1 a = (20, n)) (hin : vp_in x n) (kk : Gw l G d M npc L (.int (I a x.toNatClampNeg) :: st) (I, J, K) Q) : Gw l G d M pc L (.int x :: .ref a :: st) (I, J, K) Q := by
  obtain ⟨r, h', kk, q⟩ := kk
  exact ⟨r, h', go_iaload hc hs hin kk, q⟩
theorem e_baload {x : Int32} (hc : lk M pc = some (.baload, npc, 1)) (hs : K.2.1 a = (21, n)) (hin : vp_in x n) (kk : Gw l G d M npc L (.int (I a x.toNatClampNeg) :: st) (I, J, K) Q) : Gw l G d M pc L (.int x :: .ref a :: st) (I, J, K) Q := by
  obtain ⟨r, h', kk, q⟩ := kk
  exact ⟨r, h', go_baload hc hs hin kk, q⟩
theorem e_zaload {x : Int32} (hc : lk M pc = some (.baload, npc, 1)) (hs : K.2.1 a = (22, n)) (hin : vp_in x n) (kk : Gw l G d M npc L (.int (I a x.toNatClampNeg) :: st) (I, J, K) Q) : Gw l G d M pc L (.int x :: .ref a :: st) (I, J, K) Q := by
  obtain ⟨r, h', kk, q⟩ := kk
  exact ⟨r, h', go_zaload hc hs hin kk, q⟩
theorem e_laload {x : Int32} (hc : lk M pc = some (.laload, npc, 1)) (hs : K.2.1 a = (23, n)) (hin : vp_in x n) (kk : Gw l G d M npc L (.long (J a x.toNatClampNeg) :: st) (I, J, K) Q) : Gw l G d M pc L (.int x :: .ref a :: st) (I, J, K) Q := by
  obtain ⟨r, h', kk, q⟩ := kk
  exact ⟨r, h', go_laload hc hs hin kk, q⟩
theorem e_aaload {x : Int32} {b : Nat} (hc : lk M pc = some (.aaload, npc, 1)) (hs : K.2.1 a = (24, n)) (hin : vp_in x n) (hp : K.1 a x.toNatClampNeg = some b) (kk : Gw l G d M npc L (.ref b :: st) (I, J, K) Q) : Gw l G d M pc L (.int x :: .ref a :: st) (I, J, K) Q := by
  obtain ⟨r, h', kk, q⟩ := kk
  exact ⟨r, h', go_aaload hc hs hin hp kk, q⟩
theorem e_alen {v : Int32} (hc : lk M pc = some (.arraylength, npc, 1)) (hs : K.2.1 a = (kd, n)) (h20 : Nat.ble 20 kd = true) (h25 : Nat.blt kd 25 = true) (hv : Int32.ofNat n = v) (kk : Gw l G d M npc L (.int v :: st) (I, J, K) Q) : Gw l G d M pc L (.ref a :: st) (I, J, K) Q := by
  obtain ⟨r, h', kk, q⟩ := kk
  exact ⟨r, h', go_alen hc hs (Nat.ble_eq.mp h20) (Nat.blt_eq.mp h25) hv kk, q⟩
theorem e_iastore {x y : Int32} (hc : lk M pc = some (.iastore, npc, 1)) (hs : K.2.1 a = (20, n)) (hin : vp_in x n) (kk : Gw l G d M npc L st (u2 I a x.toNatClampNeg y, J, K) Q) : Gw l G d M pc L (.int y :: .int x :: .ref a :: st) (I, J, K) Q := by
  obtain ⟨r, h', kk, q⟩ := kk
  exact ⟨r, h', go_iastore hc hs hin kk, q⟩
theorem e_lastore {x : Int32} {y : Int64} (hc : lk M pc = some (.lastore, npc, 1)) (hs : K.2.1 a = (23, n)) (hin : vp_in x n) (kk : Gw l G d M npc L st (I, u2 J a x.toNatClampNeg y, K) Q) : Gw l G d M pc L (.long y :: .int x :: .ref a :: st) (I, J, K) Q := by
  obtain ⟨r, h', kk, q⟩ := kk
  exact ⟨r, h', go_lastore hc hs hin kk, q⟩
theorem e_bastore {x y : Int32} (hc : lk M pc = some (.bastore, npc, 1)) (hs : K.2.1 a = (21, n)) (hin : vp_in x n) (kk : Gw l G d M npc L st (u2 I a x.toNatClampNeg (vp_nar .byte y), J, K) Q) : Gw l G d M pc L (.int y :: .int x :: .ref a :: st) (I, J, K) Q := by
  obtain ⟨r, h', kk, q⟩ := kk
  exact ⟨r, h', go_bastore hc hs hin kk, q⟩
theorem e_zastore {x y : Int32} (hc : lk M pc = some (.bastore, npc, 1)) (hs : K.2.1 a = (22, n)) (hin : vp_in x n) (kk : Gw l G d M npc L st (u2 I a x.toNatClampNeg (vp_nar .boolean y), J, K) Q) : Gw l G d M pc L (.int y :: .int x :: .ref a :: st) (I, J, K) Q := by
  obtain ⟨r, h', kk, q⟩ := kk
  exact ⟨r, h', go_zastore hc hs hin kk, q⟩
theorem e_copy {a0 n0 n1 : Nat} {sp dp n : Int32} (hc : lk M pc = some (.invokestatic i, npc, 3)) (hl : Cond.methodLink M.1.cls i arraycopyName ∈ gtbl) (hs0 : K.2.1 a0 = (20, n0)) (hs1 : K.2.1 a = (20, n1)) (h1 : ¬ sp < 0) (h2 : ¬ dp < 0) (h3 : ¬ n < 0) (h4 : sp.toNatClampNeg + n.toNatClampNeg ≤ n0) (h5 : dp.toNatClampNeg + n.toNatClampNeg ≤ n1) (hst : Nat.ble (st.map fun v => v.category).sum 8 = true) (kk : Gw l G (d + 1) M npc L st (uR I a (va_cpy (I a0) (I a) sp.toNatClampNeg dp.toNatClampNeg n.toNatClampNeg), J, K) Q) : Gw l G (d + 1) M pc L (.int n :: .int dp :: .ref a :: .int sp :: .ref a0 :: st) (I, J, K) Q := by
  obtain ⟨r, h', kk, q⟩ := kk
  exact ⟨r, h', go_copy hc hl hs0 hs1 h1 h2 h3 h4 h5 hst kk, q⟩
theorem e_ireturn {v : Int32} (hc : lk M pc = some (.ireturn, npc, 1)) (hr : M.2.2.2.1 = some .int) (q : Q (some (.int v)) h) : Gw l G d M pc L [.int v] h Q := ⟨_, _, go_ireturn hc hr rfl rfl, q⟩
theorem e_zreturn {v : Int32} (hc : lk M pc = some (.ireturn, npc, 1)) (hr : M.2.2.2.1 = some .boolean) (hv : v = 0 ∨ v = 1) (q : Q (some (.int v)) h) : Gw l G d M pc L [.int v] h Q := ⟨_, _, go_zreturn hc hr hv rfl rfl, q⟩
theorem e_lreturn {v : Int64} (hc : lk M pc = some (.lreturn, npc, 1)) (hr : M.2.2.2.1 = some .long) (q : Q (some (.long v)) h) : Gw l G d M pc L [.long v] h Q := ⟨_, _, go_lreturn hc hr rfl rfl, q⟩
theorem e_return  (hc : lk M pc = some (.return_, npc, 1)) (hr : M.2.2.2.1 = none) (q : Q (none) h) : Gw l G d M pc L [] h Q := ⟨_, _, go_return hc hr rfl rfl, q⟩
theorem e_areturn {b : Nat} {rt : FieldType} (hc : lk M pc = some (.areturn, npc, 1)) (hr : M.2.2.2.1 = some rt) (hrt : (∃ n, rt = .object n) ∨ ∃ t, rt = .array t) (q : Q (some (.ref b)) h) : Gw l G d M pc L [.ref b] h Q := ⟨_, _, go_areturn hc hr hrt rfl rfl, q⟩
theorem e_callV {M2 : MD} {as stk : List Value} {b : Nat} (hc : lk M pc = some (.invokevirtual i, npc, 3)) (hl : Lv M.1.cls i M2.1 n) (hM2 : MOk M2) (hct : Cw l G d M2 (.ref b :: as) h Q1) (hstk : stk = as.reverse ++ .ref b :: st) (hkd : (mS h b).1 = kd) (hs : kC kd = M2.1.cls) (hb : Nat.blt kd 11 = true) (hn : as.length = n) (hst : Nat.ble (st.map fun v => v.category).sum 8 = true) (kk : ∀ r1 h1, Q1 r1 h1 → Gw l G (d + 1) M npc L (r1.toList ++ st) h1 Q) : Gw l G (d + 1) M pc L stk h Q := by
  obtain ⟨r1, h1, hct, q1⟩ := hct
  obtain ⟨r, h', kk, q⟩ := kk r1 h1 q1
  exact ⟨r, h', go_callV hc hl hM2 hct hstk (by rw [hkd]; exact hs) (by rw [hkd]; exact hb) hn hst (Nat.le_refl _) (Nat.le_refl _) kk, q⟩
theorem e_callVp {M2 : MD} {as stk : List Value} {b : Nat} {v : Value} (hc : lk M pc = some (.invokevirtual i, npc, 3)) (hl : Lv M.1.cls i M2.1 n) (hM2 : MOk M2) (hct : Cp l G d M2 (.ref b :: as) h v) (hstk : stk = as.reverse ++ .ref b :: st) (hkd : (mS h b).1 = kd) (hs : kC kd = M2.1.cls) (hb : Nat.blt kd 11 = true) (hn : as.length = n) (hst : Nat.ble (st.map fun v => v.category).sum 8 = true) (kk : Gw l G (d + 1) M npc L (v :: st) h Q) : Gw l G (d + 1) M pc L stk h Q := by
  obtain ⟨r, h', kk, q⟩ := kk
  exact ⟨r, h', go_callV hc hl hM2 hct hstk (by rw [hkd]; exact hs) (by rw [hkd]; exact hb) hn hst (Nat.le_refl _) (Nat.le_refl _) kk, q⟩
theorem e_callS {M2 : MD} {as stk : List Value} (hc : lk M pc = some (.invokestatic i, npc, 3)) (hl : Ls M.1.cls i M2.1 n) (hM2 : MOk M2) (hct : Cw l G d M2 as h Q1) (hstk : stk = as.reverse ++ st) (hn : as.length = n) (hst : Nat.ble (st.map fun v => v.category).sum 8 = true) (kk : ∀ r1 h1, Q1 r1 h1 → Gw l G (d + 1) M npc L (r1.toList ++ st) h1 Q) : Gw l G (d + 1) M pc L stk h Q := by
  obtain ⟨r1, h1, hct, q1⟩ := hct
  obtain ⟨r, h', kk, q⟩ := kk r1 h1 q1
  exact ⟨r, h', go_callS hc hl hM2 hct hstk hn hst (Nat.le_refl _) (Nat.le_refl _) kk, q⟩
theorem e_callSp {M2 : MD} {as stk : List Value} {v : Value} (hc : lk M pc = some (.invokestatic i, npc, 3)) (hl : Ls M.1.cls i M2.1 n) (hM2 : MOk M2) (hct : Cp l G d M2 as h v) (hstk : stk = as.reverse ++ st) (hn : as.length = n) (hst : Nat.ble (st.map fun v => v.category).sum 8 = true) (kk : Gw l G (d + 1) M npc L (v :: st) h Q) : Gw l G (d + 1) M pc L stk h Q := by
  obtain ⟨r, h', kk, q⟩ := kk
  exact ⟨r, h', go_callS hc hl hM2 hct hstk hn hst (Nat.le_refl _) (Nat.le_refl _) kk, q⟩
theorem e_callSN {M2 : MD} {as stk : List Value} (hc : lk M pc = some (.invokestatic i, npc, 3)) (hl : LsN M.1.cls i M2.1 n) (hM2 : MOk M2) (hct : Cw l G d M2 as h Q1) (hstk : stk = as.reverse ++ st) (hn : as.length = n) (hst : Nat.ble (st.map fun v => v.category).sum 8 = true) (kk : ∀ r1 h1, Q1 r1 h1 → Gw l G (d + 1) M npc L (r1.toList ++ st) h1 Q) : Gw l G (d + 1) M pc L stk h Q := by
  obtain ⟨r1, h1, hct, q1⟩ := hct
  obtain ⟨r, h', kk, q⟩ := kk r1 h1 q1
  exact ⟨r, h', go_callSN hc hl hM2 hct hstk hn hst (Nat.le_refl _) (Nat.le_refl _) kk, q⟩
theorem e_callSNp {M2 : MD} {as stk : List Value} {v : Value} (hc : lk M pc = some (.invokestatic i, npc, 3)) (hl : LsN M.1.cls i M2.1 n) (hM2 : MOk M2) (hct : Cp l G d M2 as h v) (hstk : stk = as.reverse ++ st) (hn : as.length = n) (hst : Nat.ble (st.map fun v => v.category).sum 8 = true) (kk : Gw l G (d + 1) M npc L (v :: st) h Q) : Gw l G (d + 1) M pc L stk h Q := by
  obtain ⟨r, h', kk, q⟩ := kk
  exact ⟨r, h', go_callSN hc hl hM2 hct hstk hn hst (Nat.le_refl _) (Nat.le_refl _) kk, q⟩
end RowsW
theorem bp_m21 : (Int8.ofInt (-21)).toInt32 = (-21) := by decide
theorem bp_m20 : (Int8.ofInt (-20)).toInt32 = (-20) := by decide
theorem bp_m19 : (Int8.ofInt (-19)).toInt32 = (-19) := by decide
theorem bp_m2 : (Int8.ofInt (-2)).toInt32 = (-2) := by decide
theorem bp_6 : (Int8.ofInt 6).toInt32 = 6 := by decide
theorem bp_7 : (Int8.ofInt 7).toInt32 = 7 := by decide
theorem bp_8 : (Int8.ofInt 8).toInt32 = 8 := by decide
theorem bp_9 : (Int8.ofInt 9).toInt32 = 9 := by decide
theorem bp_10 : (Int8.ofInt 10).toInt32 = 10 := by decide
theorem bp_11 : (Int8.ofInt 11).toInt32 = 11 := by decide
theorem bp_12 : (Int8.ofInt 12).toInt32 = 12 := by decide
theorem bp_13 : (Int8.ofInt 13).toInt32 = 13 := by decide
theorem bp_14 : (Int8.ofInt 14).toInt32 = 14 := by decide
theorem bp_15 : (Int8.ofInt 15).toInt32 = 15 := by decide
theorem bp_16 : (Int8.ofInt 16).toInt32 = 16 := by decide
theorem bp_17 : (Int8.ofInt 17).toInt32 = 17 := by decide
theorem bp_18 : (Int8.ofInt 18).toInt32 = 18 := by decide
theorem bp_19 : (Int8.ofInt 19).toInt32 = 19 := by decide
theorem bp_20 : (Int8.ofInt 20).toInt32 = 20 := by decide
theorem bp_21 : (Int8.ofInt 21).toInt32 = 21 := by decide
theorem bp_22 : (Int8.ofInt 22).toInt32 = 22 := by decide
theorem bp_23 : (Int8.ofInt 23).toInt32 = 23 := by decide
theorem bp_24 : (Int8.ofInt 24).toInt32 = 24 := by decide
theorem bp_25 : (Int8.ofInt 25).toInt32 = 25 := by decide
theorem bp_30 : (Int8.ofInt 30).toInt32 = 30 := by decide
theorem bp_32 : (Int8.ofInt 32).toInt32 = 32 := by decide
theorem bp_40 : (Int8.ofInt 40).toInt32 = 40 := by decide
theorem bp_41 : (Int8.ofInt 41).toInt32 = 41 := by decide
theorem bp_42 : (Int8.ofInt 42).toInt32 = 42 := by decide
theorem bp_43 : (Int8.ofInt 43).toInt32 = 43 := by decide
theorem bp_45 : (Int8.ofInt 45).toInt32 = 45 := by decide
theorem bp_47 : (Int8.ofInt 47).toInt32 = 47 := by decide
theorem bp_48 : (Int8.ofInt 48).toInt32 = 48 := by decide
theorem bp_50 : (Int8.ofInt 50).toInt32 = 50 := by decide
theorem bp_57 : (Int8.ofInt 57).toInt32 = 57 := by decide
theorem bp_59 : (Int8.ofInt 59).toInt32 = 59 := by decide
theorem bp_60 : (Int8.ofInt 60).toInt32 = 60 := by decide
theorem bp_61 : (Int8.ofInt 61).toInt32 = 61 := by decide
theorem bp_62 : (Int8.ofInt 62).toInt32 = 62 := by decide
theorem bp_63 : (Int8.ofInt 63).toInt32 = 63 := by decide
theorem bp_64 : (Int8.ofInt 64).toInt32 = 64 := by decide
theorem bp_97 : (Int8.ofInt 97).toInt32 = 97 := by decide
theorem bp_99 : (Int8.ofInt 99).toInt32 = 99 := by decide
theorem bp_100 : (Int8.ofInt 100).toInt32 = 100 := by decide
theorem bp_122 : (Int8.ofInt 122).toInt32 = 122 := by decide
theorem ic_m1 : Int32.ofInt (-1) = (-1) := by decide
theorem ic_0 : Int32.ofInt 0 = 0 := by decide
theorem ic_1 : Int32.ofInt 1 = 1 := by decide
theorem ic_2 : Int32.ofInt 2 = 2 := by decide
theorem ic_3 : Int32.ofInt 3 = 3 := by decide
theorem ic_4 : Int32.ofInt 4 = 4 := by decide
theorem ic_5 : Int32.ofInt 5 = 5 := by decide
theorem sp_128 : (Int16.ofInt 128).toInt32 = 128 := by decide
theorem sp_184 : (Int16.ofInt 184).toInt32 = 184 := by decide
theorem sp_255 : (Int16.ofInt 255).toInt32 = 255 := by decide
theorem sp_256 : (Int16.ofInt 256).toInt32 = 256 := by decide
theorem sp_257 : (Int16.ofInt 257).toInt32 = 257 := by decide
theorem sp_258 : (Int16.ofInt 258).toInt32 = 258 := by decide
theorem sp_260 : (Int16.ofInt 260).toInt32 = 260 := by decide
theorem sp_261 : (Int16.ofInt 261).toInt32 = 261 := by decide
theorem sp_262 : (Int16.ofInt 262).toInt32 = 262 := by decide
theorem sp_680 : (Int16.ofInt 680).toInt32 = 680 := by decide
theorem sp_700 : (Int16.ofInt 700).toInt32 = 700 := by decide
theorem sp_999 : (Int16.ofInt 999).toInt32 = 999 := by decide
theorem sp_1023 : (Int16.ofInt 1023).toInt32 = 1023 := by decide
theorem sp_9900 : (Int16.ofInt 9900).toInt32 = 9900 := by decide
theorem sp_9999 : (Int16.ofInt 9999).toInt32 = 9999 := by decide
theorem sp_12345 : (Int16.ofInt 12345).toInt32 = 12345 := by decide
end
section
section RowsX
variable {l : Launch} {G : GG} {d pc npc : Nat} {M : MD} {L st : List Value} {h : Hp} {I : IM} {J : JM} {K : Kt} {Q : Option Value → Hp → Prop} {a k kd n i : Nat}
theorem e_ist0 {y : Value} {t : List Value} {x : Int32} (hc : lk M pc = some (.istore_n 0, npc, 1)) (hi : Nat.blt 0 M.2.2.1 = true) (kk : Gw l G d M npc (.int x :: t) st h Q) : Gw l G d M pc (y :: t) (.int x :: st) h Q := e_istore_n (i := 0) hc hi (by simp [okL]) rfl kk
theorem e_ast0 {y : Value} {t : List Value} {x : Nat} (hc : lk M pc = some (.astore_n 0, npc, 1)) (hi : Nat.blt 0 M.2.2.1 = true) (kk : Gw l G d M npc (.ref x :: t) st h Q) : Gw l G d M pc (y :: t) (.ref x :: st) h Q := e_astore_n (i := 0) hc hi (by simp [okL]) rfl kk
theorem e_lst0 {y z : Value} {t : List Value} {x : Int64} (hc : lk M pc = some (.lstore_n 0, npc, 1)) (hi : Nat.blt (0 + 1) M.2.2.1 = true) (kk : Gw l G d M npc (.long x :: .null :: t) st h Q) : Gw l G d M pc (y :: z :: t) (.long x :: st) h Q := e_lstore_n (i := 0) hc hi (by simp [okL]) rfl kk
theorem e_inc0 {t : List Value} {x v : Int32} {n : Int} (hc : lk M pc = some (.iinc 0 n, npc, 3)) (hi : Nat.blt 0 M.2.2.1 = true) (hv : x + Int32.ofInt n = v) (kk : Gw l G d M npc (.int v :: t) st h Q) : Gw l G d M pc (.int x :: t) st h Q := e_iinc hc rfl hi (by simp [okL]) (by rw [hv]; rfl) kk
theorem e_ist1 {a0 : Value} {y : Value} {t : List Value} {x : Int32} (hc : lk M pc = some (.istore_n 1, npc, 1)) (hi : Nat.blt 1 M.2.2.1 = true) (ho : a0.category = 1) (kk : Gw l G d M npc (a0 :: .int x :: t) st h Q) : Gw l G d M pc (a0 :: y :: t) (.int x :: st) h Q := e_istore_n (i := 1) hc hi (by simp [okL, ho]) rfl kk
theorem e_ast1 {a0 : Value} {y : Value} {t : List Value} {x : Nat} (hc : lk M pc = some (.astore_n 1, npc, 1)) (hi : Nat.blt 1 M.2.2.1 = true) (ho : a0.category = 1) (kk : Gw l G d M npc (a0 :: .ref x :: t) st h Q) : Gw l G d M pc (a0 :: y :: t) (.ref x :: st) h Q := e_astore_n (i := 1) hc hi (by simp [okL, ho]) rfl kk
theorem e_lst1 {a0 : Value} {y z : Value} {t : List Value} {x : Int64} (hc : lk M pc = some (.lstore_n 1, npc, 1)) (hi : Nat.blt (1 + 1) M.2.2.1 = true) (ho : a0.category = 1) (kk : Gw l G d M npc (a0 :: .long x :: .null :: t) st h Q) : Gw l G d M pc (a0 :: y :: z :: t) (.long x :: st) h Q := e_lstore_n (i := 1) hc hi (by simp [okL, ho]) rfl kk
theorem e_inc1 {a0 : Value} {t : List Value} {x v : Int32} {n : Int} (hc : lk M pc = some (.iinc 1 n, npc, 3)) (hi : Nat.blt 1 M.2.2.1 = true) (ho : a0.category = 1) (hv : x + Int32.ofInt n = v) (kk : Gw l G d M npc (a0 :: .int v :: t) st h Q) : Gw l G d M pc (a0 :: .int x :: t) st h Q := e_iinc hc rfl hi (by simp [okL, ho]) (by rw [hv]; rfl) kk
theorem e_ist2 {a0 a1 : Value} {y : Value} {t : List Value} {x : Int32} (hc : lk M pc = some (.istore_n 2, npc, 1)) (hi : Nat.blt 2 M.2.2.1 = true) (ho : a1.category = 1) (kk : Gw l G d M npc (a0 :: a1 :: .int x :: t) st h Q) : Gw l G d M pc (a0 :: a1 :: y :: t) (.int x :: st) h Q := e_istore_n (i := 2) hc hi (by simp [okL, ho]) rfl kk
theorem e_ast2 {a0 a1 : Value} {y : Value} {t : List Value} {x : Nat} (hc : lk M pc = some (.astore_n 2, npc, 1)) (hi : Nat.blt 2 M.2.2.1 = true) (ho : a1.category = 1) (kk : Gw l G d M npc (a0 :: a1 :: .ref x :: t) st h Q) : Gw l G d M pc (a0 :: a1 :: y :: t) (.ref x :: st) h Q := e_astore_n (i := 2) hc hi (by simp [okL, ho]) rfl kk
theorem e_lst2 {a0 a1 : Value} {y z : Value} {t : List Value} {x : Int64} (hc : lk M pc = some (.lstore_n 2, npc, 1)) (hi : Nat.blt (2 + 1) M.2.2.1 = true) (ho : a1.category = 1) (kk : Gw l G d M npc (a0 :: a1 :: .long x :: .null :: t) st h Q) : Gw l G d M pc (a0 :: a1 :: y :: z :: t) (.long x :: st) h Q := e_lstore_n (i := 2) hc hi (by simp [okL, ho]) rfl kk
theorem e_inc2 {a0 a1 : Value} {t : List Value} {x v : Int32} {n : Int} (hc : lk M pc = some (.iinc 2 n, npc, 3)) (hi : Nat.blt 2 M.2.2.1 = true) (ho : a1.category = 1) (hv : x + Int32.ofInt n = v) (kk : Gw l G d M npc (a0 :: a1 :: .int v :: t) st h Q) : Gw l G d M pc (a0 :: a1 :: .int x :: t) st h Q := e_iinc hc rfl hi (by simp [okL, ho]) (by rw [hv]; rfl) kk
theorem e_ist3 {a0 a1 a2 : Value} {y : Value} {t : List Value} {x : Int32} (hc : lk M pc = some (.istore_n 3, npc, 1)) (hi : Nat.blt 3 M.2.2.1 = true) (ho : a2.category = 1) (kk : Gw l G d M npc (a0 :: a1 :: a2 :: .int x :: t) st h Q) : Gw l G d M pc (a0 :: a1 :: a2 :: y :: t) (.int x :: st) h Q := e_istore_n (i := 3) hc hi (by simp [okL, ho]) rfl kk
theorem e_ast3 {a0 a1 a2 : Value} {y : Value} {t : List Value} {x : Nat} (hc : lk M pc = some (.astore_n 3, npc, 1)) (hi : Nat.blt 3 M.2.2.1 = true) (ho : a2.category = 1) (kk : Gw l G d M npc (a0 :: a1 :: a2 :: .ref x :: t) st h Q) : Gw l G d M pc (a0 :: a1 :: a2 :: y :: t) (.ref x :: st) h Q := e_astore_n (i := 3) hc hi (by simp [okL, ho]) rfl kk
theorem e_lst3 {a0 a1 a2 : Value} {y z : Value} {t : List Value} {x : Int64} (hc : lk M pc = some (.lstore_n 3, npc, 1)) (hi : Nat.blt (3 + 1) M.2.2.1 = true) (ho : a2.category = 1) (kk : Gw l G d M npc (a0 :: a1 :: a2 :: .long x :: .null :: t) st h Q) : Gw l G d M pc (a0 :: a1 :: a2 :: y :: z :: t) (.long x :: st) h Q := e_lstore_n (i := 3) hc hi (by simp [okL, ho]) rfl kk
theorem e_inc3 {a0 a1 a2 : Value} {t : List Value} {x v : Int32} {n : Int} (hc : lk M pc = some (.iinc 3 n, npc, 3)) (hi : Nat.blt 3 M.2.2.1 = true) (ho : a2.category = 1) (hv : x + Int32.ofInt n = v) (kk : Gw l G d M npc (a0 :: a1 :: a2 :: .int v :: t) st h Q) : Gw l G d M pc (a0 :: a1 :: a2 :: .int x :: t) st h Q := e_iinc hc rfl hi (by simp [okL, ho]) (by rw [hv]; rfl) kk
theorem e_ist4 {a0 a1 a2 a3 : Value} {y : Value} {t : List Value} {x : Int32} (hc : lk M pc = some (.istore 4, npc, 2)) (hi : Nat.blt 4 M.2.2.1 = true) (ho : a3.category = 1) (kk : Gw l G d M npc (a0 :: a1 :: a2 :: a3 :: .int x :: t) st h Q) : Gw l G d M pc (a0 :: a1 :: a2 :: a3 :: y :: t) (.int x :: st) h Q := e_istore hc hi (by simp [okL, ho]) rfl kk
theorem e_ast4 {a0 a1 a2 a3 : Value} {y : Value} {t : List Value} {x : Nat} (hc : lk M pc = some (.astore 4, npc, 2)) (hi : Nat.blt 4 M.2.2.1 = true) (ho : a3.category = 1) (kk : Gw l G d M npc (a0 :: a1 :: a2 :: a3 :: .ref x :: t) st h Q) : Gw l G d M pc (a0 :: a1 :: a2 :: a3 :: y :: t) (.ref x :: st) h Q := e_astore hc hi (by simp [okL, ho]) rfl kk
theorem e_lst4 {a0 a1 a2 a3 : Value} {y z : Value} {t : List Value} {x : Int64} (hc : lk M pc = some (.lstore 4, npc, 2)) (hi : Nat.blt (4 + 1) M.2.2.1 = true) (ho : a3.category = 1) (kk : Gw l G d M npc (a0 :: a1 :: a2 :: a3 :: .long x :: .null :: t) st h Q) : Gw l G d M pc (a0 :: a1 :: a2 :: a3 :: y :: z :: t) (.long x :: st) h Q := e_lstore hc hi (by simp [okL, ho]) rfl kk
theorem e_inc4 {a0 a1 a2 a3 : Value} {t : List Value} {x v : Int32} {n : Int} (hc : lk M pc = some (.iinc 4 n, npc, 3)) (hi : Nat.blt 4 M.2.2.1 = true) (ho : a3.category = 1) (hv : x + Int32.ofInt n = v) (kk : Gw l G d M npc (a0 :: a1 :: a2 :: a3 :: .int v :: t) st h Q) : Gw l G d M pc (a0 :: a1 :: a2 :: a3 :: .int x :: t) st h Q := e_iinc hc rfl hi (by simp [okL, ho]) (by rw [hv]; rfl) kk
theorem e_ist5 {a0 a1 a2 a3 a4 : Value} {y : Value} {t : List Value} {x : Int32} (hc : lk M pc = some (.istore 5, npc, 2)) (hi : Nat.blt 5 M.2.2.1 = true) (ho : a4.category = 1) (kk : Gw l G d M npc (a0 :: a1 :: a2 :: a3 :: a4 :: .int x :: t) st h Q) : Gw l G d M pc (a0 :: a1 :: a2 :: a3 :: a4 :: y :: t) (.int x :: st) h Q := e_istore hc hi (by simp [okL, ho]) rfl kk
theorem e_ast5 {a0 a1 a2 a3 a4 : Value} {y : Value} {t : List Value} {x : Nat} (hc : lk M pc = some (.astore 5, npc, 2)) (hi : Nat.blt 5 M.2.2.1 = true) (ho : a4.category = 1) (kk : Gw l G d M npc (a0 :: a1 :: a2 :: a3 :: a4 :: .ref x :: t) st h Q) : Gw l G d M pc (a0 :: a1 :: a2 :: a3 :: a4 :: y :: t) (.ref x :: st) h Q := e_astore hc hi (by simp [okL, ho]) rfl kk
theorem e_lst5 {a0 a1 a2 a3 a4 : Value} {y z : Value} {t : List Value} {x : Int64} (hc : lk M pc = some (.lstore 5, npc, 2)) (hi : Nat.blt (5 + 1) M.2.2.1 = true) (ho : a4.category = 1) (kk : Gw l G d M npc (a0 :: a1 :: a2 :: a3 :: a4 :: .long x :: .null :: t) st h Q) : Gw l G d M pc (a0 :: a1 :: a2 :: a3 :: a4 :: y :: z :: t) (.long x :: st) h Q := e_lstore hc hi (by simp [okL, ho]) rfl kk
theorem e_inc5 {a0 a1 a2 a3 a4 : Value} {t : List Value} {x v : Int32} {n : Int} (hc : lk M pc = some (.iinc 5 n, npc, 3)) (hi : Nat.blt 5 M.2.2.1 = true) (ho : a4.category = 1) (hv : x + Int32.ofInt n = v) (kk : Gw l G d M npc (a0 :: a1 :: a2 :: a3 :: a4 :: .int v :: t) st h Q) : Gw l G d M pc (a0 :: a1 :: a2 :: a3 :: a4 :: .int x :: t) st h Q := e_iinc hc rfl hi (by simp [okL, ho]) (by rw [hv]; rfl) kk
theorem e_ist6 {a0 a1 a2 a3 a4 a5 : Value} {y : Value} {t : List Value} {x : Int32} (hc : lk M pc = some (.istore 6, npc, 2)) (hi : Nat.blt 6 M.2.2.1 = true) (ho : a5.category = 1) (kk : Gw l G d M npc (a0 :: a1 :: a2 :: a3 :: a4 :: a5 :: .int x :: t) st h Q) : Gw l G d M pc (a0 :: a1 :: a2 :: a3 :: a4 :: a5 :: y :: t) (.int x :: st) h Q := e_istore hc hi (by simp [okL, ho]) rfl kk
theorem e_ast6 {a0 a1 a2 a3 a4 a5 : Value} {y : Value} {t : List Value} {x : Nat} (hc : lk M pc = some (.astore 6, npc, 2)) (hi : Nat.blt 6 M.2.2.1 = true) (ho : a5.category = 1) (kk : Gw l G d M npc (a0 :: a1 :: a2 :: a3 :: a4 :: a5 :: .ref x :: t) st h Q) : Gw l G d M pc (a0 :: a1 :: a2 :: a3 :: a4 :: a5 :: y :: t) (.ref x :: st) h Q := e_astore hc hi (by simp [okL, ho]) rfl kk
theorem e_lst6 {a0 a1 a2 a3 a4 a5 : Value} {y z : Value} {t : List Value} {x : Int64} (hc : lk M pc = some (.lstore 6, npc, 2)) (hi : Nat.blt (6 + 1) M.2.2.1 = true) (ho : a5.category = 1) (kk : Gw l G d M npc (a0 :: a1 :: a2 :: a3 :: a4 :: a5 :: .long x :: .null :: t) st h Q) : Gw l G d M pc (a0 :: a1 :: a2 :: a3 :: a4 :: a5 :: y :: z :: t) (.long x :: st) h Q := e_lstore hc hi (by simp [okL, ho]) rfl kk
theorem e_inc6 {a0 a1 a2 a3 a4 a5 : Value} {t : List Value} {x v : Int32} {n : Int} (hc : lk M pc = some (.iinc 6 n, npc, 3)) (hi : Nat.blt 6 M.2.2.1 = true) (ho : a5.category = 1) (hv : x + Int32.ofInt n = v) (kk : Gw l G d M npc (a0 :: a1 :: a2 :: a3 :: a4 :: a5 :: .int v :: t) st h Q) : Gw l G d M pc (a0 :: a1 :: a2 :: a3 :: a4 :: a5 :: .int x :: t) st h Q := e_iinc hc rfl hi (by simp [okL, ho]) (by rw [hv]; rfl) kk
theorem e_ist7 {a0 a1 a2 a3 a4 a5 a6 : Value} {y : Value} {t : List Value} {x : Int32} (hc : lk M pc = some (.istore 7, npc, 2)) (hi : Nat.blt 7 M.2.2.1 = true) (ho : a6.category = 1) (kk : Gw l G d M npc (a0 :: a1 :: a2 :: a3 :: a4 :: a5 :: a6 :: .int x :: t) st h Q) : Gw l G d M pc (a0 :: a1 :: a2 :: a3 :: a4 :: a5 :: a6 :: y :: t) (.int x :: st) h Q := e_istore hc hi (by simp [okL, ho]) rfl kk
theorem e_ast7 {a0 a1 a2 a3 a4 a5 a6 : Value} {y : Value} {t : List Value} {x : Nat} (hc : lk M pc = some (.astore 7, npc, 2)) (hi : Nat.blt 7 M.2.2.1 = true) (ho : a6.category = 1) (kk : Gw l G d M npc (a0 :: a1 :: a2 :: a3 :: a4 :: a5 :: a6 :: .ref x :: t) st h Q) : Gw l G d M pc (a0 :: a1 :: a2 :: a3 :: a4 :: a5 :: a6 :: y :: t) (.ref x :: st) h Q := e_astore hc hi (by simp [okL, ho]) rfl kk
theorem e_lst7 {a0 a1 a2 a3 a4 a5 a6 : Value} {y z : Value} {t : List Value} {x : Int64} (hc : lk M pc = some (.lstore 7, npc, 2)) (hi : Nat.blt (7 + 1) M.2.2.1 = true) (ho : a6.category = 1) (kk : Gw l G d M npc (a0 :: a1 :: a2 :: a3 :: a4 :: a5 :: a6 :: .long x :: .null :: t) st h Q) : Gw l G d M pc (a0 :: a1 :: a2 :: a3 :: a4 :: a5 :: a6 :: y :: z :: t) (.long x :: st) h Q := e_lstore hc hi (by simp [okL, ho]) rfl kk
theorem e_inc7 {a0 a1 a2 a3 a4 a5 a6 : Value} {t : List Value} {x v : Int32} {n : Int} (hc : lk M pc = some (.iinc 7 n, npc, 3)) (hi : Nat.blt 7 M.2.2.1 = true) (ho : a6.category = 1) (hv : x + Int32.ofInt n = v) (kk : Gw l G d M npc (a0 :: a1 :: a2 :: a3 :: a4 :: a5 :: a6 :: .int v :: t) st h Q) : Gw l G d M pc (a0 :: a1 :: a2 :: a3 :: a4 :: a5 :: a6 :: .int x :: t) st h Q := e_iinc hc rfl hi (by simp [okL, ho]) (by rw [hv]; rfl) kk
theorem e_ist8 {a0 a1 a2 a3 a4 a5 a6 a7 : Value} {y : Value} {t : List Value} {x : Int32} (hc : lk M pc = some (.istore 8, npc, 2)) (hi : Nat.blt 8 M.2.2.1 = true) (ho : a7.category = 1) (kk : Gw l G d M npc (a0 :: a1 :: a2 :: a3 :: a4 :: a5 :: a6 :: a7 :: .int x :: t) st h Q) : Gw l G d M pc (a0 :: a1 :: a2 :: a3 :: a4 :: a5 :: a6 :: a7 :: y :: t) (.int x :: st) h Q := e_istore hc hi (by simp [okL, ho]) rfl kk
theorem e_ast8 {a0 a1 a2 a3 a4 a5 a6 a7 : Value} {y : Value} {t : List Value} {x : Nat} (hc : lk M pc = some (.astore 8, npc, 2)) (hi : Nat.blt 8 M.2.2.1 = true) (ho : a7.category = 1) (kk : Gw l G d M npc (a0 :: a1 :: a2 :: a3 :: a4 :: a5 :: a6 :: a7 :: .ref x :: t) st h Q) : Gw l G d M pc (a0 :: a1 :: a2 :: a3 :: a4 :: a5 :: a6 :: a7 :: y :: t) (.ref x :: st) h Q := e_astore hc hi (by simp [okL, ho]) rfl kk
theorem e_lst8 {a0 a1 a2 a3 a4 a5 a6 a7 : Value} {y z : Value} {t : List Value} {x : Int64} (hc : lk M pc = some (.lstore 8, npc, 2)) (hi : Nat.blt (8 + 1) M.2.2.1 = true) (ho : a7.category = 1) (kk : Gw l G d M npc (a0 :: a1 :: a2 :: a3 :: a4 :: a5 :: a6 :: a7 :: .long x :: .null :: t) st h Q) : Gw l G d M pc (a0 :: a1 :: a2 :: a3 :: a4 :: a5 :: a6 :: a7 :: y :: z :: t) (.long x :: st) h Q := e_lstore hc hi (by simp [okL, ho]) rfl kk
theorem e_inc8 {a0 a1 a2 a3 a4 a5 a6 a7 : Value} {t : List Value} {x v : Int32} {n : Int} (hc : lk M pc = some (.iinc 8 n, npc, 3)) (hi : Nat.blt 8 M.2.2.1 = true) (ho : a7.category = 1) (hv : x + Int32.ofInt n = v) (kk : Gw l G d M npc (a0 :: a1 :: a2 :: a3 :: a4 :: a5 :: a6 :: a7 :: .int v :: t) st h Q) : Gw l G d M pc (a0 :: a1 :: a2 :: a3 :: a4 :: a5 :: a6 :: a7 :: .int x :: t) st h Q := e_iinc hc rfl hi (by simp [okL, ho]) (by rw [hv]; rfl) kk
theorem e_ist9 {a0 a1 a2 a3 a4 a5 a6 a7 a8 : Value} {y : Value} {t : List Value} {x : Int32} (hc : lk M pc = some (.istore 9, npc, 2)) (hi : Nat.blt 9 M.2.2.1 = true) (ho : a8.category = 1) (kk : Gw l G d M npc (a0 :: a1 :: a2 :: a3 :: a4 :: a5 :: a6 :: a7 :: a8 :: .int x :: t) st h Q) : Gw l G d M pc (a0 :: a1 :: a2 :: a3 :: a4 :: a5 :: a6 :: a7 :: a8 :: y :: t) (.int x :: st) h Q := e_istore hc hi (by simp [okL, ho]) rfl kk
theorem e_ast9 {a0 a1 a2 a3 a4 a5 a6 a7 a8 : Value} {y : Value} {t : List Value} {x : Nat} (hc : lk M pc = some (.astore 9, npc, 2)) (hi : Nat.blt 9 M.2.2.1 = true) (ho : a8.category = 1) (kk : Gw l G d M npc (a0 :: a1 :: a2 :: a3 :: a4 :: a5 :: a6 :: a7 :: a8 :: .ref x :: t) st h Q) : Gw l G d M pc (a0 :: a1 :: a2 :: a3 :: a4 :: a5 :: a6 :: a7 :: a8 :: y :: t) (.ref x :: st) h Q := e_astore hc hi (by simp [okL, ho]) rfl kk
theorem e_lst9 {a0 a1 a2 a3 a4 a5 a6 a7 a8 : Value} {y z : Value} {t : List Value} {x : Int64} (hc : lk M pc = some (.lstore 9, npc, 2)) (hi : Nat.blt (9 + 1) M.2.2.1 = true) (ho : a8.category = 1) (kk : Gw l G d M npc (a0 :: a1 :: a2 :: a3 :: a4 :: a5 :: a6 :: a7 :: a8 :: .long x :: .null :: t) st h Q) : Gw l G d M pc (a0 :: a1 :: a2 :: a3 :: a4 :: a5 :: a6 :: a7 :: a8 :: y :: z :: t) (.long x :: st) h Q := e_lstore hc hi (by simp [okL, ho]) rfl kk
theorem e_inc9 {a0 a1 a2 a3 a4 a5 a6 a7 a8 : Value} {t : List Value} {x v : Int32} {n : Int} (hc : lk M pc = some (.iinc 9 n, npc, 3)) (hi : Nat.blt 9 M.2.2.1 = true) (ho : a8.category = 1) (hv : x + Int32.ofInt n = v) (kk : Gw l G d M npc (a0 :: a1 :: a2 :: a3 :: a4 :: a5 :: a6 :: a7 :: a8 :: .int v :: t) st h Q) : Gw l G d M pc (a0 :: a1 :: a2 :: a3 :: a4 :: a5 :: a6 :: a7 :: a8 :: .int x :: t) st h Q := e_iinc hc rfl hi (by simp [okL, ho]) (by rw [hv]; rfl) kk
theorem e_ist10 {a0 a1 a2 a3 a4 a5 a6 a7 a8 a9 : Value} {y : Value} {t : List Value} {x : Int32} (hc : lk M pc = some (.istore 10, npc, 2)) (hi : Nat.blt 10 M.2.2.1 = true) (ho : a9.category = 1) (kk : Gw l G d M npc (a0 :: a1 :: a2 :: a3 :: a4 :: a5 :: a6 :: a7 :: a8 :: a9 :: .int x :: t) st h Q) : Gw l G d M pc (a0 :: a1 :: a2 :: a3 :: a4 :: a5 :: a6 :: a7 :: a8 :: a9 :: y :: t) (.int x :: st) h Q := e_istore hc hi (by simp [okL, ho]) rfl kk
theorem e_ast10 {a0 a1 a2 a3 a4 a5 a6 a7 a8 a9 : Value} {y : Value} {t : List Value} {x : Nat} (hc : lk M pc = some (.astore 10, npc, 2)) (hi : Nat.blt 10 M.2.2.1 = true) (ho : a9.category = 1) (kk : Gw l G d M npc (a0 :: a1 :: a2 :: a3 :: a4 :: a5 :: a6 :: a7 :: a8 :: a9 :: .ref x :: t) st h Q) : Gw l G d M pc (a0 :: a1 :: a2 :: a3 :: a4 :: a5 :: a6 :: a7 :: a8 :: a9 :: y :: t) (.ref x :: st) h Q := e_astore hc hi (by simp [okL, ho]) rfl kk
theorem e_lst10 {a0 a1 a2 a3 a4 a5 a6 a7 a8 a9 : Value} {y z : Value} {t : List Value} {x : Int64} (hc : lk M pc = some (.lstore 10, npc, 2)) (hi : Nat.blt (10 + 1) M.2.2.1 = true) (ho : a9.category = 1) (kk : Gw l G d M npc (a0 :: a1 :: a2 :: a3 :: a4 :: a5 :: a6 :: a7 :: a8 :: a9 :: .long x :: .null :: t) st h Q) : Gw l G d M pc (a0 :: a1 :: a2 :: a3 :: a4 :: a5 :: a6 :: a7 :: a8 :: a9 :: y :: z :: t) (.long x :: st) h Q := e_lstore hc hi (by simp [okL, ho]) rfl kk
theorem e_inc10 {a0 a1 a2 a3 a4 a5 a6 a7 a8 a9 : Value} {t : List Value} {x v : Int32} {n : Int} (hc : lk M pc = some (.iinc 10 n, npc, 3)) (hi : Nat.blt 10 M.2.2.1 = true) (ho : a9.category = 1) (hv : x + Int32.ofInt n = v) (kk : Gw l G d M npc (a0 :: a1 :: a2 :: a3 :: a4 :: a5 :: a6 :: a7 :: a8 :: a9 :: .int v :: t) st h Q) : Gw l G d M pc (a0 :: a1 :: a2 :: a3 :: a4 :: a5 :: a6 :: a7 :: a8 :: a9 :: .int x :: t) st h Q := e_iinc hc rfl hi (by simp [okL, ho]) (by rw [hv]; rfl) kk
theorem e_iaddN {x y : Nat} (hc : lk M pc = some (.iadd, npc, 1)) (kk : Gw l G d M npc L (.int (nI (x + y)) :: st) h Q) : Gw l G d M pc L (.int (nI y) :: .int (nI x) :: st) h Q := e_iadd hc (by rw [nI_add]; exact kk)
theorem e_isubN {x y : Nat} (hc : lk M pc = some (.isub, npc, 1)) (hy : y ≤ x) (kk : Gw l G d M npc L (.int (nI (x - y)) :: st) h Q) : Gw l G d M pc L (.int (nI y) :: .int (nI x) :: st) h Q := e_isub hc (by rw [pk_sub hy]; exact kk)
theorem e_imulN {x y : Nat} (hc : lk M pc = some (.imul, npc, 1)) (kk : Gw l G d M npc L (.int (nI (x * y)) :: st) h Q) : Gw l G d M pc L (.int (nI y) :: .int (nI x) :: st) h Q := e_imul hc (by rw [pk_mul]; exact kk)
theorem e_ialoadN {j : Nat} (hc : lk M pc = some (.iaload, npc, 1)) (hs : K.2.1 a = (20, n)) (hj : j < n) (hn : n < 2 ^ 31) (kk : Gw l G d M npc L (.int (I a j) :: st) (I, J, K) Q) : Gw l G d M pc L (.int (nI j) :: .ref a :: st) (I, J, K) Q := e_iaload hc hs (vp_in_nI hj hn) (by rw [nI_clamp (by omega)]; exact kk)
theorem e_baloadN {j : Nat} (hc : lk M pc = some (.baload, npc, 1)) (hs : K.2.1 a = (21, n)) (hj : j < n) (hn : n < 2 ^ 31) (kk : Gw l G d M npc L (.int (I a j) :: st) (I, J, K) Q) : Gw l G d M pc L (.int (nI j) :: .ref a :: st) (I, J, K) Q := e_baload hc hs (vp_in_nI hj hn) (by rw [nI_clamp (by omega)]; exact kk)
theorem e_zaloadN {j : Nat} (hc : lk M pc = some (.baload, npc, 1)) (hs : K.2.1 a = (22, n)) (hj : j < n) (hn : n < 2 ^ 31) (kk : Gw l G d M npc L (.int (I a j) :: st) (I, J, K) Q) : Gw l G d M pc L (.int (nI j) :: .ref a :: st) (I, J, K) Q := e_zaload hc hs (vp_in_nI hj hn) (by rw [nI_clamp (by omega)]; exact kk)
theorem e_laloadN {j : Nat} (hc : lk M pc = some (.laload, npc, 1)) (hs : K.2.1 a = (23, n)) (hj : j < n) (hn : n < 2 ^ 31) (kk : Gw l G d M npc L (.long (J a j) :: st) (I, J, K) Q) : Gw l G d M pc L (.int (nI j) :: .ref a :: st) (I, J, K) Q := e_laload hc hs (vp_in_nI hj hn) (by rw [nI_clamp (by omega)]; exact kk)
theorem e_aaloadN {j b : Nat} (hc : lk M pc = some (.aaload, npc, 1)) (hs : K.2.1 a = (24, n)) (hj : j < n) (hn : n < 2 ^ 31) (hp : K.1 a j = some b) (kk : Gw l G d M npc L (.ref b :: st) (I, J, K) Q) : Gw l G d M pc L (.int (nI j) :: .ref a :: st) (I, J, K) Q := e_aaload hc hs (vp_in_nI hj hn) (by rw [nI_clamp (by omega)]; exact hp) kk
theorem e_iastoreN {j : Nat} {y : Int32} (hc : lk M pc = some (.iastore, npc, 1)) (hs : K.2.1 a = (20, n)) (hj : j < n) (hn : n < 2 ^ 31) (kk : Gw l G d M npc L st (u2 I a j y, J, K) Q) : Gw l G d M pc L (.int y :: .int (nI j) :: .ref a :: st) (I, J, K) Q := e_iastore hc hs (vp_in_nI hj hn) (by rw [nI_clamp (by omega)]; exact kk)
theorem e_bastoreN {j : Nat} {y : Int32} (hc : lk M pc = some (.bastore, npc, 1)) (hs : K.2.1 a = (21, n)) (hj : j < n) (hn : n < 2 ^ 31) (kk : Gw l G d M npc L st (u2 I a j (vp_nar .byte y), J, K) Q) : Gw l G d M pc L (.int y :: .int (nI j) :: .ref a :: st) (I, J, K) Q := e_bastore hc hs (vp_in_nI hj hn) (by rw [nI_clamp (by omega)]; exact kk)
theorem e_zastoreN {j : Nat} {y : Int32} (hc : lk M pc = some (.bastore, npc, 1)) (hs : K.2.1 a = (22, n)) (hj : j < n) (hn : n < 2 ^ 31) (kk : Gw l G d M npc L st (u2 I a j (vp_nar .boolean y), J, K) Q) : Gw l G d M pc L (.int y :: .int (nI j) :: .ref a :: st) (I, J, K) Q := e_zastore hc hs (vp_in_nI hj hn) (by rw [nI_clamp (by omega)]; exact kk)
theorem e_lastoreN {j : Nat} {y : Int64} (hc : lk M pc = some (.lastore, npc, 1)) (hs : K.2.1 a = (23, n)) (hj : j < n) (hn : n < 2 ^ 31) (kk : Gw l G d M npc L st (I, u2 J a j y, K) Q) : Gw l G d M pc L (.long y :: .int (nI j) :: .ref a :: st) (I, J, K) Q := e_lastore hc hs (vp_in_nI hj hn) (by rw [nI_clamp (by omega)]; exact kk)
theorem e_icmp_eqN {x y : Nat} {off : Int} {tgt : Nat} (hc : lk M pc = some (.if_icmp .eq off, npc, 3)) (ht : (pc : Int) + off = (tgt : Int)) (hx : x < 2 ^ 31) (hy : y < 2 ^ 31) (kt : x = y → Gw l G d M tgt L st h Q) (kf : x ≠ y → Gw l G d M npc L st h Q) : Gw l G d M pc L (.int (nI y) :: .int (nI x) :: st) h Q := e_icmp_eq hc ht (fun z => kt ((nI_eq hx hy).mp z)) (fun z => kf ((fun q => z ((nI_eq hx hy).mpr q))))
theorem e_icmp_neN {x y : Nat} {off : Int} {tgt : Nat} (hc : lk M pc = some (.if_icmp .ne off, npc, 3)) (ht : (pc : Int) + off = (tgt : Int)) (hx : x < 2 ^ 31) (hy : y < 2 ^ 31) (kt : x ≠ y → Gw l G d M tgt L st h Q) (kf : x = y → Gw l G d M npc L st h Q) : Gw l G d M pc L (.int (nI y) :: .int (nI x) :: st) h Q := e_icmp_ne hc ht (fun z => kt ((fun q => z ((nI_eq hx hy).mpr q)))) (fun z => kf ((nI_eq hx hy).mp z))
theorem e_icmp_ltN {x y : Nat} {off : Int} {tgt : Nat} (hc : lk M pc = some (.if_icmp .lt off, npc, 3)) (ht : (pc : Int) + off = (tgt : Int)) (hx : x < 2 ^ 31) (hy : y < 2 ^ 31) (kt : x < y → Gw l G d M tgt L st h Q) (kf : y ≤ x → Gw l G d M npc L st h Q) : Gw l G d M pc L (.int (nI y) :: .int (nI x) :: st) h Q := e_icmp_lt hc ht (fun z => kt ((nI_ltI hx hy).mp z)) (fun z => kf ((Nat.not_lt.mp fun q => z ((nI_ltI hx hy).mpr q))))
theorem e_icmp_geN {x y : Nat} {off : Int} {tgt : Nat} (hc : lk M pc = some (.if_icmp .ge off, npc, 3)) (ht : (pc : Int) + off = (tgt : Int)) (hx : x < 2 ^ 31) (hy : y < 2 ^ 31) (kt : y ≤ x → Gw l G d M tgt L st h Q) (kf : x < y → Gw l G d M npc L st h Q) : Gw l G d M pc L (.int (nI y) :: .int (nI x) :: st) h Q := e_icmp_ge hc ht (fun z => kt ((nI_leI hy hx).mp z)) (fun z => kf ((Nat.not_le.mp fun q => z ((nI_leI hy hx).mpr q))))
theorem e_icmp_gtN {x y : Nat} {off : Int} {tgt : Nat} (hc : lk M pc = some (.if_icmp .gt off, npc, 3)) (ht : (pc : Int) + off = (tgt : Int)) (hx : x < 2 ^ 31) (hy : y < 2 ^ 31) (kt : y < x → Gw l G d M tgt L st h Q) (kf : x ≤ y → Gw l G d M npc L st h Q) : Gw l G d M pc L (.int (nI y) :: .int (nI x) :: st) h Q := e_icmp_gt hc ht (fun z => kt ((nI_ltI hy hx).mp z)) (fun z => kf ((Nat.not_lt.mp fun q => z ((nI_ltI hy hx).mpr q))))
theorem e_icmp_leN {x y : Nat} {off : Int} {tgt : Nat} (hc : lk M pc = some (.if_icmp .le off, npc, 3)) (ht : (pc : Int) + off = (tgt : Int)) (hx : x < 2 ^ 31) (hy : y < 2 ^ 31) (kt : x ≤ y → Gw l G d M tgt L st h Q) (kf : y < x → Gw l G d M npc L st h Q) : Gw l G d M pc L (.int (nI y) :: .int (nI x) :: st) h Q := e_icmp_le hc ht (fun z => kt ((nI_leI hx hy).mp z)) (fun z => kf ((Nat.not_le.mp fun q => z ((nI_leI hx hy).mpr q))))
theorem e_if_eqN {x : Nat} {off : Int} {tgt : Nat} (hc : lk M pc = some (.ifCond .eq off, npc, 3)) (ht : (pc : Int) + off = (tgt : Int)) (hx : x < 2 ^ 31) (kt : x = 0 → Gw l G d M tgt L st h Q) (kf : x ≠ 0 → Gw l G d M npc L st h Q) : Gw l G d M pc L (.int (nI x) :: st) h Q := e_if_eq hc ht (fun z => kt (((nI_eq hx (by omega : 0 < 2 ^ 31)).mp z))) (fun z => kf ((fun q => z ((nI_eq hx (by omega : 0 < 2 ^ 31)).mpr q))))
theorem e_if_neN {x : Nat} {off : Int} {tgt : Nat} (hc : lk M pc = some (.ifCond .ne off, npc, 3)) (ht : (pc : Int) + off = (tgt : Int)) (hx : x < 2 ^ 31) (kt : x ≠ 0 → Gw l G d M tgt L st h Q) (kf : x = 0 → Gw l G d M npc L st h Q) : Gw l G d M pc L (.int (nI x) :: st) h Q := e_if_ne hc ht (fun z => kt ((fun q => z ((nI_eq hx (by omega : 0 < 2 ^ 31)).mpr q)))) (fun z => kf (((nI_eq hx (by omega : 0 < 2 ^ 31)).mp z)))
theorem e_if_gtN {x : Nat} {off : Int} {tgt : Nat} (hc : lk M pc = some (.ifCond .gt off, npc, 3)) (ht : (pc : Int) + off = (tgt : Int)) (hx : x < 2 ^ 31) (kt : 0 < x → Gw l G d M tgt L st h Q) (kf : x = 0 → Gw l G d M npc L st h Q) : Gw l G d M pc L (.int (nI x) :: st) h Q := e_if_gt hc ht (fun z => kt (((nI_ltI (by omega : 0 < 2 ^ 31) hx).mp z))) (fun z => kf ((Nat.eq_zero_of_not_pos fun q => z ((nI_ltI (by omega : 0 < 2 ^ 31) hx).mpr q))))
theorem e_if_leN {x : Nat} {off : Int} {tgt : Nat} (hc : lk M pc = some (.ifCond .le off, npc, 3)) (ht : (pc : Int) + off = (tgt : Int)) (hx : x < 2 ^ 31) (kt : x = 0 → Gw l G d M tgt L st h Q) (kf : 0 < x → Gw l G d M npc L st h Q) : Gw l G d M pc L (.int (nI x) :: st) h Q := e_if_le hc ht (fun z => kt ((Nat.le_zero.mp ((nI_leI hx (by omega : 0 < 2 ^ 31)).mp z)))) (fun z => kf ((Nat.pos_of_ne_zero fun q => z ((nI_leI hx (by omega : 0 < 2 ^ 31)).mpr (by omega)))))
theorem e_if_ltN {x : Nat} {off : Int} {tgt : Nat} (hc : lk M pc = some (.ifCond .lt off, npc, 3)) (ht : (pc : Int) + off = (tgt : Int)) (hx : x < 2 ^ 31) (kf : Gw l G d M npc L st h Q) : Gw l G d M pc L (.int (nI x) :: st) h Q := e_if_lt hc ht (fun z => absurd z (nI_pos hx)) (fun _ => kf)
theorem e_if_geN {x : Nat} {off : Int} {tgt : Nat} (hc : lk M pc = some (.ifCond .ge off, npc, 3)) (ht : (pc : Int) + off = (tgt : Int)) (hx : x < 2 ^ 31) (kt : Gw l G d M tgt L st h Q) : Gw l G d M pc L (.int (nI x) :: st) h Q := e_if_ge hc ht (fun _ => kt) (fun z => absurd (nI_pos' hx) z)
/-- a truth as an int -/
def bI (p : Bool) : Int32 := if p = true then 1 else 0
theorem bI_01 (p : Bool) : bI p = 0 ∨ bI p = 1 := by cases p <;> decide
theorem e_if_eqB {p : Bool} {off : Int} {tgt : Nat} (hc : lk M pc = some (.ifCond .eq off, npc, 3)) (ht : (pc : Int) + off = (tgt : Int)) (kt : p = false → Gw l G d M tgt L st h Q) (kf : p = true → Gw l G d M npc L st h Q) : Gw l G d M pc L (.int (bI p) :: st) h Q := e_if_eq hc ht (fun z => kt (by cases p; rfl; exact absurd z (by decide))) (fun z => kf (by cases p; exact absurd rfl z; rfl))
theorem e_if_neB {p : Bool} {off : Int} {tgt : Nat} (hc : lk M pc = some (.ifCond .ne off, npc, 3)) (ht : (pc : Int) + off = (tgt : Int)) (kt : p = true → Gw l G d M tgt L st h Q) (kf : p = false → Gw l G d M npc L st h Q) : Gw l G d M pc L (.int (bI p) :: st) h Q := e_if_ne hc ht (fun z => kt (by cases p; exact absurd rfl z; rfl)) (fun z => kf (by cases p; rfl; exact absurd z (by decide)))
end RowsX
theorem bp_6N : (Int8.ofInt 6).toInt32 = nI 6 := by decide
theorem bp_7N : (Int8.ofInt 7).toInt32 = nI 7 := by decide
theorem bp_8N : (Int8.ofInt 8).toInt32 = nI 8 := by decide
theorem bp_9N : (Int8.ofInt 9).toInt32 = nI 9 := by decide
theorem bp_10N : (Int8.ofInt 10).toInt32 = nI 10 := by decide
theorem bp_11N : (Int8.ofInt 11).toInt32 = nI 11 := by decide
theorem bp_12N : (Int8.ofInt 12).toInt32 = nI 12 := by decide
theorem bp_13N : (Int8.ofInt 13).toInt32 = nI 13 := by decide
theorem bp_14N : (Int8.ofInt 14).toInt32 = nI 14 := by decide
theorem bp_15N : (Int8.ofInt 15).toInt32 = nI 15 := by decide
theorem bp_16N : (Int8.ofInt 16).toInt32 = nI 16 := by decide
theorem bp_17N : (Int8.ofInt 17).toInt32 = nI 17 := by decide
theorem bp_18N : (Int8.ofInt 18).toInt32 = nI 18 := by decide
theorem bp_19N : (Int8.ofInt 19).toInt32 = nI 19 := by decide
theorem bp_20N : (Int8.ofInt 20).toInt32 = nI 20 := by decide
theorem bp_21N : (Int8.ofInt 21).toInt32 = nI 21 := by decide
theorem bp_22N : (Int8.ofInt 22).toInt32 = nI 22 := by decide
theorem bp_23N : (Int8.ofInt 23).toInt32 = nI 23 := by decide
theorem bp_24N : (Int8.ofInt 24).toInt32 = nI 24 := by decide
theorem bp_25N : (Int8.ofInt 25).toInt32 = nI 25 := by decide
theorem bp_30N : (Int8.ofInt 30).toInt32 = nI 30 := by decide
theorem bp_32N : (Int8.ofInt 32).toInt32 = nI 32 := by decide
theorem bp_40N : (Int8.ofInt 40).toInt32 = nI 40 := by decide
theorem bp_41N : (Int8.ofInt 41).toInt32 = nI 41 := by decide
theorem bp_42N : (Int8.ofInt 42).toInt32 = nI 42 := by decide
theorem bp_43N : (Int8.ofInt 43).toInt32 = nI 43 := by decide
theorem bp_45N : (Int8.ofInt 45).toInt32 = nI 45 := by decide
theorem bp_47N : (Int8.ofInt 47).toInt32 = nI 47 := by decide
theorem bp_48N : (Int8.ofInt 48).toInt32 = nI 48 := by decide
theorem bp_50N : (Int8.ofInt 50).toInt32 = nI 50 := by decide
theorem bp_57N : (Int8.ofInt 57).toInt32 = nI 57 := by decide
theorem bp_59N : (Int8.ofInt 59).toInt32 = nI 59 := by decide
theorem bp_60N : (Int8.ofInt 60).toInt32 = nI 60 := by decide
theorem bp_61N : (Int8.ofInt 61).toInt32 = nI 61 := by decide
theorem bp_62N : (Int8.ofInt 62).toInt32 = nI 62 := by decide
theorem bp_63N : (Int8.ofInt 63).toInt32 = nI 63 := by decide
theorem bp_64N : (Int8.ofInt 64).toInt32 = nI 64 := by decide
theorem bp_97N : (Int8.ofInt 97).toInt32 = nI 97 := by decide
theorem bp_99N : (Int8.ofInt 99).toInt32 = nI 99 := by decide
theorem bp_100N : (Int8.ofInt 100).toInt32 = nI 100 := by decide
theorem bp_122N : (Int8.ofInt 122).toInt32 = nI 122 := by decide
theorem ic_0N : Int32.ofInt 0 = nI 0 := by decide
theorem ic_1N : Int32.ofInt 1 = nI 1 := by decide
theorem ic_2N : Int32.ofInt 2 = nI 2 := by decide
theorem ic_3N : Int32.ofInt 3 = nI 3 := by decide
theorem ic_4N : Int32.ofInt 4 = nI 4 := by decide
theorem ic_5N : Int32.ofInt 5 = nI 5 := by decide
theorem sp_128N : (Int16.ofInt 128).toInt32 = nI 128 := by decide
theorem sp_184N : (Int16.ofInt 184).toInt32 = nI 184 := by decide
theorem sp_255N : (Int16.ofInt 255).toInt32 = nI 255 := by decide
theorem sp_256N : (Int16.ofInt 256).toInt32 = nI 256 := by decide
theorem sp_257N : (Int16.ofInt 257).toInt32 = nI 257 := by decide
theorem sp_258N : (Int16.ofInt 258).toInt32 = nI 258 := by decide
theorem sp_260N : (Int16.ofInt 260).toInt32 = nI 260 := by decide
theorem sp_261N : (Int16.ofInt 261).toInt32 = nI 261 := by decide
theorem sp_262N : (Int16.ofInt 262).toInt32 = nI 262 := by decide
theorem sp_680N : (Int16.ofInt 680).toInt32 = nI 680 := by decide
theorem sp_700N : (Int16.ofInt 700).toInt32 = nI 700 := by decide
theorem sp_999N : (Int16.ofInt 999).toInt32 = nI 999 := by decide
theorem sp_1023N : (Int16.ofInt 1023).toInt32 = nI 1023 := by decide
theorem sp_9900N : (Int16.ofInt 9900).toInt32 = nI 9900 := by decide
theorem sp_9999N : (Int16.ofInt 9999).toInt32 = nI 9999 := by decide
theorem sp_12345N : (Int16.ofInt 12345).toInt32 = nI 12345 := by decide
theorem incN1 (x : Nat) : nI x + Int32.ofInt 1 = nI (x + 1) := by rw [show Int32.ofInt 1 = nI 1 by decide, nI_add]
theorem incN6 (x : Nat) : nI x + Int32.ofInt 6 = nI (x + 6) := by rw [show Int32.ofInt 6 = nI 6 by decide, nI_add]
end
section
section RowsY
variable {l : Launch} {G : GG} {d pc npc : Nat} {M : MD} {L st : List Value} {h : Hp} {Q : Option Value → Hp → Prop}
theorem e_if_eqC {x y : Int64} {off : Int} {tgt : Nat} (hc : lk M pc = some (.ifCond .eq off, npc, 3)) (ht : (pc : Int) + off = (tgt : Int)) (kt : x = y → Gw l G d M tgt L st h Q) (kf : ¬ x = y → Gw l G d M npc L st h Q) : Gw l G d M pc L (.int (lg_cmp x y) :: st) h Q := e_if_eq hc ht (fun z => kt ((lg_cmp_eq x y).mp z)) (fun z => kf ((fun q => z ((lg_cmp_eq x y).mpr q))))
theorem e_if_neC {x y : Int64} {off : Int} {tgt : Nat} (hc : lk M pc = some (.ifCond .ne off, npc, 3)) (ht : (pc : Int) + off = (tgt : Int)) (kt : ¬ x = y → Gw l G d M tgt L st h Q) (kf : x = y → Gw l G d M npc L st h Q) : Gw l G d M pc L (.int (lg_cmp x y) :: st) h Q := e_if_ne hc ht (fun z => kt ((fun q => z ((lg_cmp_eq x y).mpr q)))) (fun z => kf ((lg_cmp_eq x y).mp z))
theorem e_if_ltC {x y : Int64} {off : Int} {tgt : Nat} (hc : lk M pc = some (.ifCond .lt off, npc, 3)) (ht : (pc : Int) + off = (tgt : Int)) (kt : x < y → Gw l G d M tgt L st h Q) (kf : ¬ x < y → Gw l G d M npc L st h Q) : Gw l G d M pc L (.int (lg_cmp x y) :: st) h Q := e_if_lt hc ht (fun z => kt ((lg_cmp_lt x y).mp z)) (fun z => kf ((fun q => z ((lg_cmp_lt x y).mpr q))))
theorem e_if_geC {x y : Int64} {off : Int} {tgt : Nat} (hc : lk M pc = some (.ifCond .ge off, npc, 3)) (ht : (pc : Int) + off = (tgt : Int)) (kt : y ≤ x → Gw l G d M tgt L st h Q) (kf : ¬ y ≤ x → Gw l G d M npc L st h Q) : Gw l G d M pc L (.int (lg_cmp x y) :: st) h Q := e_if_ge hc ht (fun z => kt ((lg_cmp_ge x y).mp z)) (fun z => kf ((fun q => z ((lg_cmp_ge x y).mpr q))))
theorem e_if_gtC {x y : Int64} {off : Int} {tgt : Nat} (hc : lk M pc = some (.ifCond .gt off, npc, 3)) (ht : (pc : Int) + off = (tgt : Int)) (kt : y < x → Gw l G d M tgt L st h Q) (kf : ¬ y < x → Gw l G d M npc L st h Q) : Gw l G d M pc L (.int (lg_cmp x y) :: st) h Q := e_if_gt hc ht (fun z => kt ((lg_cmp_gt x y).mp z)) (fun z => kf ((fun q => z ((lg_cmp_gt x y).mpr q))))
theorem e_if_leC {x y : Int64} {off : Int} {tgt : Nat} (hc : lk M pc = some (.ifCond .le off, npc, 3)) (ht : (pc : Int) + off = (tgt : Int)) (kt : x ≤ y → Gw l G d M tgt L st h Q) (kf : ¬ x ≤ y → Gw l G d M npc L st h Q) : Gw l G d M pc L (.int (lg_cmp x y) :: st) h Q := e_if_le hc ht (fun z => kt ((lg_cmp_le x y).mp z)) (fun z => kf ((fun q => z ((lg_cmp_le x y).mpr q))))
theorem decN1 {x : Nat} (hx : 1 ≤ x) : nI x + Int32.ofInt (-1) = nI (x - 1) := by
  obtain ⟨y, rfl⟩ : ∃ y, x = y + 1 := ⟨x - 1, by omega⟩
  rw [show Int32.ofInt (-1) = -1 by decide, pk_m1]; rfl
end RowsY
set_option maxRecDepth 20000 in
theorem sw1_joined_1 {l : Launch} {G : GG} {d : Nat} {L st : List Value} {h : Hp} {Q : Option Value → Hp → Prop} {x : Int32} (k0 : x = nI 20 → Gw l G d m1_joined 126 L st h Q) (k1 : x = nI 21 → Gw l G d m1_joined 108 L st h Q) (k2 : x = nI 42 → Gw l G d m1_joined 224 L st h Q) (k3 : x = nI 43 → Gw l G d m1_joined 216 L st h Q) (k4 : x = nI 45 → Gw l G d m1_joined 220 L st h Q) (k5 : x = nI 47 → Gw l G d m1_joined 279 L st h Q) (k6 : x = nI 60 → Gw l G d m1_joined 144 L st h Q) (k7 : x = nI 61 → Gw l G d m1_joined 168 L st h Q) (k8 : x = nI 62 → Gw l G d m1_joined 204 L st h Q) (k9 : x = nI 256 → Gw l G d m1_joined 156 L st h Q) (k10 : x = nI 257 → Gw l G d m1_joined 192 L st h Q) (k11 : x = nI 258 → Gw l G d m1_joined 180 L st h Q) (kd : ¬ x = nI 20 → ¬ x = nI 21 → ¬ x = nI 42 → ¬ x = nI 43 → ¬ x = nI 45 → ¬ x = nI 47 → ¬ x = nI 60 → ¬ x = nI 61 → ¬ x = nI 62 → ¬ x = nI 256 → ¬ x = nI 257 → ¬ x = nI 258 → Gw l G d m1_joined 295 L st h Q) : Gw l G d m1_joined 1 L (.int x :: st) h Q := by
  by_cases z0 : x = nI 20
  · exact e_lookup (tgt := 126) (off := 125) rfl (by decide) (by rw [z0]; decide) rfl (k0 z0)
  by_cases z1 : x = nI 21
  · exact e_lookup (tgt := 108) (off := 107) rfl (by decide) (by rw [z1]; decide) rfl (k1 z1)
  by_cases z2 : x = nI 42
  · exact e_lookup (tgt := 224) (off := 223) rfl (by decide) (by rw [z2]; decide) rfl (k2 z2)
  by_cases z3 : x = nI 43
  · exact e_lookup (tgt := 216) (off := 215) rfl (by decide) (by rw [z3]; decide) rfl (k3 z3)
  by_cases z4 : x = nI 45
  · exact e_lookup (tgt := 220) (off := 219) rfl (by decide) (by rw [z4]; decide) rfl (k4 z4)
  by_cases z5 : x = nI 47
  · exact e_lookup (tgt := 279) (off := 278) rfl (by decide) (by rw [z5]; decide) rfl (k5 z5)
  by_cases z6 : x = nI 60
  · exact e_lookup (tgt := 144) (off := 143) rfl (by decide) (by rw [z6]; decide) rfl (k6 z6)
  by_cases z7 : x = nI 61
  · exact e_lookup (tgt := 168) (off := 167) rfl (by decide) (by rw [z7]; decide) rfl (k7 z7)
  by_cases z8 : x = nI 62
  · exact e_lookup (tgt := 204) (off := 203) rfl (by decide) (by rw [z8]; decide) rfl (k8 z8)
  by_cases z9 : x = nI 256
  · exact e_lookup (tgt := 156) (off := 155) rfl (by decide) (by rw [z9]; decide) rfl (k9 z9)
  by_cases z10 : x = nI 257
  · exact e_lookup (tgt := 192) (off := 191) rfl (by decide) (by rw [z10]; decide) rfl (k10 z10)
  by_cases z11 : x = nI 258
  · exact e_lookup (tgt := 180) (off := 179) rfl (by decide) (by rw [z11]; decide) rfl (k11 z11)
  refine e_lookup (tgt := 295) (off := 294) rfl (by decide) ?_ rfl (kd z0 z1 z2 z3 z4 z5 z6 z7 z8 z9 z10 z11)
  show Op.lookupswitch.offset [(20, 125), (21, 107), (42, 223), (43, 215), (45, 219), (47, 278), (60, 143), (61, 167), (62, 203), (256, 155), (257, 191), (258, 179)] 294 x.toInt = 294
  rw [lv_osw z0 (by decide), lv_osw z1 (by decide), lv_osw z2 (by decide), lv_osw z3 (by decide), lv_osw z4 (by decide), lv_osw z5 (by decide), lv_osw z6 (by decide), lv_osw z7 (by decide), lv_osw z8 (by decide), lv_osw z9 (by decide), lv_osw z10 (by decide), lv_osw z11 (by decide)]
  rfl
set_option maxRecDepth 20000 in
theorem sw2_line_7 {l : Launch} {G : GG} {d : Nat} {L st : List Value} {h : Hp} {Q : Option Value → Hp → Prop} {x : Int32} (k0 : x = nI 1 → Gw l G d m2_line 52 L st h Q) (k1 : x = nI 2 → Gw l G d m2_line 59 L st h Q) (k2 : x = nI 3 → Gw l G d m2_line 66 L st h Q) (k3 : x = nI 4 → Gw l G d m2_line 73 L st h Q) (k4 : x = nI 5 → Gw l G d m2_line 80 L st h Q) (k5 : x = nI 6 → Gw l G d m2_line 96 L st h Q) (k6 : x = nI 7 → Gw l G d m2_line 112 L st h Q) (k7 : x = nI 8 → Gw l G d m2_line 128 L st h Q) (kd : ¬ x = nI 1 → ¬ x = nI 2 → ¬ x = nI 3 → ¬ x = nI 4 → ¬ x = nI 5 → ¬ x = nI 6 → ¬ x = nI 7 → ¬ x = nI 8 → Gw l G d m2_line 135 L st h Q) : Gw l G d m2_line 7 L (.int x :: st) h Q := by
  by_cases z0 : x = nI 1
  · exact e_tableIn (tgt := 52) (off := 45) rfl (by rw [z0]; decide) (by rw [z0]; decide) (by rw [z0]; decide) rfl (k0 z0)
  by_cases z1 : x = nI 2
  · exact e_tableIn (tgt := 59) (off := 52) rfl (by rw [z1]; decide) (by rw [z1]; decide) (by rw [z1]; decide) rfl (k1 z1)
  by_cases z2 : x = nI 3
  · exact e_tableIn (tgt := 66) (off := 59) rfl (by rw [z2]; decide) (by rw [z2]; decide) (by rw [z2]; decide) rfl (k2 z2)
  by_cases z3 : x = nI 4
  · exact e_tableIn (tgt := 73) (off := 66) rfl (by rw [z3]; decide) (by rw [z3]; decide) (by rw [z3]; decide) rfl (k3 z3)
  by_cases z4 : x = nI 5
  · exact e_tableIn (tgt := 80) (off := 73) rfl (by rw [z4]; decide) (by rw [z4]; decide) (by rw [z4]; decide) rfl (k4 z4)
  by_cases z5 : x = nI 6
  · exact e_tableIn (tgt := 96) (off := 89) rfl (by rw [z5]; decide) (by rw [z5]; decide) (by rw [z5]; decide) rfl (k5 z5)
  by_cases z6 : x = nI 7
  · exact e_tableIn (tgt := 112) (off := 105) rfl (by rw [z6]; decide) (by rw [z6]; decide) (by rw [z6]; decide) rfl (k6 z6)
  by_cases z7 : x = nI 8
  · exact e_tableIn (tgt := 128) (off := 121) rfl (by rw [z7]; decide) (by rw [z7]; decide) (by rw [z7]; decide) rfl (k7 z7)
  have y0 := lv_neT z0 (show (nI 1).toInt = 1 by decide)
  have y1 := lv_neT z1 (show (nI 2).toInt = 2 by decide)
  have y2 := lv_neT z2 (show (nI 3).toInt = 3 by decide)
  have y3 := lv_neT z3 (show (nI 4).toInt = 4 by decide)
  have y4 := lv_neT z4 (show (nI 5).toInt = 5 by decide)
  have y5 := lv_neT z5 (show (nI 6).toInt = 6 by decide)
  have y6 := lv_neT z6 (show (nI 7).toInt = 7 by decide)
  have y7 := lv_neT z7 (show (nI 8).toInt = 8 by decide)
  exact e_tableOut (tgt := 135) rfl (by omega) rfl (kd z0 z1 z2 z3 z4 z5 z6 z7)
set_option maxRecDepth 20000 in
theorem sw9_fault_1 {l : Launch} {G : GG} {d : Nat} {L st : List Value} {h : Hp} {Q : Option Value → Hp → Prop} {x : Int32} (k0 : x = nI 0 → Gw l G d m9_fault 28 L st h Q) (k1 : x = nI 1 → Gw l G d m9_fault 36 L st h Q) (kd : ¬ x = nI 0 → ¬ x = nI 1 → Gw l G d m9_fault 44 L st h Q) : Gw l G d m9_fault 1 L (.int x :: st) h Q := by
  by_cases z0 : x = nI 0
  · exact e_lookup (tgt := 28) (off := 27) rfl (by decide) (by rw [z0]; decide) rfl (k0 z0)
  by_cases z1 : x = nI 1
  · exact e_lookup (tgt := 36) (off := 35) rfl (by decide) (by rw [z1]; decide) rfl (k1 z1)
  refine e_lookup (tgt := 44) (off := 43) rfl (by decide) ?_ rfl (kd z0 z1)
  show Op.lookupswitch.offset [(0, 27), (1, 35)] 43 x.toInt = 43
  rw [lv_osw z0 (by decide), lv_osw z1 (by decide)]
  rfl
set_option maxRecDepth 20000 in
theorem sw9_named_1 {l : Launch} {G : GG} {d : Nat} {L st : List Value} {h : Hp} {Q : Option Value → Hp → Prop} {x : Int32} (k0 : x = nI 0 → Gw l G d m9_named 28 L st h Q) (k1 : x = nI 1 → Gw l G d m9_named 40 L st h Q) (kd : ¬ x = nI 0 → ¬ x = nI 1 → Gw l G d m9_named 52 L st h Q) : Gw l G d m9_named 1 L (.int x :: st) h Q := by
  by_cases z0 : x = nI 0
  · exact e_lookup (tgt := 28) (off := 27) rfl (by decide) (by rw [z0]; decide) rfl (k0 z0)
  by_cases z1 : x = nI 1
  · exact e_lookup (tgt := 40) (off := 39) rfl (by decide) (by rw [z1]; decide) rfl (k1 z1)
  refine e_lookup (tgt := 52) (off := 51) rfl (by decide) ?_ rfl (kd z0 z1)
  show Op.lookupswitch.offset [(0, 27), (1, 39)] 51 x.toInt = 51
  rw [lv_osw z0 (by decide), lv_osw z1 (by decide)]
  rfl
set_option maxRecDepth 20000 in
theorem sw9_tin_22 {l : Launch} {G : GG} {d : Nat} {L st : List Value} {h : Hp} {Q : Option Value → Hp → Prop} {x : Int32} (k0 : x = nI 0 → Gw l G d m9_tin 64 L st h Q) (k1 : x = nI 1 → Gw l G d m9_tin 77 L st h Q) (k2 : x = nI 2 → Gw l G d m9_tin 87 L st h Q) (k3 : x = nI 3 → Gw l G d m9_tin 100 L st h Q) (k4 : x = nI 4 → Gw l G d m9_tin 110 L st h Q) (k5 : x = nI 5 → Gw l G d m9_tin 120 L st h Q) (k6 : x = nI 6 → Gw l G d m9_tin 130 L st h Q) (kd : ¬ x = nI 0 → ¬ x = nI 1 → ¬ x = nI 2 → ¬ x = nI 3 → ¬ x = nI 4 → ¬ x = nI 5 → ¬ x = nI 6 → Gw l G d m9_tin 140 L st h Q) : Gw l G d m9_tin 22 L (.int x :: st) h Q := by
  by_cases z0 : x = nI 0
  · exact e_tableIn (tgt := 64) (off := 42) rfl (by rw [z0]; decide) (by rw [z0]; decide) (by rw [z0]; decide) rfl (k0 z0)
  by_cases z1 : x = nI 1
  · exact e_tableIn (tgt := 77) (off := 55) rfl (by rw [z1]; decide) (by rw [z1]; decide) (by rw [z1]; decide) rfl (k1 z1)
  by_cases z2 : x = nI 2
  · exact e_tableIn (tgt := 87) (off := 65) rfl (by rw [z2]; decide) (by rw [z2]; decide) (by rw [z2]; decide) rfl (k2 z2)
  by_cases z3 : x = nI 3
  · exact e_tableIn (tgt := 100) (off := 78) rfl (by rw [z3]; decide) (by rw [z3]; decide) (by rw [z3]; decide) rfl (k3 z3)
  by_cases z4 : x = nI 4
  · exact e_tableIn (tgt := 110) (off := 88) rfl (by rw [z4]; decide) (by rw [z4]; decide) (by rw [z4]; decide) rfl (k4 z4)
  by_cases z5 : x = nI 5
  · exact e_tableIn (tgt := 120) (off := 98) rfl (by rw [z5]; decide) (by rw [z5]; decide) (by rw [z5]; decide) rfl (k5 z5)
  by_cases z6 : x = nI 6
  · exact e_tableIn (tgt := 130) (off := 108) rfl (by rw [z6]; decide) (by rw [z6]; decide) (by rw [z6]; decide) rfl (k6 z6)
  have y0 := lv_neT z0 (show (nI 0).toInt = 0 by decide)
  have y1 := lv_neT z1 (show (nI 1).toInt = 1 by decide)
  have y2 := lv_neT z2 (show (nI 2).toInt = 2 by decide)
  have y3 := lv_neT z3 (show (nI 3).toInt = 3 by decide)
  have y4 := lv_neT z4 (show (nI 4).toInt = 4 by decide)
  have y5 := lv_neT z5 (show (nI 5).toInt = 5 by decide)
  have y6 := lv_neT z6 (show (nI 6).toInt = 6 by decide)
  exact e_tableOut (tgt := 140) rfl (by omega) rfl (kd z0 z1 z2 z3 z4 z5 z6)
set_option maxRecDepth 20000 in
theorem sw9_kind_17 {l : Launch} {G : GG} {d : Nat} {L st : List Value} {h : Hp} {Q : Option Value → Hp → Prop} {x : Int32} (k0 : x = nI 0 → Gw l G d m9_kind 48 L st h Q) (k1 : x = nI 1 → Gw l G d m9_kind 61 L st h Q) (k2 : x = nI 2 → Gw l G d m9_kind 74 L st h Q) (k3 : x = nI 3 → Gw l G d m9_kind 81 L st h Q) (kd : ¬ x = nI 0 → ¬ x = nI 1 → ¬ x = nI 2 → ¬ x = nI 3 → Gw l G d m9_kind 88 L st h Q) : Gw l G d m9_kind 17 L (.int x :: st) h Q := by
  by_cases z0 : x = nI 0
  · exact e_tableIn (tgt := 48) (off := 31) rfl (by rw [z0]; decide) (by rw [z0]; decide) (by rw [z0]; decide) rfl (k0 z0)
  by_cases z1 : x = nI 1
  · exact e_tableIn (tgt := 61) (off := 44) rfl (by rw [z1]; decide) (by rw [z1]; decide) (by rw [z1]; decide) rfl (k1 z1)
  by_cases z2 : x = nI 2
  · exact e_tableIn (tgt := 74) (off := 57) rfl (by rw [z2]; decide) (by rw [z2]; decide) (by rw [z2]; decide) rfl (k2 z2)
  by_cases z3 : x = nI 3
  · exact e_tableIn (tgt := 81) (off := 64) rfl (by rw [z3]; decide) (by rw [z3]; decide) (by rw [z3]; decide) rfl (k3 z3)
  have y0 := lv_neT z0 (show (nI 0).toInt = 0 by decide)
  have y1 := lv_neT z1 (show (nI 1).toInt = 1 by decide)
  have y2 := lv_neT z2 (show (nI 2).toInt = 2 by decide)
  have y3 := lv_neT z3 (show (nI 3).toInt = 3 by decide)
  exact e_tableOut (tgt := 88) rfl (by omega) rfl (kd z0 z1 z2 z3)
set_option maxRecDepth 20000 in
theorem sw9_want_17 {l : Launch} {G : GG} {d : Nat} {L st : List Value} {h : Hp} {Q : Option Value → Hp → Prop} {x : Int32} (k0 : x = nI 0 → Gw l G d m9_want 48 L st h Q) (k1 : x = nI 1 → Gw l G d m9_want 61 L st h Q) (k2 : x = nI 2 → Gw l G d m9_want 74 L st h Q) (k3 : x = nI 3 → Gw l G d m9_want 87 L st h Q) (kd : ¬ x = nI 0 → ¬ x = nI 1 → ¬ x = nI 2 → ¬ x = nI 3 → Gw l G d m9_want 97 L st h Q) : Gw l G d m9_want 17 L (.int x :: st) h Q := by
  by_cases z0 : x = nI 0
  · exact e_tableIn (tgt := 48) (off := 31) rfl (by rw [z0]; decide) (by rw [z0]; decide) (by rw [z0]; decide) rfl (k0 z0)
  by_cases z1 : x = nI 1
  · exact e_tableIn (tgt := 61) (off := 44) rfl (by rw [z1]; decide) (by rw [z1]; decide) (by rw [z1]; decide) rfl (k1 z1)
  by_cases z2 : x = nI 2
  · exact e_tableIn (tgt := 74) (off := 57) rfl (by rw [z2]; decide) (by rw [z2]; decide) (by rw [z2]; decide) rfl (k2 z2)
  by_cases z3 : x = nI 3
  · exact e_tableIn (tgt := 87) (off := 70) rfl (by rw [z3]; decide) (by rw [z3]; decide) (by rw [z3]; decide) rfl (k3 z3)
  have y0 := lv_neT z0 (show (nI 0).toInt = 0 by decide)
  have y1 := lv_neT z1 (show (nI 1).toInt = 1 by decide)
  have y2 := lv_neT z2 (show (nI 2).toInt = 2 by decide)
  have y3 := lv_neT z3 (show (nI 3).toInt = 3 by decide)
  exact e_tableOut (tgt := 97) rfl (by omega) rfl (kd z0 z1 z2 z3)
set_option maxRecDepth 20000 in
theorem sw9_ahead_66 {l : Launch} {G : GG} {d : Nat} {L st : List Value} {h : Hp} {Q : Option Value → Hp → Prop} {x : Int32} (k0 : x = nI 0 → Gw l G d m9_ahead 96 L st h Q) (k1 : x = nI 1 → Gw l G d m9_ahead 112 L st h Q) (k2 : x = nI 2 → Gw l G d m9_ahead 128 L st h Q) (k3 : x = nI 3 → Gw l G d m9_ahead 144 L st h Q) (kd : ¬ x = nI 0 → ¬ x = nI 1 → ¬ x = nI 2 → ¬ x = nI 3 → Gw l G d m9_ahead 162 L st h Q) : Gw l G d m9_ahead 66 L (.int x :: st) h Q := by
  by_cases z0 : x = nI 0
  · exact e_tableIn (tgt := 96) (off := 30) rfl (by rw [z0]; decide) (by rw [z0]; decide) (by rw [z0]; decide) rfl (k0 z0)
  by_cases z1 : x = nI 1
  · exact e_tableIn (tgt := 112) (off := 46) rfl (by rw [z1]; decide) (by rw [z1]; decide) (by rw [z1]; decide) rfl (k1 z1)
  by_cases z2 : x = nI 2
  · exact e_tableIn (tgt := 128) (off := 62) rfl (by rw [z2]; decide) (by rw [z2]; decide) (by rw [z2]; decide) rfl (k2 z2)
  by_cases z3 : x = nI 3
  · exact e_tableIn (tgt := 144) (off := 78) rfl (by rw [z3]; decide) (by rw [z3]; decide) (by rw [z3]; decide) rfl (k3 z3)
  have y0 := lv_neT z0 (show (nI 0).toInt = 0 by decide)
  have y1 := lv_neT z1 (show (nI 1).toInt = 1 by decide)
  have y2 := lv_neT z2 (show (nI 2).toInt = 2 by decide)
  have y3 := lv_neT z3 (show (nI 3).toInt = 3 by decide)
  exact e_tableOut (tgt := 162) rfl (by omega) rfl (kd z0 z1 z2 z3)
set_option maxRecDepth 20000 in
theorem sw9_count_1 {l : Launch} {G : GG} {d : Nat} {L st : List Value} {h : Hp} {Q : Option Value → Hp → Prop} {x : Int32} (k0 : x = nI 0 → Gw l G d m9_count 80 L st h Q) (k1 : x = nI 1 → Gw l G d m9_count 91 L st h Q) (k2 : x = nI 2 → Gw l G d m9_count 102 L st h Q) (k3 : x = nI 3 → Gw l G d m9_count 113 L st h Q) (k4 : x = nI 4 → Gw l G d m9_count 124 L st h Q) (k5 : x = nI 5 → Gw l G d m9_count 132 L st h Q) (k6 : x = nI 6 → Gw l G d m9_count 141 L st h Q) (k7 : x = nI 7 → Gw l G d m9_count 150 L st h Q) (k8 : x = nI 8 → Gw l G d m9_count 159 L st h Q) (k9 : x = nI 9 → Gw l G d m9_count 167 L st h Q) (k10 : x = nI 10 → Gw l G d m9_count 175 L st h Q) (k11 : x = nI 11 → Gw l G d m9_count 183 L st h Q) (k12 : x = nI 12 → Gw l G d m9_count 191 L st h Q) (k13 : x = nI 13 → Gw l G d m9_count 199 L st h Q) (k14 : x = nI 14 → Gw l G d m9_count 210 L st h Q) (k15 : x = nI 15 → Gw l G d m9_count 218 L st h Q) (kd : ¬ x = nI 0 → ¬ x = nI 1 → ¬ x = nI 2 → ¬ x = nI 3 → ¬ x = nI 4 → ¬ x = nI 5 → ¬ x = nI 6 → ¬ x = nI 7 → ¬ x = nI 8 → ¬ x = nI 9 → ¬ x = nI 10 → ¬ x = nI 11 → ¬ x = nI 12 → ¬ x = nI 13 → ¬ x = nI 14 → ¬ x = nI 15 → Gw l G d m9_count 229 L st h Q) : Gw l G d m9_count 1 L (.int x :: st) h Q := by
  by_cases z0 : x = nI 0
  · exact e_tableIn (tgt := 80) (off := 79) rfl (by rw [z0]; decide) (by rw [z0]; decide) (by rw [z0]; decide) rfl (k0 z0)
  by_cases z1 : x = nI 1
  · exact e_tableIn (tgt := 91) (off := 90) rfl (by rw [z1]; decide) (by rw [z1]; decide) (by rw [z1]; decide) rfl (k1 z1)
  by_cases z2 : x = nI 2
  · exact e_tableIn (tgt := 102) (off := 101) rfl (by rw [z2]; decide) (by rw [z2]; decide) (by rw [z2]; decide) rfl (k2 z2)
  by_cases z3 : x = nI 3
  · exact e_tableIn (tgt := 113) (off := 112) rfl (by rw [z3]; decide) (by rw [z3]; decide) (by rw [z3]; decide) rfl (k3 z3)
  by_cases z4 : x = nI 4
  · exact e_tableIn (tgt := 124) (off := 123) rfl (by rw [z4]; decide) (by rw [z4]; decide) (by rw [z4]; decide) rfl (k4 z4)
  by_cases z5 : x = nI 5
  · exact e_tableIn (tgt := 132) (off := 131) rfl (by rw [z5]; decide) (by rw [z5]; decide) (by rw [z5]; decide) rfl (k5 z5)
  by_cases z6 : x = nI 6
  · exact e_tableIn (tgt := 141) (off := 140) rfl (by rw [z6]; decide) (by rw [z6]; decide) (by rw [z6]; decide) rfl (k6 z6)
  by_cases z7 : x = nI 7
  · exact e_tableIn (tgt := 150) (off := 149) rfl (by rw [z7]; decide) (by rw [z7]; decide) (by rw [z7]; decide) rfl (k7 z7)
  by_cases z8 : x = nI 8
  · exact e_tableIn (tgt := 159) (off := 158) rfl (by rw [z8]; decide) (by rw [z8]; decide) (by rw [z8]; decide) rfl (k8 z8)
  by_cases z9 : x = nI 9
  · exact e_tableIn (tgt := 167) (off := 166) rfl (by rw [z9]; decide) (by rw [z9]; decide) (by rw [z9]; decide) rfl (k9 z9)
  by_cases z10 : x = nI 10
  · exact e_tableIn (tgt := 175) (off := 174) rfl (by rw [z10]; decide) (by rw [z10]; decide) (by rw [z10]; decide) rfl (k10 z10)
  by_cases z11 : x = nI 11
  · exact e_tableIn (tgt := 183) (off := 182) rfl (by rw [z11]; decide) (by rw [z11]; decide) (by rw [z11]; decide) rfl (k11 z11)
  by_cases z12 : x = nI 12
  · exact e_tableIn (tgt := 191) (off := 190) rfl (by rw [z12]; decide) (by rw [z12]; decide) (by rw [z12]; decide) rfl (k12 z12)
  by_cases z13 : x = nI 13
  · exact e_tableIn (tgt := 199) (off := 198) rfl (by rw [z13]; decide) (by rw [z13]; decide) (by rw [z13]; decide) rfl (k13 z13)
  by_cases z14 : x = nI 14
  · exact e_tableIn (tgt := 210) (off := 209) rfl (by rw [z14]; decide) (by rw [z14]; decide) (by rw [z14]; decide) rfl (k14 z14)
  by_cases z15 : x = nI 15
  · exact e_tableIn (tgt := 218) (off := 217) rfl (by rw [z15]; decide) (by rw [z15]; decide) (by rw [z15]; decide) rfl (k15 z15)
  have y0 := lv_neT z0 (show (nI 0).toInt = 0 by decide)
  have y1 := lv_neT z1 (show (nI 1).toInt = 1 by decide)
  have y2 := lv_neT z2 (show (nI 2).toInt = 2 by decide)
  have y3 := lv_neT z3 (show (nI 3).toInt = 3 by decide)
  have y4 := lv_neT z4 (show (nI 4).toInt = 4 by decide)
  have y5 := lv_neT z5 (show (nI 5).toInt = 5 by decide)
  have y6 := lv_neT z6 (show (nI 6).toInt = 6 by decide)
  have y7 := lv_neT z7 (show (nI 7).toInt = 7 by decide)
  have y8 := lv_neT z8 (show (nI 8).toInt = 8 by decide)
  have y9 := lv_neT z9 (show (nI 9).toInt = 9 by decide)
  have y10 := lv_neT z10 (show (nI 10).toInt = 10 by decide)
  have y11 := lv_neT z11 (show (nI 11).toInt = 11 by decide)
  have y12 := lv_neT z12 (show (nI 12).toInt = 12 by decide)
  have y13 := lv_neT z13 (show (nI 13).toInt = 13 by decide)
  have y14 := lv_neT z14 (show (nI 14).toInt = 14 by decide)
  have y15 := lv_neT z15 (show (nI 15).toInt = 15 by decide)
  exact e_tableOut (tgt := 229) rfl (by omega) rfl (kd z0 z1 z2 z3 z4 z5 z6 z7 z8 z9 z10 z11 z12 z13 z14 z15)
set_option maxRecDepth 20000 in
theorem sw10_line_96 {l : Launch} {G : GG} {d : Nat} {L st : List Value} {h : Hp} {Q : Option Value → Hp → Prop} {x : Int32} (k0 : x = nI 0 → Gw l G d m10_line 140 L st h Q) (k1 : x = nI 1 → Gw l G d m10_line 211 L st h Q) (k2 : x = nI 2 → Gw l G d m10_line 315 L st h Q) (k3 : x = nI 3 → Gw l G d m10_line 376 L st h Q) (k4 : x = nI 4 → Gw l G d m10_line 451 L st h Q) (k5 : x = nI 5 → Gw l G d m10_line 466 L st h Q) (k6 : x = nI 6 → Gw l G d m10_line 481 L st h Q) (kd : ¬ x = nI 0 → ¬ x = nI 1 → ¬ x = nI 2 → ¬ x = nI 3 → ¬ x = nI 4 → ¬ x = nI 5 → ¬ x = nI 6 → Gw l G d m10_line 497 L st h Q) : Gw l G d m10_line 96 L (.int x :: st) h Q := by
  by_cases z0 : x = nI 0
  · exact e_tableIn (tgt := 140) (off := 44) rfl (by rw [z0]; decide) (by rw [z0]; decide) (by rw [z0]; decide) rfl (k0 z0)
  by_cases z1 : x = nI 1
  · exact e_tableIn (tgt := 211) (off := 115) rfl (by rw [z1]; decide) (by rw [z1]; decide) (by rw [z1]; decide) rfl (k1 z1)
  by_cases z2 : x = nI 2
  · exact e_tableIn (tgt := 315) (off := 219) rfl (by rw [z2]; decide) (by rw [z2]; decide) (by rw [z2]; decide) rfl (k2 z2)
  by_cases z3 : x = nI 3
  · exact e_tableIn (tgt := 376) (off := 280) rfl (by rw [z3]; decide) (by rw [z3]; decide) (by rw [z3]; decide) rfl (k3 z3)
  by_cases z4 : x = nI 4
  · exact e_tableIn (tgt := 451) (off := 355) rfl (by rw [z4]; decide) (by rw [z4]; decide) (by rw [z4]; decide) rfl (k4 z4)
  by_cases z5 : x = nI 5
  · exact e_tableIn (tgt := 466) (off := 370) rfl (by rw [z5]; decide) (by rw [z5]; decide) (by rw [z5]; decide) rfl (k5 z5)
  by_cases z6 : x = nI 6
  · exact e_tableIn (tgt := 481) (off := 385) rfl (by rw [z6]; decide) (by rw [z6]; decide) (by rw [z6]; decide) rfl (k6 z6)
  have y0 := lv_neT z0 (show (nI 0).toInt = 0 by decide)
  have y1 := lv_neT z1 (show (nI 1).toInt = 1 by decide)
  have y2 := lv_neT z2 (show (nI 2).toInt = 2 by decide)
  have y3 := lv_neT z3 (show (nI 3).toInt = 3 by decide)
  have y4 := lv_neT z4 (show (nI 4).toInt = 4 by decide)
  have y5 := lv_neT z5 (show (nI 5).toInt = 5 by decide)
  have y6 := lv_neT z6 (show (nI 6).toInt = 6 by decide)
  exact e_tableOut (tgt := 497) rfl (by omega) rfl (kd z0 z1 z2 z3 z4 z5 z6)
set_option maxRecDepth 20000 in
theorem sw10_named_6 {l : Launch} {G : GG} {d : Nat} {L st : List Value} {h : Hp} {Q : Option Value → Hp → Prop} {x : Int32} (k0 : x = nI 0 → Gw l G d m10_named 32 L st h Q) (k1 : x = nI 1 → Gw l G d m10_named 48 L st h Q) (kd : ¬ x = nI 0 → ¬ x = nI 1 → Gw l G d m10_named 64 L st h Q) : Gw l G d m10_named 6 L (.int x :: st) h Q := by
  by_cases z0 : x = nI 0
  · exact e_lookup (tgt := 32) (off := 26) rfl (by decide) (by rw [z0]; decide) rfl (k0 z0)
  by_cases z1 : x = nI 1
  · exact e_lookup (tgt := 48) (off := 42) rfl (by decide) (by rw [z1]; decide) rfl (k1 z1)
  refine e_lookup (tgt := 64) (off := 58) rfl (by decide) ?_ rfl (kd z0 z1)
  show Op.lookupswitch.offset [(0, 26), (1, 42)] 58 x.toInt = 58
  rw [lv_osw z0 (by decide), lv_osw z1 (by decide)]
  rfl
set_option maxRecDepth 20000 in
theorem sw10_works_70 {l : Launch} {G : GG} {d : Nat} {L st : List Value} {h : Hp} {Q : Option Value → Hp → Prop} {x : Int32} (k0 : x = nI 42 → Gw l G d m10_works 186 L st h Q) (k1 : x = nI 43 → Gw l G d m10_works 168 L st h Q) (k2 : x = nI 45 → Gw l G d m10_works 177 L st h Q) (k3 : x = nI 47 → Gw l G d m10_works 221 L st h Q) (k4 : x = nI 60 → Gw l G d m10_works 238 L st h Q) (k5 : x = nI 61 → Gw l G d m10_works 278 L st h Q) (k6 : x = nI 62 → Gw l G d m10_works 258 L st h Q) (k7 : x = nI 256 → Gw l G d m10_works 298 L st h Q) (k8 : x = nI 257 → Gw l G d m10_works 338 L st h Q) (k9 : x = nI 258 → Gw l G d m10_works 318 L st h Q) (k10 : x = nI 261 → Gw l G d m10_works 358 L st h Q) (kd : ¬ x = nI 42 → ¬ x = nI 43 → ¬ x = nI 45 → ¬ x = nI 47 → ¬ x = nI 60 → ¬ x = nI 61 → ¬ x = nI 62 → ¬ x = nI 256 → ¬ x = nI 257 → ¬ x = nI 258 → ¬ x = nI 261 → Gw l G d m10_works 384 L st h Q) : Gw l G d m10_works 70 L (.int x :: st) h Q := by
  by_cases z0 : x = nI 42
  · exact e_lookup (tgt := 186) (off := 116) rfl (by decide) (by rw [z0]; decide) rfl (k0 z0)
  by_cases z1 : x = nI 43
  · exact e_lookup (tgt := 168) (off := 98) rfl (by decide) (by rw [z1]; decide) rfl (k1 z1)
  by_cases z2 : x = nI 45
  · exact e_lookup (tgt := 177) (off := 107) rfl (by decide) (by rw [z2]; decide) rfl (k2 z2)
  by_cases z3 : x = nI 47
  · exact e_lookup (tgt := 221) (off := 151) rfl (by decide) (by rw [z3]; decide) rfl (k3 z3)
  by_cases z4 : x = nI 60
  · exact e_lookup (tgt := 238) (off := 168) rfl (by decide) (by rw [z4]; decide) rfl (k4 z4)
  by_cases z5 : x = nI 61
  · exact e_lookup (tgt := 278) (off := 208) rfl (by decide) (by rw [z5]; decide) rfl (k5 z5)
  by_cases z6 : x = nI 62
  · exact e_lookup (tgt := 258) (off := 188) rfl (by decide) (by rw [z6]; decide) rfl (k6 z6)
  by_cases z7 : x = nI 256
  · exact e_lookup (tgt := 298) (off := 228) rfl (by decide) (by rw [z7]; decide) rfl (k7 z7)
  by_cases z8 : x = nI 257
  · exact e_lookup (tgt := 338) (off := 268) rfl (by decide) (by rw [z8]; decide) rfl (k8 z8)
  by_cases z9 : x = nI 258
  · exact e_lookup (tgt := 318) (off := 248) rfl (by decide) (by rw [z9]; decide) rfl (k9 z9)
  by_cases z10 : x = nI 261
  · exact e_lookup (tgt := 358) (off := 288) rfl (by decide) (by rw [z10]; decide) rfl (k10 z10)
  refine e_lookup (tgt := 384) (off := 314) rfl (by decide) ?_ rfl (kd z0 z1 z2 z3 z4 z5 z6 z7 z8 z9 z10)
  show Op.lookupswitch.offset [(42, 116), (43, 98), (45, 107), (47, 151), (60, 168), (61, 208), (62, 188), (256, 228), (257, 268), (258, 248), (261, 288)] 314 x.toInt = 314
  rw [lv_osw z0 (by decide), lv_osw z1 (by decide), lv_osw z2 (by decide), lv_osw z3 (by decide), lv_osw z4 (by decide), lv_osw z5 (by decide), lv_osw z6 (by decide), lv_osw z7 (by decide), lv_osw z8 (by decide), lv_osw z9 (by decide), lv_osw z10 (by decide)]
  rfl
set_option maxRecDepth 20000 in
theorem sw10_tin_41 {l : Launch} {G : GG} {d : Nat} {L st : List Value} {h : Hp} {Q : Option Value → Hp → Prop} {x : Int32} (k0 : x = nI 0 → Gw l G d m10_tin 80 L st h Q) (k1 : x = nI 1 → Gw l G d m10_tin 87 L st h Q) (k2 : x = nI 2 → Gw l G d m10_tin 94 L st h Q) (k3 : x = nI 3 → Gw l G d m10_tin 101 L st h Q) (k4 : x = nI 4 → Gw l G d m10_tin 108 L st h Q) (k5 : x = nI 5 → Gw l G d m10_tin 115 L st h Q) (kd : ¬ x = nI 0 → ¬ x = nI 1 → ¬ x = nI 2 → ¬ x = nI 3 → ¬ x = nI 4 → ¬ x = nI 5 → Gw l G d m10_tin 122 L st h Q) : Gw l G d m10_tin 41 L (.int x :: st) h Q := by
  by_cases z0 : x = nI 0
  · exact e_tableIn (tgt := 80) (off := 39) rfl (by rw [z0]; decide) (by rw [z0]; decide) (by rw [z0]; decide) rfl (k0 z0)
  by_cases z1 : x = nI 1
  · exact e_tableIn (tgt := 87) (off := 46) rfl (by rw [z1]; decide) (by rw [z1]; decide) (by rw [z1]; decide) rfl (k1 z1)
  by_cases z2 : x = nI 2
  · exact e_tableIn (tgt := 94) (off := 53) rfl (by rw [z2]; decide) (by rw [z2]; decide) (by rw [z2]; decide) rfl (k2 z2)
  by_cases z3 : x = nI 3
  · exact e_tableIn (tgt := 101) (off := 60) rfl (by rw [z3]; decide) (by rw [z3]; decide) (by rw [z3]; decide) rfl (k3 z3)
  by_cases z4 : x = nI 4
  · exact e_tableIn (tgt := 108) (off := 67) rfl (by rw [z4]; decide) (by rw [z4]; decide) (by rw [z4]; decide) rfl (k4 z4)
  by_cases z5 : x = nI 5
  · exact e_tableIn (tgt := 115) (off := 74) rfl (by rw [z5]; decide) (by rw [z5]; decide) (by rw [z5]; decide) rfl (k5 z5)
  have y0 := lv_neT z0 (show (nI 0).toInt = 0 by decide)
  have y1 := lv_neT z1 (show (nI 1).toInt = 1 by decide)
  have y2 := lv_neT z2 (show (nI 2).toInt = 2 by decide)
  have y3 := lv_neT z3 (show (nI 3).toInt = 3 by decide)
  have y4 := lv_neT z4 (show (nI 4).toInt = 4 by decide)
  have y5 := lv_neT z5 (show (nI 5).toInt = 5 by decide)
  exact e_tableOut (tgt := 122) rfl (by omega) rfl (kd z0 z1 z2 z3 z4 z5)
set_option maxRecDepth 20000 in
theorem sw10_kind_16 {l : Launch} {G : GG} {d : Nat} {L st : List Value} {h : Hp} {Q : Option Value → Hp → Prop} {x : Int32} (k0 : x = nI 0 → Gw l G d m10_kind 48 L st h Q) (k1 : x = nI 1 → Gw l G d m10_kind 55 L st h Q) (k2 : x = nI 2 → Gw l G d m10_kind 62 L st h Q) (k3 : x = nI 3 → Gw l G d m10_kind 69 L st h Q) (kd : ¬ x = nI 0 → ¬ x = nI 1 → ¬ x = nI 2 → ¬ x = nI 3 → Gw l G d m10_kind 76 L st h Q) : Gw l G d m10_kind 16 L (.int x :: st) h Q := by
  by_cases z0 : x = nI 0
  · exact e_tableIn (tgt := 48) (off := 32) rfl (by rw [z0]; decide) (by rw [z0]; decide) (by rw [z0]; decide) rfl (k0 z0)
  by_cases z1 : x = nI 1
  · exact e_tableIn (tgt := 55) (off := 39) rfl (by rw [z1]; decide) (by rw [z1]; decide) (by rw [z1]; decide) rfl (k1 z1)
  by_cases z2 : x = nI 2
  · exact e_tableIn (tgt := 62) (off := 46) rfl (by rw [z2]; decide) (by rw [z2]; decide) (by rw [z2]; decide) rfl (k2 z2)
  by_cases z3 : x = nI 3
  · exact e_tableIn (tgt := 69) (off := 53) rfl (by rw [z3]; decide) (by rw [z3]; decide) (by rw [z3]; decide) rfl (k3 z3)
  have y0 := lv_neT z0 (show (nI 0).toInt = 0 by decide)
  have y1 := lv_neT z1 (show (nI 1).toInt = 1 by decide)
  have y2 := lv_neT z2 (show (nI 2).toInt = 2 by decide)
  have y3 := lv_neT z3 (show (nI 3).toInt = 3 by decide)
  exact e_tableOut (tgt := 76) rfl (by omega) rfl (kd z0 z1 z2 z3)
set_option maxRecDepth 20000 in
theorem sw10_ahead_32 {l : Launch} {G : GG} {d : Nat} {L st : List Value} {h : Hp} {Q : Option Value → Hp → Prop} {x : Int32} (k0 : x = nI 0 → Gw l G d m10_ahead 64 L st h Q) (k1 : x = nI 1 → Gw l G d m10_ahead 78 L st h Q) (k2 : x = nI 2 → Gw l G d m10_ahead 92 L st h Q) (k3 : x = nI 3 → Gw l G d m10_ahead 106 L st h Q) (kd : ¬ x = nI 0 → ¬ x = nI 1 → ¬ x = nI 2 → ¬ x = nI 3 → Gw l G d m10_ahead 120 L st h Q) : Gw l G d m10_ahead 32 L (.int x :: st) h Q := by
  by_cases z0 : x = nI 0
  · exact e_tableIn (tgt := 64) (off := 32) rfl (by rw [z0]; decide) (by rw [z0]; decide) (by rw [z0]; decide) rfl (k0 z0)
  by_cases z1 : x = nI 1
  · exact e_tableIn (tgt := 78) (off := 46) rfl (by rw [z1]; decide) (by rw [z1]; decide) (by rw [z1]; decide) rfl (k1 z1)
  by_cases z2 : x = nI 2
  · exact e_tableIn (tgt := 92) (off := 60) rfl (by rw [z2]; decide) (by rw [z2]; decide) (by rw [z2]; decide) rfl (k2 z2)
  by_cases z3 : x = nI 3
  · exact e_tableIn (tgt := 106) (off := 74) rfl (by rw [z3]; decide) (by rw [z3]; decide) (by rw [z3]; decide) rfl (k3 z3)
  have y0 := lv_neT z0 (show (nI 0).toInt = 0 by decide)
  have y1 := lv_neT z1 (show (nI 1).toInt = 1 by decide)
  have y2 := lv_neT z2 (show (nI 2).toInt = 2 by decide)
  have y3 := lv_neT z3 (show (nI 3).toInt = 3 by decide)
  exact e_tableOut (tgt := 120) rfl (by omega) rfl (kd z0 z1 z2 z3)
set_option maxRecDepth 20000 in
theorem sw10_count_6 {l : Launch} {G : GG} {d : Nat} {L st : List Value} {h : Hp} {Q : Option Value → Hp → Prop} {x : Int32} (k0 : x = nI 0 → Gw l G d m10_count 84 L st h Q) (k1 : x = nI 1 → Gw l G d m10_count 91 L st h Q) (k2 : x = nI 2 → Gw l G d m10_count 98 L st h Q) (k3 : x = nI 3 → Gw l G d m10_count 105 L st h Q) (k4 : x = nI 4 → Gw l G d m10_count 113 L st h Q) (k5 : x = nI 5 → Gw l G d m10_count 120 L st h Q) (k6 : x = nI 6 → Gw l G d m10_count 127 L st h Q) (k7 : x = nI 7 → Gw l G d m10_count 134 L st h Q) (k8 : x = nI 8 → Gw l G d m10_count 141 L st h Q) (k9 : x = nI 9 → Gw l G d m10_count 148 L st h Q) (k10 : x = nI 10 → Gw l G d m10_count 155 L st h Q) (k11 : x = nI 11 → Gw l G d m10_count 162 L st h Q) (k12 : x = nI 12 → Gw l G d m10_count 169 L st h Q) (k13 : x = nI 13 → Gw l G d m10_count 176 L st h Q) (k14 : x = nI 14 → Gw l G d m10_count 181 L st h Q) (k15 : x = nI 15 → Gw l G d m10_count 186 L st h Q) (kd : ¬ x = nI 0 → ¬ x = nI 1 → ¬ x = nI 2 → ¬ x = nI 3 → ¬ x = nI 4 → ¬ x = nI 5 → ¬ x = nI 6 → ¬ x = nI 7 → ¬ x = nI 8 → ¬ x = nI 9 → ¬ x = nI 10 → ¬ x = nI 11 → ¬ x = nI 12 → ¬ x = nI 13 → ¬ x = nI 14 → ¬ x = nI 15 → Gw l G d m10_count 191 L st h Q) : Gw l G d m10_count 6 L (.int x :: st) h Q := by
  by_cases z0 : x = nI 0
  · exact e_tableIn (tgt := 84) (off := 78) rfl (by rw [z0]; decide) (by rw [z0]; decide) (by rw [z0]; decide) rfl (k0 z0)
  by_cases z1 : x = nI 1
  · exact e_tableIn (tgt := 91) (off := 85) rfl (by rw [z1]; decide) (by rw [z1]; decide) (by rw [z1]; decide) rfl (k1 z1)
  by_cases z2 : x = nI 2
  · exact e_tableIn (tgt := 98) (off := 92) rfl (by rw [z2]; decide) (by rw [z2]; decide) (by rw [z2]; decide) rfl (k2 z2)
  by_cases z3 : x = nI 3
  · exact e_tableIn (tgt := 105) (off := 99) rfl (by rw [z3]; decide) (by rw [z3]; decide) (by rw [z3]; decide) rfl (k3 z3)
  by_cases z4 : x = nI 4
  · exact e_tableIn (tgt := 113) (off := 107) rfl (by rw [z4]; decide) (by rw [z4]; decide) (by rw [z4]; decide) rfl (k4 z4)
  by_cases z5 : x = nI 5
  · exact e_tableIn (tgt := 120) (off := 114) rfl (by rw [z5]; decide) (by rw [z5]; decide) (by rw [z5]; decide) rfl (k5 z5)
  by_cases z6 : x = nI 6
  · exact e_tableIn (tgt := 127) (off := 121) rfl (by rw [z6]; decide) (by rw [z6]; decide) (by rw [z6]; decide) rfl (k6 z6)
  by_cases z7 : x = nI 7
  · exact e_tableIn (tgt := 134) (off := 128) rfl (by rw [z7]; decide) (by rw [z7]; decide) (by rw [z7]; decide) rfl (k7 z7)
  by_cases z8 : x = nI 8
  · exact e_tableIn (tgt := 141) (off := 135) rfl (by rw [z8]; decide) (by rw [z8]; decide) (by rw [z8]; decide) rfl (k8 z8)
  by_cases z9 : x = nI 9
  · exact e_tableIn (tgt := 148) (off := 142) rfl (by rw [z9]; decide) (by rw [z9]; decide) (by rw [z9]; decide) rfl (k9 z9)
  by_cases z10 : x = nI 10
  · exact e_tableIn (tgt := 155) (off := 149) rfl (by rw [z10]; decide) (by rw [z10]; decide) (by rw [z10]; decide) rfl (k10 z10)
  by_cases z11 : x = nI 11
  · exact e_tableIn (tgt := 162) (off := 156) rfl (by rw [z11]; decide) (by rw [z11]; decide) (by rw [z11]; decide) rfl (k11 z11)
  by_cases z12 : x = nI 12
  · exact e_tableIn (tgt := 169) (off := 163) rfl (by rw [z12]; decide) (by rw [z12]; decide) (by rw [z12]; decide) rfl (k12 z12)
  by_cases z13 : x = nI 13
  · exact e_tableIn (tgt := 176) (off := 170) rfl (by rw [z13]; decide) (by rw [z13]; decide) (by rw [z13]; decide) rfl (k13 z13)
  by_cases z14 : x = nI 14
  · exact e_tableIn (tgt := 181) (off := 175) rfl (by rw [z14]; decide) (by rw [z14]; decide) (by rw [z14]; decide) rfl (k14 z14)
  by_cases z15 : x = nI 15
  · exact e_tableIn (tgt := 186) (off := 180) rfl (by rw [z15]; decide) (by rw [z15]; decide) (by rw [z15]; decide) rfl (k15 z15)
  have y0 := lv_neT z0 (show (nI 0).toInt = 0 by decide)
  have y1 := lv_neT z1 (show (nI 1).toInt = 1 by decide)
  have y2 := lv_neT z2 (show (nI 2).toInt = 2 by decide)
  have y3 := lv_neT z3 (show (nI 3).toInt = 3 by decide)
  have y4 := lv_neT z4 (show (nI 4).toInt = 4 by decide)
  have y5 := lv_neT z5 (show (nI 5).toInt = 5 by decide)
  have y6 := lv_neT z6 (show (nI 6).toInt = 6 by decide)
  have y7 := lv_neT z7 (show (nI 7).toInt = 7 by decide)
  have y8 := lv_neT z8 (show (nI 8).toInt = 8 by decide)
  have y9 := lv_neT z9 (show (nI 9).toInt = 9 by decide)
  have y10 := lv_neT z10 (show (nI 10).toInt = 10 by decide)
  have y11 := lv_neT z11 (show (nI 11).toInt = 11 by decide)
  have y12 := lv_neT z12 (show (nI 12).toInt = 12 by decide)
  have y13 := lv_neT z13 (show (nI 13).toInt = 13 by decide)
  have y14 := lv_neT z14 (show (nI 14).toInt = 14 by decide)
  have y15 := lv_neT z15 (show (nI 15).toInt = 15 by decide)
  exact e_tableOut (tgt := 191) rfl (by omega) rfl (kd z0 z1 z2 z3 z4 z5 z6 z7 z8 z9 z10 z11 z12 z13 z14 z15)
end
section
/-! ===== Rows: numbers in rows ===== -/
/-- a Rows at a: w columns of m places -/
def isRows (K : Kt) (a w m : Nat) : Prop := (K.2.1 a).1 = 4 ∧ K.1 a 1 = some (a + 1) ∧ K.2.1 (a + 1) = (24, w) ∧ (∀ j, j < w → K.1 (a + 1) j = some (a + 2 + j)) ∧ (∀ j, j < w → K.2.1 (a + 2 + j) = (20, m)) ∧ 0 < w ∧ w ≤ 8 ∧ m ≤ 64
/-- the row at t of column j, 0 if there is none -/
def rAt (I : IM) (a s j : Nat) (t : Int32) : Int32 := if 0 ≤ t ∧ t < nI s then I (a + 2 + j) t.toNatClampNeg else 0
/-- the first place of f that holds x, among n from i on -/
def fnd (f : Nat → Int32) (x : Int32) : Nat → Nat → Int32
  | 0, _ => -1
  | n + 1, i => if f i = x then nI i else fnd f x n (i + 1)
section MRows
variable {l : Launch} {G : GG} {d : Nat} {I : IM} {J : JM} {K : Kt} {Q : Option Value → Hp → Prop} {a w m s : Nat}
theorem c4_isFull (hR : isRows K a w m) (hm : I a 0 = nI m) (hz : I a 2 = nI s) (hs : s ≤ m) : Cp l G d m4_isFull [.ref a] (I, J, K) (.int (bI (decide (m ≤ s)))) := by
  obtain ⟨h4, hp, h24, hpj, h20, hw0, hw8, hm64⟩ := hR
  refine Cp.of ok4_isFull rfl (rfl : argL _ _ = [.ref a]) ?_
  refine e_aload_n rfl rfl ?_
  refine e_getI rfl f4_20 (by assumption) rfl ?_
  refine e_aload_n rfl rfl ?_
  refine e_getI rfl f4_9 (by assumption) rfl ?_
  rw [hm, hz]
  first | refine e_icmp_ltN (tgt := 15) rfl rfl (by omega) (by omega) (fun z => ?_) (fun z => ?_) | refine e_icmp_lt (tgt := 15) rfl rfl (fun z => ?_) (fun z => ?_)
  · refine e_iconst (v := nI 0) rfl ic_0N ?_
    refine e_zreturn rfl rfl ?_ ?_
    · exact Or.inl rfl
    · rw [decide_eq_false (by omega)]; exact ⟨rfl, rfl⟩
  · refine e_iconst (v := nI 1) rfl ic_1N ?_
    refine e_goto (tgt := 16) rfl rfl ?_
    refine e_zreturn rfl rfl ?_ ?_
    · exact Or.inr rfl
    · rw [decide_eq_true (by omega)]; exact ⟨rfl, rfl⟩
theorem c4_has (h4 : (K.2.1 a).1 = 4) (t : Int32) : Cp l G d m4_has [.ref a, .int t] (I, J, K) (.int (bI (decide (0 ≤ t ∧ t < I a 2)))) := by
  refine Cp.of ok4_has rfl (rfl : argL _ _ = [.ref a, .int t]) ?_
  refine e_iload_n rfl rfl ?_
  first | refine e_if_ltN (tgt := 16) rfl rfl (by omega) ?_ | refine e_if_lt (tgt := 16) rfl rfl (fun z => ?_) (fun z => ?_)
  · refine e_iconst (v := nI 0) rfl ic_0N ?_
    refine e_zreturn rfl rfl ?_ ?_
    · exact Or.inl rfl
    · rw [decide_eq_false (fun q => absurd z (Int32.not_lt.mpr q.1))]; exact ⟨rfl, rfl⟩
  · refine e_iload_n rfl rfl ?_
    refine e_aload_n rfl rfl ?_
    refine e_getI rfl f4_20 (by assumption) rfl ?_
    first | refine e_icmp_geN (tgt := 16) rfl rfl (by omega) (by omega) (fun z => ?_) (fun z => ?_) | refine e_icmp_ge (tgt := 16) rfl rfl (fun z => ?_) (fun z => ?_)
    · refine e_iconst (v := nI 0) rfl ic_0N ?_
      refine e_zreturn rfl rfl ?_ ?_
      · exact Or.inl rfl
      · rw [decide_eq_false (fun q => absurd q.2 (Int32.not_lt.mpr (by assumption)))]; exact ⟨rfl, rfl⟩
    · refine e_iconst (v := nI 1) rfl ic_1N ?_
      refine e_goto (tgt := 17) rfl rfl ?_
      refine e_zreturn rfl rfl ?_ ?_
      · exact Or.inr rfl
      · rw [decide_eq_true ⟨Int32.not_lt.mp (by assumption), Int32.not_le.mp (by assumption)⟩]; exact ⟨rfl, rfl⟩
theorem c4_column (hR : isRows K a w m) {j : Nat} (hj : j < w) : Cp l G d m4_column [.ref a, .int (nI j)] (I, J, K) (.ref (a + 2 + j)) := by
  obtain ⟨h4, hp, h24, hpj, h20, hw0, hw8, hm64⟩ := hR
  refine Cp.of ok4_column rfl (rfl : argL _ _ = [.ref a, .int (nI j)]) ?_
  refine e_aload_n rfl rfl ?_
  refine e_getP rfl f4_17 (by assumption) rfl (by assumption) ?_
  refine e_iload_n rfl rfl ?_
  first | refine e_if_ltN (tgt := 21) rfl rfl (by omega) ?_ | refine e_if_lt (tgt := 21) rfl rfl (fun z => ?_) (fun z => ?_)
  refine e_iload_n rfl rfl ?_
  refine e_aload_n rfl rfl ?_
  refine e_getP rfl f4_17 (by assumption) rfl (by assumption) ?_
  refine e_alen (v := nI _) rfl (by assumption) rfl rfl rfl ?_
  first | refine e_icmp_geN (tgt := 21) rfl rfl (by omega) (by omega) (fun z => ?_) (fun z => ?_) | refine e_icmp_ge (tgt := 21) rfl rfl (fun z => ?_) (fun z => ?_)
  · omega
  · have hq := hpj j hj
    refine e_iload_n rfl rfl ?_
    refine e_goto (tgt := 22) rfl rfl ?_
    first | refine e_aaloadN rfl (by assumption) (by omega) (by omega) (by first | assumption | apply_assumption) ?_ | (refine e_aaload rfl (by assumption) ?_ ?_ ?_; rotate_left 2)
    refine e_areturn rfl rfl (Or.inr ⟨_, rfl⟩) ?_
    exact ⟨rfl, rfl⟩
theorem c4_at (hR : isRows K a w m) (hz : I a 2 = nI s) (hs : s ≤ m) {j : Nat} (hj : j < w) (t : Int32) : Cp l G (d + 1) m4_at [.ref a, .int t, .int (nI j)] (I, J, K) (.int (rAt I a s j t)) := by
  have h4 := hR.1
  have h20 := hR.2.2.2.2.1 j hj
  refine Cp.of ok4_at rfl (rfl : argL _ _ = [.ref a, .int t, .int (nI j)]) ?_
  refine e_aload_n rfl rfl ?_
  refine e_iload_n rfl rfl ?_
  refine e_callVp (kd := 4) (M2 := m4_has) rfl v4_23 ok4_has (c4_has h4 t) rfl (by assumption) rfl rfl rfl rfl ?_
  first | refine e_if_eqB (tgt := 18) rfl rfl (fun z => ?_) (fun z => ?_) | refine e_if_eqN (tgt := 18) rfl rfl (by omega) (fun z => ?_) (fun z => ?_) | refine e_if_eq (tgt := 18) rfl rfl (fun z => ?_) (fun z => ?_)
  · refine e_iconst (v := nI 0) rfl ic_0N ?_
    refine e_ireturn rfl rfl ?_
    rw [hz] at z
    exact ⟨by rw [rAt, if_neg (of_decide_eq_false z)]; rfl, rfl⟩
  · rw [hz] at z
    have z := of_decide_eq_true z
    refine e_aload_n rfl rfl ?_
    refine e_iload_n rfl rfl ?_
    refine e_callVp (kd := 4) (M2 := m4_column) rfl v4_27 ok4_column (c4_column hR hj) rfl (by assumption) rfl rfl rfl rfl ?_
    refine e_iload_n rfl rfl ?_
    first | refine e_ialoadN rfl (by assumption) (by omega) (by omega) ?_ | (refine e_iaload rfl (by assumption) ?_ ?_; rotate_left)
    refine e_goto (tgt := 19) rfl rfl ?_
    refine e_ireturn rfl rfl ?_
    · exact ⟨by rw [rAt, if_pos z], rfl⟩
    · obtain ⟨i, hi, rfl⟩ := nI_of (Int32.not_lt.mpr z.1)
      have h64 := hR.2.2.2.2.2.2.2
      exact vp_in_nI (Nat.lt_of_lt_of_le ((nI_ltI hi (by omega)).mp z.2) hs) (by omega)
theorem c4_add (hR : isRows K a w m) (hm : I a 0 = nI m) (hz : I a 2 = nI s) (hs : s ≤ m) : Cw l G (d + 1) m4_add [.ref a] (I, J, K) (fun r h' => r = none ∧ h' = (if m ≤ s then I else u2 I a 2 (nI (s + 1)), J, K)) := by
  have h4 := hR.1
  refine Cw.of ok4_add rfl (rfl : argL _ _ = [.ref a]) ?_
  refine e_aload_n rfl rfl ?_
  refine e_callVp (kd := 4) (M2 := m4_isFull) rfl v4_31 ok4_isFull (c4_isFull hR hm hz hs) rfl (by assumption) rfl rfl rfl rfl ?_
  first | refine e_if_neB (tgt := 17) rfl rfl (fun z => ?_) (fun z => ?_) | refine e_if_neN (tgt := 17) rfl rfl (by omega) (fun z => ?_) (fun z => ?_) | refine e_if_ne (tgt := 17) rfl rfl (fun z => ?_) (fun z => ?_)
  · have z := of_decide_eq_true z
    refine e_return rfl rfl ?_
    rw [if_pos z]
    exact ⟨rfl, rfl⟩
  · have z := of_decide_eq_false z
    refine e_aload_n rfl rfl ?_
    refine e_dup rfl rfl ?_
    refine e_getI rfl f4_20 (by assumption) rfl ?_
    rw [hz]
    refine e_iconst (v := nI 1) rfl ic_1N ?_
    first | refine e_iaddN rfl ?_ | refine e_iadd rfl ?_
    refine e_putI rfl f4_20 (by assumption) rfl rfl ?_
    refine e_return rfl rfl ?_
    rw [if_neg z]
    exact ⟨rfl, rfl⟩
theorem c4_set (hR : isRows K a w m) (hz : I a 2 = nI s) (hs : s ≤ m) {j : Nat} (hj : j < w) (v : Int32) : Cw l G (d + 1) m4_set [.ref a, .int (nI j), .int v] (I, J, K) (fun r h' => r = none ∧ h' = (if s = 0 then I else u2 I (a + 2 + j) (s - 1) v, J, K)) := by
  have h4 := hR.1
  have h20 := hR.2.2.2.2.1 j hj
  have h64 := hR.2.2.2.2.2.2.2
  refine Cw.of ok4_set rfl (rfl : argL _ _ = [.ref a, .int (nI j), .int v]) ?_
  refine e_aload_n rfl rfl ?_
  refine e_getI rfl f4_20 (by assumption) rfl ?_
  rw [hz]
  first | refine e_if_leN (tgt := 20) rfl rfl (by omega) (fun z => ?_) (fun z => ?_) | refine e_if_le (tgt := 20) rfl rfl (fun z => ?_) (fun z => ?_)
  · refine e_return rfl rfl ?_
    rw [if_pos z]
    exact ⟨rfl, rfl⟩
  · refine e_aload_n rfl rfl ?_
    refine e_iload_n rfl rfl ?_
    refine e_callVp (kd := 4) (M2 := m4_column) rfl v4_27 ok4_column (c4_column hR hj) rfl (by assumption) rfl rfl rfl rfl ?_
    refine e_aload_n rfl rfl ?_
    refine e_getI rfl f4_20 (by assumption) rfl ?_
    rw [hz]
    refine e_iconst (v := nI 1) rfl ic_1N ?_
    first | refine e_isubN rfl (by omega) ?_ | refine e_isub rfl ?_
    refine e_iload_n rfl rfl ?_
    first | refine e_iastoreN rfl (by assumption) (by omega) (by omega) ?_ | (refine e_iastore rfl (by assumption) ?_ ?_; rotate_left)
    refine e_return rfl rfl ?_
    rw [if_neg (by omega)]
    exact ⟨rfl, rfl⟩
theorem rowOf_loop (h4 : (K.2.1 a).1 = 4) (h20 : K.2.1 (a + 2) = (20, m)) (hz : I a 2 = nI s) (hs : s ≤ m) (hm : m ≤ 64) (x : Int32) : ∀ k i, i + k = s → Q (some (.int (fnd (I (a + 2)) x k i))) (I, J, K) → Gw l G d m4_rowOf 8 [.ref a, .int x, .ref (a + 2), .int (nI i)] [] (I, J, K) Q := by
  intro k
  induction k with
  | zero =>
    intro i hi hq
    refine e_iload_n rfl rfl ?_
    refine e_aload_n rfl rfl ?_
    refine e_getI rfl f4_20 (by assumption) rfl ?_
    rw [hz]
    first | refine e_icmp_geN (tgt := 31) rfl rfl (by omega) (by omega) (fun z => ?_) (fun z => ?_) | refine e_icmp_ge (tgt := 31) rfl rfl (fun z => ?_) (fun z => ?_)
    · refine e_iconst rfl ic_m1 ?_
      refine e_ireturn rfl rfl ?_
      exact hq
    · omega
  | succ k ih =>
    intro i hi hq
    refine e_iload_n rfl rfl ?_
    refine e_aload_n rfl rfl ?_
    refine e_getI rfl f4_20 (by assumption) rfl ?_
    rw [hz]
    first | refine e_icmp_geN (tgt := 31) rfl rfl (by omega) (by omega) (fun z => ?_) (fun z => ?_) | refine e_icmp_ge (tgt := 31) rfl rfl (fun z => ?_) (fun z => ?_)
    · omega
    · refine e_aload_n rfl rfl ?_
      refine e_iload_n rfl rfl ?_
      first | refine e_ialoadN rfl (by assumption) (by omega) (by omega) ?_ | (refine e_iaload rfl (by assumption) ?_ ?_; rotate_left)
      refine e_iload_n rfl rfl ?_
      first | refine e_icmp_neN (tgt := 25) rfl rfl (by omega) (by omega) (fun z => ?_) (fun z => ?_) | refine e_icmp_ne (tgt := 25) rfl rfl (fun z => ?_) (fun z => ?_)
      · first | refine e_inc3 rfl rfl rfl (incN1 _) ?_ | refine e_inc3 rfl rfl rfl rfl ?_
        refine e_goto (tgt := 8) rfl rfl ?_
        refine ih (i + 1) (by omega) ?_
        rw [fnd, if_neg (by assumption)] at hq
        exact hq
      · refine e_iload_n rfl rfl ?_
        refine e_ireturn rfl rfl ?_
        rw [fnd, if_pos (by assumption)] at hq
        exact hq
theorem c4_rowOf (hR : isRows K a w m) (hz : I a 2 = nI s) (hs : s ≤ m) (x : Int32) : Cp l G (d + 1) m4_rowOf [.ref a, .int x] (I, J, K) (.int (fnd (I (a + 2)) x s 0)) := by
  have h4 := hR.1
  have h20 := hR.2.2.2.2.1 0 hR.2.2.2.2.2.1
  have h64 := hR.2.2.2.2.2.2.2
  refine Cp.of ok4_rowOf rfl (rfl : argL _ _ = [.ref a, .int x, .null, .null]) ?_
  refine e_aload_n rfl rfl ?_
  refine e_iconst (v := nI 0) rfl ic_0N ?_
  refine e_callVp (kd := 4) (M2 := m4_column) rfl v4_27 ok4_column (c4_column hR hR.2.2.2.2.2.1) rfl (by assumption) rfl rfl rfl rfl ?_
  refine e_ast2 rfl rfl rfl ?_
  refine e_iconst (v := nI 0) rfl ic_0N ?_
  refine e_ist3 rfl rfl rfl ?_
  exact rowOf_loop h4 h20 hz hs h64 x s 0 (by omega) ⟨rfl, rfl⟩
/-- the columns from j on move one row up -/
theorem dropFirst_loop (hR : isRows K a w m) (hs : s + 1 ≤ m) : ∀ k j I, j + k = w → I a 2 = nI s → (∀ I', (∀ b, (b < a + 2 + j ∨ a + 1 + w < b) → I' b = I b) → (∀ c, j ≤ c → c < w → ∀ i, i < s → I' (a + 2 + c) i = I (a + 2 + c) (i + 1)) → Q none (I', J, K)) → ∀ v, Gw l G (d + 1) m4_dropFirst 27 [.ref a, .ref (a + 1), .int (nI w), .int (nI j), v] [] (I, J, K) Q := by
  obtain ⟨h4, hp, h24, hpj, h20, hw0, hw8, hm64⟩ := hR
  intro k
  induction k with
  | zero =>
    intro j I hj hz hq v
    refine e_iload_n rfl rfl ?_
    refine e_iload_n rfl rfl ?_
    first | refine e_icmp_geN (tgt := 56) rfl rfl (by omega) (by omega) (fun z => ?_) (fun z => ?_) | refine e_icmp_ge (tgt := 56) rfl rfl (fun z => ?_) (fun z => ?_)
    · refine e_return rfl rfl ?_
      exact hq I (fun _ _ => rfl) (fun c h1 h2 => by omega)
    · omega
  | succ k ih =>
    intro j I hj hz hq v
    refine e_iload_n rfl rfl ?_
    refine e_iload_n rfl rfl ?_
    first | refine e_icmp_geN (tgt := 56) rfl rfl (by omega) (by omega) (fun z => ?_) (fun z => ?_) | refine e_icmp_ge (tgt := 56) rfl rfl (fun z => ?_) (fun z => ?_)
    · omega
    · have hq0 := hpj j (by omega)
      have h20j := h20 j (by omega)
      have c0 : (nI 0).toNatClampNeg = 0 := nI_clamp (by omega)
      have c1 : (nI 1).toNatClampNeg = 1 := nI_clamp (by omega)
      have cs : (nI s).toNatClampNeg = s := nI_clamp (by omega)
      refine e_aload_n rfl rfl ?_
      refine e_iload_n rfl rfl ?_
      first | refine e_aaloadN rfl (by assumption) (by omega) (by omega) (by first | assumption | apply_assumption) ?_ | (refine e_aaload rfl (by assumption) ?_ ?_ ?_; rotate_left 2)
      refine e_ast4 rfl rfl rfl ?_
      refine e_aload rfl rfl ?_
      refine e_iconst (v := nI 1) rfl ic_1N ?_
      refine e_aload rfl rfl ?_
      refine e_iconst (v := nI 0) rfl ic_0N ?_
      refine e_aload_n rfl rfl ?_
      refine e_getI rfl f4_20 (by assumption) rfl ?_
      rw [hz]
      refine e_copy rfl v4_35 (by assumption) (by assumption) (nI_pos (by omega)) (nI_pos (by omega)) (nI_pos (by omega)) (by rw [c1, cs]; omega) (by rw [c0, cs]; omega) rfl ?_
      first | refine e_inc3 rfl rfl rfl (incN1 _) ?_ | refine e_inc3 rfl rfl rfl rfl ?_
      refine e_goto (tgt := 27) rfl rfl ?_
      rw [c0, c1, cs]
      refine ih (j + 1) _ (by omega) ?_ ?_ _
      · rw [uR_ne _ _ (by omega)]
        exact hz
      · intro I' e1 e2
        refine hq I' (fun b hb => ?_) (fun c h1 h2 i hi => ?_)
        · rw [e1 b (by omega), uR_ne _ _ (by omega)]
        · by_cases hc : c = j
          · subst hc
            rw [e1 (a + 2 + c) (by omega), uR_at, pk_cpy_in (by omega) (by omega)]
            congr 1
            omega
          · rw [e2 c (by omega) h2 i hi, uR_ne _ _ (by omega)]
theorem c4_dropFirst (hR : isRows K a w m) (hz : I a 2 = nI (s + 1)) (hs : s + 1 ≤ m) : Cw l G (d + 1) m4_dropFirst [.ref a] (I, J, K) (fun r h' => r = none ∧ ∃ I', h' = (I', J, K) ∧ I' a = u2 I a 2 (nI s) a ∧ (∀ b, (b < a ∨ a + 1 + w < b) → I' b = I b) ∧ ∀ c, c < w → ∀ i, i < s → I' (a + 2 + c) i = I (a + 2 + c) (i + 1)) := by
  have h4 := hR.1
  have hp := hR.2.1
  have h24 := hR.2.2.1
  have h64 := hR.2.2.2.2.2.2.2
  refine Cw.of ok4_dropFirst rfl (rfl : argL _ _ = [.ref a, .null, .null, .null, .null]) ?_
  refine e_aload_n rfl rfl ?_
  refine e_getI rfl f4_20 (by assumption) rfl ?_
  rw [hz]
  first | refine e_if_leN (tgt := 56) rfl rfl (by omega) (fun z => ?_) (fun z => ?_) | refine e_if_le (tgt := 56) rfl rfl (fun z => ?_) (fun z => ?_)
  · omega
  · refine e_aload_n rfl rfl ?_
    refine e_dup rfl rfl ?_
    refine e_getI rfl f4_20 (by assumption) rfl ?_
    rw [hz]
    refine e_iconst (v := nI 1) rfl ic_1N ?_
    first | refine e_isubN rfl (by omega) ?_ | refine e_isub rfl ?_
    refine e_putI rfl f4_20 (by assumption) rfl rfl ?_
    refine e_aload_n rfl rfl ?_
    refine e_getP rfl f4_17 (by assumption) rfl (by assumption) ?_
    refine e_ast1 rfl rfl rfl ?_
    refine e_aload_n rfl rfl ?_
    refine e_alen (v := nI _) rfl (by assumption) rfl rfl rfl ?_
    refine e_ist2 rfl rfl rfl ?_
    refine e_iconst (v := nI 0) rfl ic_0N ?_
    refine e_ist3 rfl rfl rfl ?_
    refine dropFirst_loop hR hs w 0 _ (by omega) (u2_at _ _ _ _) ?_ _
    intro I' e1 e2
    refine ⟨rfl, I', rfl, e1 a (by omega), fun b hb => ?_, fun c hc i hi => ?_⟩
    · rw [e1 b (by omega), u2_row _ _ (by omega)]
    · rw [e2 c (by omega) hc i hi, u2_ne _ _ (by omega)]
theorem takeR_loop {o : Nat} (hR : isRows K a w m) (hO : isRows K o w m) (hd : a + 2 + w ≤ o ∨ o + 2 + w ≤ a) (hs : s ≤ m) : ∀ k j I, j + k = w → I a 2 = nI s → (∀ I', (∀ b, (b < a + 2 + j ∨ a + 1 + w < b) → I' b = I b) → (∀ c, j ≤ c → c < w → ∀ i, i < s → I' (a + 2 + c) i = I (o + 2 + c) i) → Q none (I', J, K)) → Gw l G (d + 1) m4_take 17 [.ref a, .ref o, .int (nI j)] [] (I, J, K) Q := by
  obtain ⟨h4, hp, h24, hpj, h20, hw0, hw8, hm64⟩ := hR
  intro k
  induction k with
  | zero =>
    intro j I hj hz hq
    refine e_iload_n rfl rfl ?_
    refine e_aload_n rfl rfl ?_
    refine e_getP rfl f4_17 (by assumption) rfl (by assumption) ?_
    refine e_alen (v := nI _) rfl (by assumption) rfl rfl rfl ?_
    first | refine e_icmp_geN (tgt := 52) rfl rfl (by omega) (by omega) (fun z => ?_) (fun z => ?_) | refine e_icmp_ge (tgt := 52) rfl rfl (fun z => ?_) (fun z => ?_)
    · refine e_return rfl rfl ?_
      exact hq I (fun _ _ => rfl) (fun c h1 h2 => by omega)
    · omega
  | succ k ih =>
    intro j I hj hz hq
    refine e_iload_n rfl rfl ?_
    refine e_aload_n rfl rfl ?_
    refine e_getP rfl f4_17 (by assumption) rfl (by assumption) ?_
    refine e_alen (v := nI _) rfl (by assumption) rfl rfl rfl ?_
    first | refine e_icmp_geN (tgt := 52) rfl rfl (by omega) (by omega) (fun z => ?_) (fun z => ?_) | refine e_icmp_ge (tgt := 52) rfl rfl (fun z => ?_) (fun z => ?_)
    · omega
    · have hq0 := hpj j (by omega)
      have h20j := h20 j (by omega)
      have h20o := hO.2.2.2.2.1 j (by omega)
      have h4o := hO.1
      have c0 : (nI 0).toNatClampNeg = 0 := nI_clamp (by omega)
      have cs : (nI s).toNatClampNeg = s := nI_clamp (by omega)
      refine e_aload_n rfl rfl ?_
      refine e_iload_n rfl rfl ?_
      refine e_callVp (kd := 4) (M2 := m4_column) rfl v4_27 ok4_column (c4_column hO (by omega)) rfl (by assumption) rfl rfl rfl rfl ?_
      refine e_iconst (v := nI 0) rfl ic_0N ?_
      refine e_aload_n rfl rfl ?_
      refine e_getP rfl f4_17 (by assumption) rfl (by assumption) ?_
      refine e_iload_n rfl rfl ?_
      first | refine e_aaloadN rfl (by assumption) (by omega) (by omega) (by first | assumption | apply_assumption) ?_ | (refine e_aaload rfl (by assumption) ?_ ?_ ?_; rotate_left 2)
      refine e_iconst (v := nI 0) rfl ic_0N ?_
      refine e_aload_n rfl rfl ?_
      refine e_getI rfl f4_20 (by assumption) rfl ?_
      rw [hz]
      refine e_copy rfl v4_35 (by assumption) (by assumption) (nI_pos (by omega)) (nI_pos (by omega)) (nI_pos (by omega)) (by rw [c0, cs]; omega) (by rw [c0, cs]; omega) rfl ?_
      first | refine e_inc2 rfl rfl rfl (incN1 _) ?_ | refine e_inc2 rfl rfl rfl rfl ?_
      refine e_goto (tgt := 17) rfl rfl ?_
      rw [c0, cs]
      refine ih (j + 1) _ (by omega) ?_ ?_
      · rw [uR_ne _ _ (by omega)]
        exact hz
      · intro I' e1 e2
        refine hq I' (fun b hb => ?_) (fun c h1 h2 i hi => ?_)
        · rw [e1 b (by omega), uR_ne _ _ (by omega)]
        · by_cases hc : c = j
          · subst hc
            rw [e1 (a + 2 + c) (by omega), uR_at, pk_cpy_in (by omega) (by omega)]
            congr 1
            omega
          · rw [e2 c (by omega) h2 i hi, uR_ne _ _ (by omega)]
theorem c4_take {o : Nat} (hR : isRows K a w m) (hO : isRows K o w m) (hd : a + 2 + w ≤ o ∨ o + 2 + w ≤ a) (hm : I a 0 = nI m) (hz : I o 2 = nI s) (hs : s ≤ m) : Cw l G (d + 1) m4_take [.ref a, .ref o] (I, J, K) (fun r h' => r = none ∧ ∃ I', h' = (I', J, K) ∧ I' a = u2 I a 2 (nI s) a ∧ (∀ b, (b < a ∨ a + 1 + w < b) → I' b = I b) ∧ ∀ c, c < w → ∀ i, i < s → I' (a + 2 + c) i = I (o + 2 + c) i) := by
  have h4 := hR.1
  have h4o := hO.1
  have h64 := hR.2.2.2.2.2.2.2
  refine Cw.of ok4_take rfl (rfl : argL _ _ = [.ref a, .ref o, .null]) ?_
  refine e_aload_n rfl rfl ?_
  refine e_aload_n rfl rfl ?_
  refine e_getI rfl f4_9 (by assumption) rfl ?_
  refine e_aload_n rfl rfl ?_
  refine e_getI rfl f4_20 (by assumption) rfl ?_
  refine e_min rfl v4_41 rfl ?_
  rw [hm, hz]
  have hmin : (if nI s < nI m then nI s else nI m) = nI s := by
    by_cases e : s < m
    · rw [if_pos ((nI_ltI (by omega) (by omega)).mpr e)]
    · rw [if_neg (fun q => e ((nI_ltI (by omega) (by omega)).mp q)), show m = s by omega]
  rw [hmin]
  refine e_putI rfl f4_20 (by assumption) rfl rfl ?_
  refine e_iconst (v := nI 0) rfl ic_0N ?_
  refine e_ist2 rfl rfl rfl ?_
  refine takeR_loop hR hO hd hs w 0 _ (by omega) (u2_at _ _ _ _) ?_
  intro I' e1 e2
  refine ⟨rfl, I', rfl, e1 a (by omega), fun b hb => ?_, fun c hc i hi => ?_⟩
  · rw [e1 b (by omega), u2_row _ _ (by omega)]
  · rw [e2 c (by omega) hc i hi, u2_ne _ _ (by omega)]
end MRows
end
section
/-! ===== State: how the nation stands ===== -/
/-- how many of k from i on are so -/
def cF (f : Nat → Bool) : Nat → Nat → Nat
  | _, 0 => 0
  | i, k + 1 => (if f i = true then 1 else 0) + cF f (i + 1) k
def cnt (f : Nat → Bool) (n : Nat) : Nat := cF f 0 n
theorem cF_le (f : Nat → Bool) : ∀ k i, cF f i k ≤ k
  | 0, _ => Nat.le_refl 0
  | k + 1, i => by
    have := cF_le f k (i + 1)
    unfold cF
    split <;> omega
def isState (K : Kt) (s : Nat) : Prop := (K.2.1 s).1 = 6 ∧ K.1 s 0 = some (s + 1) ∧ K.1 s 1 = some (s + 2) ∧ K.1 s 2 = some (s + 3) ∧ K.1 s 3 = some (s + 4) ∧ K.1 s 4 = some (s + 5) ∧ K.1 s 5 = some (s + 6) ∧ K.1 s 6 = some (s + 7) ∧
  K.2.1 (s + 1) = (20, 8) ∧ K.2.1 (s + 2) = (20, 8) ∧ K.2.1 (s + 3) = (20, 8) ∧ K.2.1 (s + 4) = (20, 8) ∧ K.2.1 (s + 5) = (20, 8) ∧ K.2.1 (s + 6) = (20, 8) ∧ K.2.1 (s + 7) = (20, 8)
/-- t is one of n -/
def inN (n : Nat) (t : Int32) : Bool := decide (0 ≤ t ∧ t < nI n)
theorem inN_nI {n j : Nat} (hn : n < 2 ^ 31) (hj : j < 2 ^ 31) : inN n (nI j) = decide (j < n) := by
  unfold inN
  congr 1
  exact propext ⟨fun q => (nI_ltI hj hn).mp q.2, fun q => ⟨nI_pos' hj, (nI_ltI hj hn).mpr q⟩⟩
theorem inN_of {n : Nat} {t : Int32} (hn : n < 2 ^ 31) (h : inN n t = true) : ∃ j, j < n ∧ t = nI j := by
  obtain ⟨h1, h2⟩ := of_decide_eq_true h
  obtain ⟨j, hj, rfl⟩ := nI_of (Int32.not_lt.mpr h1)
  exact ⟨j, (nI_ltI hj hn).mp h2, rfl⟩
/-- u is CLOSED and lies above t in its STACK -/
def abv (I : IM) (s t u : Nat) : Bool := decide (I (s + 1) u = 0) && (decide (I (s + 3) u = I (s + 3) t) && decide (I (s + 4) t < I (s + 4) u))
section MState
variable {l : Launch} {G : GG} {d : Nat} {I : IM} {J : JM} {K : Kt} {Q : Option Value → Hp → Prop} {s n : Nat}
theorem c6_has (h6 : (K.2.1 s).1 = 6) (hn : I s 7 = nI n) (t : Int32) : Cp l G d m6_has [.ref s, .int t] (I, J, K) (.int (bI (inN n t))) := by
  refine Cp.of ok6_has rfl (rfl : argL _ _ = [.ref s, .int t]) ?_
  refine e_iload_n rfl rfl ?_
  first | refine e_if_ltN (tgt := 16) rfl rfl (by omega) ?_ | refine e_if_lt (tgt := 16) rfl rfl (fun z => ?_) (fun z => ?_)
  · refine e_iconst (v := nI 0) rfl ic_0N ?_
    refine e_zreturn rfl rfl ?_ ?_
    · exact Or.inl rfl
    · rw [inN, decide_eq_false (fun q => absurd z (Int32.not_lt.mpr q.1))]; exact ⟨rfl, rfl⟩
  · refine e_iload_n rfl rfl ?_
    refine e_aload_n rfl rfl ?_
    refine e_getI rfl f6_51 (by assumption) rfl ?_
    rw [hn]
    first | refine e_icmp_geN (tgt := 16) rfl rfl (by omega) (by omega) (fun z => ?_) (fun z => ?_) | refine e_icmp_ge (tgt := 16) rfl rfl (fun z => ?_) (fun z => ?_)
    · refine e_iconst (v := nI 0) rfl ic_0N ?_
      refine e_zreturn rfl rfl ?_ ?_
      · exact Or.inl rfl
      · rw [inN, decide_eq_false (fun q => absurd q.2 (Int32.not_lt.mpr (by assumption)))]; exact ⟨rfl, rfl⟩
    · refine e_iconst (v := nI 1) rfl ic_1N ?_
      refine e_goto (tgt := 17) rfl rfl ?_
      refine e_zreturn rfl rfl ?_ ?_
      · exact Or.inr rfl
      · rw [inN, decide_eq_true ⟨Int32.not_lt.mp (by assumption), Int32.not_le.mp (by assumption)⟩]; exact ⟨rfl, rfl⟩
theorem c6_isClosed (hS : isState K s) (hn : I s 7 = nI n) (h8 : n ≤ 8) (t : Int32) : Cp l G (d + 1) m6_isClosed [.ref s, .int t] (I, J, K) (.int (bI (inN n t && decide (I (s + 1) t.toNatClampNeg = 0)))) := by
  obtain ⟨h6, p0, p1, p2, p3, p4, p5, p6, a1, a2, a3, a4, a5, a6, a7⟩ := hS
  refine Cp.of ok6_isClosed rfl (rfl : argL _ _ = [.ref s, .int t]) ?_
  refine e_aload_n rfl rfl ?_
  refine e_iload_n rfl rfl ?_
  refine e_callVp (kd := 6) (M2 := m6_has) rfl v6_88 ok6_has (c6_has h6 hn t) rfl (by assumption) rfl rfl rfl rfl ?_
  first | refine e_if_eqB (tgt := 21) rfl rfl (fun z => ?_) (fun z => ?_) | refine e_if_eqN (tgt := 21) rfl rfl (by omega) (fun z => ?_) (fun z => ?_) | refine e_if_eq (tgt := 21) rfl rfl (fun z => ?_) (fun z => ?_)
  · refine e_iconst (v := nI 0) rfl ic_0N ?_
    refine e_zreturn rfl rfl ?_ ?_
    · exact Or.inl rfl
    · rw [z]; exact ⟨rfl, rfl⟩
  · obtain ⟨j, hj, rfl⟩ := inN_of (by omega) z
    rw [nI_clamp (by omega), z]
    refine e_aload_n rfl rfl ?_
    refine e_getP rfl f6_9 (by assumption) rfl (by assumption) ?_
    refine e_iload_n rfl rfl ?_
    first | refine e_ialoadN rfl (by assumption) (by omega) (by omega) ?_ | (refine e_iaload rfl (by assumption) ?_ ?_; rotate_left)
    first | refine e_if_neB (tgt := 21) rfl rfl (fun z => ?_) (fun z => ?_) | refine e_if_neN (tgt := 21) rfl rfl (by omega) (fun z => ?_) (fun z => ?_) | refine e_if_ne (tgt := 21) rfl rfl (fun z => ?_) (fun z => ?_)
    · refine e_iconst (v := nI 0) rfl ic_0N ?_
      refine e_zreturn rfl rfl ?_ ?_
      · exact Or.inl rfl
      · rw [decide_eq_false (by assumption)]; exact ⟨rfl, rfl⟩
    · refine e_iconst (v := nI 1) rfl ic_1N ?_
      refine e_goto (tgt := 22) rfl rfl ?_
      refine e_zreturn rfl rfl ?_ ?_
      · exact Or.inr rfl
      · rw [decide_eq_true (by assumption)]; exact ⟨rfl, rfl⟩
theorem closedAbove_loop (hS : isState K s) (hn : I s 7 = nI n) (h8 : n ≤ 8) {t : Nat} (ht : t < n) : ∀ k i many, i + k = n → many ≤ i → Q (some (.int (nI (many + cF (abv I s t) i k)))) (I, J, K) → Gw l G d m6_closedAbove 14 [.ref s, .int (nI t), .int (nI many), .int (nI i)] [] (I, J, K) Q := by
  obtain ⟨h6, p0, p1, p2, p3, p4, p5, p6, a1, a2, a3, a4, a5, a6, a7⟩ := hS
  intro k
  induction k with
  | zero =>
    intro i many hi hm hq
    refine e_iload_n rfl rfl ?_
    refine e_aload_n rfl rfl ?_
    refine e_getI rfl f6_51 (by assumption) rfl ?_
    rw [hn]
    first | refine e_icmp_geN (tgt := 70) rfl rfl (by omega) (by omega) (fun z => ?_) (fun z => ?_) | refine e_icmp_ge (tgt := 70) rfl rfl (fun z => ?_) (fun z => ?_)
    · refine e_iload_n rfl rfl ?_
      refine e_ireturn rfl rfl ?_
      exact hq
    · omega
  | succ k ih =>
    intro i many hi hm hq
    refine e_iload_n rfl rfl ?_
    refine e_aload_n rfl rfl ?_
    refine e_getI rfl f6_51 (by assumption) rfl ?_
    rw [hn]
    first | refine e_icmp_geN (tgt := 70) rfl rfl (by omega) (by omega) (fun z => ?_) (fun z => ?_) | refine e_icmp_ge (tgt := 70) rfl rfl (fun z => ?_) (fun z => ?_)
    · omega
    · refine e_aload_n rfl rfl ?_
      refine e_getP rfl f6_9 (by assumption) rfl (by assumption) ?_
      refine e_iload_n rfl rfl ?_
      first | refine e_ialoadN rfl (by assumption) (by omega) (by omega) ?_ | (refine e_iaload rfl (by assumption) ?_ ?_; rotate_left)
      first | refine e_if_neB (tgt := 64) rfl rfl (fun z => ?_) (fun z => ?_) | refine e_if_neN (tgt := 64) rfl rfl (by omega) (fun z => ?_) (fun z => ?_) | refine e_if_ne (tgt := 64) rfl rfl (fun z => ?_) (fun z => ?_)
      · first | refine e_inc3 rfl rfl rfl (incN1 _) ?_ | refine e_inc3 rfl rfl rfl rfl ?_
        refine e_goto (tgt := 14) rfl rfl ?_
        refine ih (i + 1) many (by omega) (by omega) ?_
        rw [cF, abv, decide_eq_false (by assumption)] at hq
        simpa using hq
      · refine e_aload_n rfl rfl ?_
        refine e_getP rfl f6_18 (by assumption) rfl (by assumption) ?_
        refine e_iload_n rfl rfl ?_
        first | refine e_ialoadN rfl (by assumption) (by omega) (by omega) ?_ | (refine e_iaload rfl (by assumption) ?_ ?_; rotate_left)
        refine e_aload_n rfl rfl ?_
        refine e_getP rfl f6_18 (by assumption) rfl (by assumption) ?_
        refine e_iload_n rfl rfl ?_
        first | refine e_ialoadN rfl (by assumption) (by omega) (by omega) ?_ | (refine e_iaload rfl (by assumption) ?_ ?_; rotate_left)
        first | refine e_icmp_neN (tgt := 64) rfl rfl (by omega) (by omega) (fun z => ?_) (fun z => ?_) | refine e_icmp_ne (tgt := 64) rfl rfl (fun z => ?_) (fun z => ?_)
        · first | refine e_inc3 rfl rfl rfl (incN1 _) ?_ | refine e_inc3 rfl rfl rfl rfl ?_
          refine e_goto (tgt := 14) rfl rfl ?_
          refine ih (i + 1) many (by omega) (by omega) ?_
          rw [cF, abv, decide_eq_false (p := I (s + 3) i = _) (by assumption)] at hq
          simpa using hq
        · refine e_aload_n rfl rfl ?_
          refine e_getP rfl f6_21 (by assumption) rfl (by assumption) ?_
          refine e_iload_n rfl rfl ?_
          first | refine e_ialoadN rfl (by assumption) (by omega) (by omega) ?_ | (refine e_iaload rfl (by assumption) ?_ ?_; rotate_left)
          refine e_aload_n rfl rfl ?_
          refine e_getP rfl f6_21 (by assumption) rfl (by assumption) ?_
          refine e_iload_n rfl rfl ?_
          first | refine e_ialoadN rfl (by assumption) (by omega) (by omega) ?_ | (refine e_iaload rfl (by assumption) ?_ ?_; rotate_left)
          first | refine e_icmp_leN (tgt := 64) rfl rfl (by omega) (by omega) (fun z => ?_) (fun z => ?_) | refine e_icmp_le (tgt := 64) rfl rfl (fun z => ?_) (fun z => ?_)
          · first | refine e_inc3 rfl rfl rfl (incN1 _) ?_ | refine e_inc3 rfl rfl rfl rfl ?_
            refine e_goto (tgt := 14) rfl rfl ?_
            refine ih (i + 1) many (by omega) (by omega) ?_
            rw [cF, abv, decide_eq_false (p := I (s + 4) t < _) (Int32.not_lt.mpr (by assumption))] at hq
            simpa using hq
          · first | refine e_inc2 rfl rfl rfl (incN1 _) ?_ | refine e_inc2 rfl rfl rfl rfl ?_
            first | refine e_inc3 rfl rfl rfl (incN1 _) ?_ | refine e_inc3 rfl rfl rfl rfl ?_
            refine e_goto (tgt := 14) rfl rfl ?_
            refine ih (i + 1) (many + 1) (by omega) (by omega) ?_
            rw [cF, abv, decide_eq_true (p := I (s + 1) i = 0) (by assumption), decide_eq_true (p := I (s + 3) i = _) (by assumption), decide_eq_true (p := I (s + 4) t < _) (Int32.not_le.mp (by assumption))] at hq
            simpa [Nat.add_assoc] using hq
theorem c6_closedAbove (hS : isState K s) (hn : I s 7 = nI n) (h8 : n ≤ 8) {t : Nat} (ht : t < n) : Cp l G (d + 1) m6_closedAbove [.ref s, .int (nI t)] (I, J, K) (.int (nI (cnt (abv I s t) n))) := by
  have h6 := hS.1
  refine Cp.of ok6_closedAbove rfl (rfl : argL _ _ = [.ref s, .int (nI t), .null, .null]) ?_
  refine e_aload_n rfl rfl ?_
  refine e_iload_n rfl rfl ?_
  refine e_callVp (kd := 6) (M2 := m6_has) rfl v6_88 ok6_has (c6_has h6 hn (nI t)) rfl (by assumption) rfl rfl rfl rfl ?_
  first | refine e_if_neB (tgt := 10) rfl rfl (fun z => ?_) (fun z => ?_) | refine e_if_neN (tgt := 10) rfl rfl (by omega) (fun z => ?_) (fun z => ?_) | refine e_if_ne (tgt := 10) rfl rfl (fun z => ?_) (fun z => ?_)
  · refine e_iconst (v := nI 0) rfl ic_0N ?_
    refine e_ist2 rfl rfl rfl ?_
    refine e_iconst (v := nI 0) rfl ic_0N ?_
    refine e_ist3 rfl rfl rfl ?_
    exact closedAbove_loop hS hn h8 ht n 0 0 (by omega) (by omega) ⟨by rw [Nat.zero_add]; rfl, rfl⟩
  · rw [inN_nI (by omega) (by omega), decide_eq_true ht] at z
    cases z
theorem c6_isOnTop (hS : isState K s) (hn : I s 7 = nI n) (h8 : n ≤ 8) (t : Int32) : Cp l G (d + 2) m6_isOnTop [.ref s, .int t] (I, J, K) (.int (bI (inN n t && (decide (I (s + 1) t.toNatClampNeg = 0) && decide (cnt (abv I s t.toNatClampNeg) n = 0))))) := by
  have h6 := hS.1
  refine Cp.of ok6_isOnTop rfl (rfl : argL _ _ = [.ref s, .int t]) ?_
  refine e_aload_n rfl rfl ?_
  refine e_iload_n rfl rfl ?_
  refine e_callVp (kd := 6) (M2 := m6_isClosed) rfl v6_92 ok6_isClosed (c6_isClosed hS hn h8 t) rfl (by assumption) rfl rfl rfl rfl ?_
  first | refine e_if_eqB (tgt := 20) rfl rfl (fun z => ?_) (fun z => ?_) | refine e_if_eqN (tgt := 20) rfl rfl (by omega) (fun z => ?_) (fun z => ?_) | refine e_if_eq (tgt := 20) rfl rfl (fun z => ?_) (fun z => ?_)
  · refine e_iconst (v := nI 0) rfl ic_0N ?_
    refine e_zreturn rfl rfl ?_ ?_
    · exact Or.inl rfl
    · rw [← Bool.and_assoc, z]; exact ⟨rfl, rfl⟩
  · rw [← Bool.and_assoc, z]
    obtain ⟨j, hj, rfl⟩ := inN_of (by omega) ((Bool.and_eq_true _ _).mp z).1
    rw [nI_clamp (by omega)]
    have hc : cnt (abv I s j) n ≤ n := cF_le _ _ _
    refine e_aload_n rfl rfl ?_
    refine e_iload_n rfl rfl ?_
    refine e_callVp (kd := 6) (M2 := m6_closedAbove) rfl v6_95 ok6_closedAbove (c6_closedAbove hS hn h8 hj) rfl (by assumption) rfl rfl rfl rfl ?_
    first | refine e_if_neB (tgt := 20) rfl rfl (fun z => ?_) (fun z => ?_) | refine e_if_neN (tgt := 20) rfl rfl (by omega) (fun z => ?_) (fun z => ?_) | refine e_if_ne (tgt := 20) rfl rfl (fun z => ?_) (fun z => ?_)
    · have z2 : cnt (abv I s j) n ≠ 0 := by assumption
      refine e_iconst (v := nI 0) rfl ic_0N ?_
      refine e_zreturn rfl rfl ?_ ?_
      · exact Or.inl rfl
      · rw [decide_eq_false z2]; exact ⟨rfl, rfl⟩
    · have z2 : cnt (abv I s j) n = 0 := by assumption
      refine e_iconst (v := nI 1) rfl ic_1N ?_
      refine e_goto (tgt := 21) rfl rfl ?_
      refine e_zreturn rfl rfl ?_ ?_
      · exact Or.inr rfl
      · rw [decide_eq_true z2]; exact ⟨rfl, rfl⟩
/-- one more than the highest of a STACK -/
def hvF (I : IM) (s : Nat) (x : Int32) : Nat → Nat → Int32 → Int32
  | _, 0, v => v
  | i, k + 1, v => hvF I s x (i + 1) k (if I (s + 3) i = x then (if v < I (s + 4) i + nI 1 then I (s + 4) i + nI 1 else v) else v)
theorem heightOver_loop (hS : isState K s) (hn : I s 7 = nI n) (h8 : n ≤ 8) (x : Int32) : ∀ k i v, i + k = n → Q (some (.int (hvF I s x i k v))) (I, J, K) → Gw l G (d + 1) m6_heightOver 4 [.ref s, .int x, .int v, .int (nI i)] [] (I, J, K) Q := by
  obtain ⟨h6, p0, p1, p2, p3, p4, p5, p6, a1, a2, a3, a4, a5, a6, a7⟩ := hS
  intro k
  induction k with
  | zero =>
    intro i v hi hq
    refine e_iload_n rfl rfl ?_
    refine e_aload_n rfl rfl ?_
    refine e_getI rfl f6_51 (by assumption) rfl ?_
    rw [hn]
    first | refine e_icmp_geN (tgt := 41) rfl rfl (by omega) (by omega) (fun z => ?_) (fun z => ?_) | refine e_icmp_ge (tgt := 41) rfl rfl (fun z => ?_) (fun z => ?_)
    · refine e_iload_n rfl rfl ?_
      refine e_ireturn rfl rfl ?_
      exact hq
    · omega
  | succ k ih =>
    intro i v hi hq
    refine e_iload_n rfl rfl ?_
    refine e_aload_n rfl rfl ?_
    refine e_getI rfl f6_51 (by assumption) rfl ?_
    rw [hn]
    first | refine e_icmp_geN (tgt := 41) rfl rfl (by omega) (by omega) (fun z => ?_) (fun z => ?_) | refine e_icmp_ge (tgt := 41) rfl rfl (fun z => ?_) (fun z => ?_)
    · omega
    · refine e_aload_n rfl rfl ?_
      refine e_getP rfl f6_18 (by assumption) rfl (by assumption) ?_
      refine e_iload_n rfl rfl ?_
      first | refine e_ialoadN rfl (by assumption) (by omega) (by omega) ?_ | (refine e_iaload rfl (by assumption) ?_ ?_; rotate_left)
      refine e_iload_n rfl rfl ?_
      first | refine e_icmp_neN (tgt := 35) rfl rfl (by omega) (by omega) (fun z => ?_) (fun z => ?_) | refine e_icmp_ne (tgt := 35) rfl rfl (fun z => ?_) (fun z => ?_)
      · first | refine e_inc3 rfl rfl rfl (incN1 _) ?_ | refine e_inc3 rfl rfl rfl rfl ?_
        refine e_goto (tgt := 4) rfl rfl ?_
        refine ih (i + 1) _ (by omega) ?_
        rw [hvF, if_neg (by assumption)] at hq
        exact hq
      · refine e_iload_n rfl rfl ?_
        refine e_aload_n rfl rfl ?_
        refine e_getP rfl f6_21 (by assumption) rfl (by assumption) ?_
        refine e_iload_n rfl rfl ?_
        first | refine e_ialoadN rfl (by assumption) (by omega) (by omega) ?_ | (refine e_iaload rfl (by assumption) ?_ ?_; rotate_left)
        refine e_iconst (v := nI 1) rfl ic_1N ?_
        first | refine e_iaddN rfl ?_ | refine e_iadd rfl ?_
        refine e_max rfl v6_99 rfl ?_
        refine e_ist2 rfl rfl rfl ?_
        first | refine e_inc3 rfl rfl rfl (incN1 _) ?_ | refine e_inc3 rfl rfl rfl rfl ?_
        refine e_goto (tgt := 4) rfl rfl ?_
        refine ih (i + 1) _ (by omega) ?_
        rw [hvF, if_pos (by assumption)] at hq
        exact hq
theorem c6_heightOver (hS : isState K s) (hn : I s 7 = nI n) (h8 : n ≤ 8) (x : Int32) : Cp l G (d + 1) m6_heightOver [.ref s, .int x] (I, J, K) (.int (hvF I s x 0 n (nI 0))) := by
  refine Cp.of ok6_heightOver rfl (rfl : argL _ _ = [.ref s, .int x, .null, .null]) ?_
  refine e_iconst (v := nI 0) rfl ic_0N ?_
  refine e_ist2 rfl rfl rfl ?_
  refine e_iconst (v := nI 0) rfl ic_0N ?_
  refine e_ist3 rfl rfl rfl ?_
  exact heightOver_loop hS hn h8 x n 0 _ (by omega) ⟨rfl, rfl⟩
theorem howMany_loop (hS : isState K s) (hn : I s 7 = nI n) (h8 : n ≤ 8) (x : Int32) : ∀ k i many, i + k = n → many ≤ i → Q (some (.int (nI (many + cF (fun u => decide (I (s + 1) u = x)) i k)))) (I, J, K) → Gw l G d m6_howMany 4 [.ref s, .int x, .int (nI many), .int (nI i)] [] (I, J, K) Q := by
  obtain ⟨h6, p0, p1, p2, p3, p4, p5, p6, a1, a2, a3, a4, a5, a6, a7⟩ := hS
  intro k
  induction k with
  | zero =>
    intro i many hi hm hq
    refine e_iload_n rfl rfl ?_
    refine e_aload_n rfl rfl ?_
    refine e_getI rfl f6_51 (by assumption) rfl ?_
    rw [hn]
    first | refine e_icmp_geN (tgt := 31) rfl rfl (by omega) (by omega) (fun z => ?_) (fun z => ?_) | refine e_icmp_ge (tgt := 31) rfl rfl (fun z => ?_) (fun z => ?_)
    · refine e_iload_n rfl rfl ?_
      refine e_ireturn rfl rfl ?_
      exact hq
    · omega
  | succ k ih =>
    intro i many hi hm hq
    refine e_iload_n rfl rfl ?_
    refine e_aload_n rfl rfl ?_
    refine e_getI rfl f6_51 (by assumption) rfl ?_
    rw [hn]
    first | refine e_icmp_geN (tgt := 31) rfl rfl (by omega) (by omega) (fun z => ?_) (fun z => ?_) | refine e_icmp_ge (tgt := 31) rfl rfl (fun z => ?_) (fun z => ?_)
    · omega
    · refine e_aload_n rfl rfl ?_
      refine e_getP rfl f6_9 (by assumption) rfl (by assumption) ?_
      refine e_iload_n rfl rfl ?_
      first | refine e_ialoadN rfl (by assumption) (by omega) (by omega) ?_ | (refine e_iaload rfl (by assumption) ?_ ?_; rotate_left)
      refine e_iload_n rfl rfl ?_
      first | refine e_icmp_neN (tgt := 25) rfl rfl (by omega) (by omega) (fun z => ?_) (fun z => ?_) | refine e_icmp_ne (tgt := 25) rfl rfl (fun z => ?_) (fun z => ?_)
      · first | refine e_inc3 rfl rfl rfl (incN1 _) ?_ | refine e_inc3 rfl rfl rfl rfl ?_
        refine e_goto (tgt := 4) rfl rfl ?_
        refine ih (i + 1) many (by omega) (by omega) ?_
        rw [cF, decide_eq_false (by assumption)] at hq
        simpa using hq
      · first | refine e_inc2 rfl rfl rfl (incN1 _) ?_ | refine e_inc2 rfl rfl rfl rfl ?_
        first | refine e_inc3 rfl rfl rfl (incN1 _) ?_ | refine e_inc3 rfl rfl rfl rfl ?_
        refine e_goto (tgt := 4) rfl rfl ?_
        refine ih (i + 1) (many + 1) (by omega) (by omega) ?_
        rw [cF, decide_eq_true (by assumption)] at hq
        simpa [Nat.add_assoc] using hq
theorem c6_howMany (hS : isState K s) (hn : I s 7 = nI n) (h8 : n ≤ 8) (x : Int32) : Cp l G d m6_howMany [.ref s, .int x] (I, J, K) (.int (nI (cnt (fun u => decide (I (s + 1) u = x)) n))) := by
  refine Cp.of ok6_howMany rfl (rfl : argL _ _ = [.ref s, .int x, .null, .null]) ?_
  refine e_iconst (v := nI 0) rfl ic_0N ?_
  refine e_ist2 rfl rfl rfl ?_
  refine e_iconst (v := nI 0) rfl ic_0N ?_
  refine e_ist3 rfl rfl rfl ?_
  exact howMany_loop hS hn h8 x n 0 0 (by omega) (by omega) ⟨by rw [Nat.zero_add]; rfl, rfl⟩
/-- the next of the numbers -/
def nxt (x : Int64) : Int64 := (x * 1103515245 + 12345) &&& 2147483647
theorem c6_drawn (h6 : (K.2.1 s).1 = 6) : Cw l G d m6_drawn [.ref s] (I, J, K) (fun r h' => r = some (.int (nxt (J s 14) / 65536).toInt32) ∧ h' = (I, u2 J s 14 (nxt (J s 14)), K)) := by
  refine Cw.of ok6_drawn rfl (rfl : argL _ _ = [.ref s]) ?_
  refine e_aload_n rfl rfl ?_
  refine e_aload_n rfl rfl ?_
  refine e_getJ rfl f6_78 (by assumption) rfl ?_
  refine e_ldc2 rfl k6_102 ?_
  refine e_lmul rfl ?_
  refine e_ldc2 rfl k6_104 ?_
  refine e_ladd rfl ?_
  refine e_ldc2 rfl k6_106 ?_
  refine e_land rfl ?_
  refine e_putJ rfl f6_78 (by assumption) rfl rfl ?_
  refine e_aload_n rfl rfl ?_
  refine e_getJ rfl f6_78 (by assumption) rfl ?_
  refine e_ldc2 rfl k6_108 ?_
  refine e_ldiv rfl (by first | assumption | decide) ?_
  refine e_l2i rfl ?_
  refine e_ireturn rfl rfl ?_
  rw [u2_at]
  exact ⟨rfl, rfl⟩
/-- what take leaves behind -/
def tookS (I : IM) (J : JM) (s o : Nat) (I' : IM) (J' : JM) : Prop := (∀ a, (a < s ∨ s + 7 < a) → I' a = I a) ∧ (∀ k, 1 ≤ k → k ≤ 7 → ∀ i, i < 8 → I' (s + k) i = I (o + k) i) ∧ (∀ k, 7 ≤ k → k ≤ 13 → I' s k = I o k) ∧ J' s 14 = J o 14 ∧ ∀ a, a ≠ s → J' a = J a
theorem cpy8 {f g : Nat → Int32} {i : Nat} (h : i < 8) : va_cpy f g (nI 0).toNatClampNeg (nI 0).toNatClampNeg (nI 8).toNatClampNeg i = f i := by
  rw [nI_clamp (by omega), nI_clamp (by omega), pk_cpy_in (by omega) (by omega)]
  simp
theorem c6_take {o : Nat} (hS : isState K s) (hO : isState K o) (hd : s + 8 ≤ o ∨ o + 8 ≤ s) : Cw l G (d + 1) m6_take [.ref s, .ref o] (I, J, K) (fun r h' => r = none ∧ ∃ I' J', h' = (I', J', K) ∧ tookS I J s o I' J') := by
  obtain ⟨h6, p0, p1, p2, p3, p4, p5, p6, a1, a2, a3, a4, a5, a6, a7⟩ := hS
  obtain ⟨h6o, p0o, p1o, p2o, p3o, p4o, p5o, p6o, a1o, a2o, a3o, a4o, a5o, a6o, a7o⟩ := hO
  have cl0 : (nI 0).toNatClampNeg = 0 := nI_clamp (by omega)
  have cl8 : (nI 8).toNatClampNeg = 8 := nI_clamp (by omega)
  have hb : (nI 0).toNatClampNeg + (nI 8).toNatClampNeg ≤ 8 := by rw [cl0, cl8]; omega
  refine Cw.of ok6_take rfl (rfl : argL _ _ = [.ref s, .ref o]) ?_
  refine e_aload_n rfl rfl ?_
  refine e_getP rfl f6_9 (by assumption) rfl (by assumption) ?_
  refine e_iconst (v := nI 0) rfl ic_0N ?_
  refine e_aload_n rfl rfl ?_
  refine e_getP rfl f6_9 (by assumption) rfl (by assumption) ?_
  refine e_iconst (v := nI 0) rfl ic_0N ?_
  refine e_bipush (v := nI 8) rfl bp_8N ?_
  refine e_copy rfl v6_82 (by assumption) (by assumption) (nI_pos (by omega)) (nI_pos (by omega)) (nI_pos (by omega)) hb hb rfl ?_
  refine e_aload_n rfl rfl ?_
  refine e_getP rfl f6_15 (by assumption) rfl (by assumption) ?_
  refine e_iconst (v := nI 0) rfl ic_0N ?_
  refine e_aload_n rfl rfl ?_
  refine e_getP rfl f6_15 (by assumption) rfl (by assumption) ?_
  refine e_iconst (v := nI 0) rfl ic_0N ?_
  refine e_bipush (v := nI 8) rfl bp_8N ?_
  refine e_copy rfl v6_82 (by assumption) (by assumption) (nI_pos (by omega)) (nI_pos (by omega)) (nI_pos (by omega)) hb hb rfl ?_
  refine e_aload_n rfl rfl ?_
  refine e_getP rfl f6_18 (by assumption) rfl (by assumption) ?_
  refine e_iconst (v := nI 0) rfl ic_0N ?_
  refine e_aload_n rfl rfl ?_
  refine e_getP rfl f6_18 (by assumption) rfl (by assumption) ?_
  refine e_iconst (v := nI 0) rfl ic_0N ?_
  refine e_bipush (v := nI 8) rfl bp_8N ?_
  refine e_copy rfl v6_82 (by assumption) (by assumption) (nI_pos (by omega)) (nI_pos (by omega)) (nI_pos (by omega)) hb hb rfl ?_
  refine e_aload_n rfl rfl ?_
  refine e_getP rfl f6_21 (by assumption) rfl (by assumption) ?_
  refine e_iconst (v := nI 0) rfl ic_0N ?_
  refine e_aload_n rfl rfl ?_
  refine e_getP rfl f6_21 (by assumption) rfl (by assumption) ?_
  refine e_iconst (v := nI 0) rfl ic_0N ?_
  refine e_bipush (v := nI 8) rfl bp_8N ?_
  refine e_copy rfl v6_82 (by assumption) (by assumption) (nI_pos (by omega)) (nI_pos (by omega)) (nI_pos (by omega)) hb hb rfl ?_
  refine e_aload_n rfl rfl ?_
  refine e_getP rfl f6_24 (by assumption) rfl (by assumption) ?_
  refine e_iconst (v := nI 0) rfl ic_0N ?_
  refine e_aload_n rfl rfl ?_
  refine e_getP rfl f6_24 (by assumption) rfl (by assumption) ?_
  refine e_iconst (v := nI 0) rfl ic_0N ?_
  refine e_bipush (v := nI 8) rfl bp_8N ?_
  refine e_copy rfl v6_82 (by assumption) (by assumption) (nI_pos (by omega)) (nI_pos (by omega)) (nI_pos (by omega)) hb hb rfl ?_
  refine e_aload_n rfl rfl ?_
  refine e_getP rfl f6_27 (by assumption) rfl (by assumption) ?_
  refine e_iconst (v := nI 0) rfl ic_0N ?_
  refine e_aload_n rfl rfl ?_
  refine e_getP rfl f6_27 (by assumption) rfl (by assumption) ?_
  refine e_iconst (v := nI 0) rfl ic_0N ?_
  refine e_bipush (v := nI 8) rfl bp_8N ?_
  refine e_copy rfl v6_82 (by assumption) (by assumption) (nI_pos (by omega)) (nI_pos (by omega)) (nI_pos (by omega)) hb hb rfl ?_
  refine e_aload_n rfl rfl ?_
  refine e_getP rfl f6_30 (by assumption) rfl (by assumption) ?_
  refine e_iconst (v := nI 0) rfl ic_0N ?_
  refine e_aload_n rfl rfl ?_
  refine e_getP rfl f6_30 (by assumption) rfl (by assumption) ?_
  refine e_iconst (v := nI 0) rfl ic_0N ?_
  refine e_bipush (v := nI 8) rfl bp_8N ?_
  refine e_copy rfl v6_82 (by assumption) (by assumption) (nI_pos (by omega)) (nI_pos (by omega)) (nI_pos (by omega)) hb hb rfl ?_
  refine e_aload_n rfl rfl ?_
  refine e_aload_n rfl rfl ?_
  refine e_getI rfl f6_51 (by assumption) rfl ?_
  refine e_putI rfl f6_51 (by assumption) rfl rfl ?_
  refine e_aload_n rfl rfl ?_
  refine e_aload_n rfl rfl ?_
  refine e_getI rfl f6_56 (by assumption) rfl ?_
  refine e_putI rfl f6_56 (by assumption) rfl rfl ?_
  refine e_aload_n rfl rfl ?_
  refine e_aload_n rfl rfl ?_
  refine e_getI rfl f6_62 (by assumption) rfl ?_
  refine e_putI rfl f6_62 (by assumption) rfl rfl ?_
  refine e_aload_n rfl rfl ?_
  refine e_aload_n rfl rfl ?_
  refine e_getI rfl f6_63 (by assumption) rfl ?_
  refine e_putI rfl f6_63 (by assumption) rfl rfl ?_
  refine e_aload_n rfl rfl ?_
  refine e_aload_n rfl rfl ?_
  refine e_getI rfl f6_66 (by assumption) rfl ?_
  refine e_putI rfl f6_66 (by assumption) rfl rfl ?_
  refine e_aload_n rfl rfl ?_
  refine e_aload_n rfl rfl ?_
  refine e_getI rfl f6_69 (by assumption) rfl ?_
  refine e_putI rfl f6_69 (by assumption) rfl rfl ?_
  refine e_aload_n rfl rfl ?_
  refine e_aload_n rfl rfl ?_
  refine e_getI rfl f6_72 (by assumption) rfl ?_
  refine e_putI rfl f6_72 (by assumption) rfl rfl ?_
  refine e_aload_n rfl rfl ?_
  refine e_aload_n rfl rfl ?_
  refine e_getJ rfl f6_78 (by assumption) rfl ?_
  refine e_putJ rfl f6_78 (by assumption) rfl rfl ?_
  refine e_return rfl rfl ?_
  refine ⟨rfl, _, _, rfl, ?_, ?_, ?_, ?_, ?_⟩
  · intro a ha
    funext k
    simp (disch := omega) only [u2_ne, uR_ne]
  · intro k h1 h7 i hi
    rcases (show k = 1 ∨ k = 2 ∨ k = 3 ∨ k = 4 ∨ k = 5 ∨ k = 6 ∨ k = 7 by omega) with rfl | rfl | rfl | rfl | rfl | rfl | rfl <;> simp (disch := omega) only [u2_ne, uR_ne, uR_at, cpy8]
  · intro k h1 h7
    rcases (show k = 7 ∨ k = 8 ∨ k = 9 ∨ k = 10 ∨ k = 11 ∨ k = 12 ∨ k = 13 by omega) with rfl | rfl | rfl | rfl | rfl | rfl | rfl <;> simp (disch := omega) only [u2_at, u2_nk, u2_ne, uR_ne, uR_at]
  · exact u2_at _ _ _ _
  · intro a ha
    funext k
    exact u2_ne _ _ ha
end MState
end
section
/-! ===== isBit; Laws ===== -/
/-- the bit n of b, as the class has it -/
def bitOf (b n : Int32) : Bool := decide (¬ (b >>> (n &&& 31)) &&& nI 1 = 0)
def isLaws (K : Kt) (a : Nat) : Prop := (K.2.1 a).1 = 1 ∧ K.1 a 0 = some (a + 1) ∧ K.1 a 1 = some (a + 2) ∧ K.1 a 2 = some (a + 3) ∧ K.1 a 3 = some (a + 4) ∧ K.2.1 (a + 1) = (20, 64) ∧ K.2.1 (a + 2) = (20, 3) ∧ K.2.1 (a + 3) = (20, 3) ∧ K.2.1 (a + 4) = (23, 64)
abbrev MINL : Int64 := -9223372036854775808
abbrev MOSTL : Int64 := 1000000000000
/-- two values joined by a sign -/
def jn (t : Int32) (x y : Int64) : Int64 :=
  if t = nI 20 then (if x = 0 ∨ y = 0 then 0 else 1)
  else if t = nI 21 then (if x = 0 ∧ y = 0 then 0 else 1)
  else if t = nI 42 then (if (if x = 0 then MOSTL else MOSTL / (if x < 0 then -x else x)) < y ∨ y < -(if x = 0 then MOSTL else MOSTL / (if x < 0 then -x else x)) then MINL else x * y)
  else if t = nI 43 then x + y
  else if t = nI 45 then x - y
  else if t = nI 47 then (if y = 0 then MINL else x / y)
  else if t = nI 60 then (if x < y then 1 else 0)
  else if t = nI 61 then (if x = y then 1 else 0)
  else if t = nI 62 then (if y < x then 1 else 0)
  else if t = nI 256 then (if x ≤ y then 1 else 0)
  else if t = nI 257 then (if y ≤ x then 1 else 0)
  else if t = nI 258 then (if x = y then 0 else 1)
  else MINL
section MLaws
variable {l : Launch} {G : GG} {d : Nat} {I : IM} {J : JM} {K : Kt} {Q : Option Value → Hp → Prop} {a : Nat} {h : Hp}
theorem c9_isBit (b n : Int32) : Cp l G d m9_isBit [.int b, .int n] h (.int (bI (bitOf b n))) := by
  refine Cp.of ok9_isBit rfl (rfl : argL _ _ = [.int b, .int n]) ?_
  refine e_iload_n rfl rfl ?_
  refine e_iload_n rfl rfl ?_
  refine e_ishr rfl ?_
  refine e_iconst (v := nI 1) rfl ic_1N ?_
  refine e_iand rfl ?_
  first | refine e_if_eqB (tgt := 12) rfl rfl (fun z => ?_) (fun z => ?_) | refine e_if_eqN (tgt := 12) rfl rfl (by omega) (fun z => ?_) (fun z => ?_) | refine e_if_eq (tgt := 12) rfl rfl (fun z => ?_) (fun z => ?_)
  · refine e_iconst (v := nI 0) rfl ic_0N ?_
    refine e_zreturn rfl rfl ?_ ?_
    · exact Or.inl rfl
    · rw [bitOf, decide_eq_false (fun q => q z)]; exact ⟨rfl, rfl⟩
  · refine e_iconst (v := nI 1) rfl ic_1N ?_
    refine e_goto (tgt := 13) rfl rfl ?_
    refine e_zreturn rfl rfl ?_ ?_
    · exact Or.inr rfl
    · rw [bitOf, decide_eq_true z]; exact ⟨rfl, rfl⟩
theorem ne42 {a b : Nat} (h : a ≠ b) (ha : a < 2 ^ 31) (hb : b < 2 ^ 31) : ¬ nI a = nI b := fun q => h ((nI_eq ha hb).mp q)
set_option maxRecDepth 20000 in
theorem c1_joined (t : Int32) (x y : Int64) : Cp l G d m1_joined [.int t, .long x, .long y] h (.long (jn t x y)) := by
  refine Cp.of ok1_joined rfl (rfl : argL _ _ = [.int t, .long x, .null, .long y, .null, .null, .null]) ?_
  refine e_iload_n rfl rfl ?_
  refine sw1_joined_1 (fun z => ?_) (fun z => ?_) (fun z => ?_) (fun z => ?_) (fun z => ?_) (fun z => ?_) (fun z => ?_) (fun z => ?_) (fun z => ?_) (fun z => ?_) (fun z => ?_) (fun z => ?_) (fun z0 z1 z2 z3 z4 z5 z6 z7 z8 z9 z10 z11 => ?_)
  · subst z
    have e : jn (nI 20) x y = if x = 0 ∨ y = 0 then 0 else 1 := rfl
    rw [e]
    refine e_lload_n rfl rfl ?_
    refine e_lconst (v := 0) rfl rfl ?_
    refine e_lcmp rfl ?_
    first | refine e_if_eqC (tgt := 142) rfl rfl (fun z => ?_) (fun z => ?_) | refine e_if_eqB (tgt := 142) rfl rfl (fun z => ?_) (fun z => ?_) | refine e_if_eqN (tgt := 142) rfl rfl (by omega) (fun z => ?_) (fun z => ?_) | refine e_if_eq (tgt := 142) rfl rfl (fun z => ?_) (fun z => ?_)
    · refine e_lconst (v := 0) rfl rfl ?_
      refine e_lreturn rfl rfl ?_
      rw [if_pos (Or.inl (by assumption))]; exact ⟨rfl, rfl⟩
    · refine e_lload_n rfl rfl ?_
      refine e_lconst (v := 0) rfl rfl ?_
      refine e_lcmp rfl ?_
      first | refine e_if_eqC (tgt := 142) rfl rfl (fun z => ?_) (fun z => ?_) | refine e_if_eqB (tgt := 142) rfl rfl (fun z => ?_) (fun z => ?_) | refine e_if_eqN (tgt := 142) rfl rfl (by omega) (fun z => ?_) (fun z => ?_) | refine e_if_eq (tgt := 142) rfl rfl (fun z => ?_) (fun z => ?_)
      · refine e_lconst (v := 0) rfl rfl ?_
        refine e_lreturn rfl rfl ?_
        rw [if_pos (Or.inr (by assumption))]; exact ⟨rfl, rfl⟩
      · refine e_lconst (v := 1) rfl rfl ?_
        refine e_goto (tgt := 143) rfl rfl ?_
        refine e_lreturn rfl rfl ?_
        rw [if_neg (fun q => q.elim (by assumption) (by assumption))]; exact ⟨rfl, rfl⟩
  · subst z
    have e : jn (nI 21) x y = if x = 0 ∧ y = 0 then 0 else 1 := rfl
    rw [e]
    refine e_lload_n rfl rfl ?_
    refine e_lconst (v := 0) rfl rfl ?_
    refine e_lcmp rfl ?_
    first | refine e_if_neC (tgt := 120) rfl rfl (fun z => ?_) (fun z => ?_) | refine e_if_neB (tgt := 120) rfl rfl (fun z => ?_) (fun z => ?_) | refine e_if_neN (tgt := 120) rfl rfl (by omega) (fun z => ?_) (fun z => ?_) | refine e_if_ne (tgt := 120) rfl rfl (fun z => ?_) (fun z => ?_)
    · refine e_lconst (v := 1) rfl rfl ?_
      refine e_goto (tgt := 125) rfl rfl ?_
      refine e_lreturn rfl rfl ?_
      rw [if_neg (fun q => absurd q.1 (by assumption))]; exact ⟨rfl, rfl⟩
    · refine e_lload_n rfl rfl ?_
      refine e_lconst (v := 0) rfl rfl ?_
      refine e_lcmp rfl ?_
      first | refine e_if_eqC (tgt := 124) rfl rfl (fun z => ?_) (fun z => ?_) | refine e_if_eqB (tgt := 124) rfl rfl (fun z => ?_) (fun z => ?_) | refine e_if_eqN (tgt := 124) rfl rfl (by omega) (fun z => ?_) (fun z => ?_) | refine e_if_eq (tgt := 124) rfl rfl (fun z => ?_) (fun z => ?_)
      · refine e_lconst (v := 0) rfl rfl ?_
        refine e_lreturn rfl rfl ?_
        rw [if_pos ⟨by assumption, by assumption⟩]; exact ⟨rfl, rfl⟩
      · refine e_lconst (v := 1) rfl rfl ?_
        refine e_goto (tgt := 125) rfl rfl ?_
        refine e_lreturn rfl rfl ?_
        rw [if_neg (fun q => absurd q.2 (by assumption))]; exact ⟨rfl, rfl⟩
  · subst z
    have e : jn (nI 42) x y = if (if x = 0 then MOSTL else MOSTL / (if x < 0 then -x else x)) < y ∨ y < -(if x = 0 then MOSTL else MOSTL / (if x < 0 then -x else x)) then MINL else x * y := rfl
    rw [e]
    have tail : ∀ w : Int64, w = (if x = 0 then MOSTL else MOSTL / (if x < 0 then -x else x)) → Gw l G d m1_joined 252 [.int (nI 42), .long x, .null, .long y, .null, .null, .null] [.long w] h (fun r h' => r = some (.long (if (if x = 0 then MOSTL else MOSTL / (if x < 0 then -x else x)) < y ∨ y < -(if x = 0 then MOSTL else MOSTL / (if x < 0 then -x else x)) then MINL else x * y)) ∧ h' = h) := by
      intro w hw
      rw [← hw]
      refine e_lst5 rfl rfl rfl ?_
      refine e_lload_n rfl rfl ?_
      refine e_lload rfl rfl ?_
      refine e_lcmp rfl ?_
      first | refine e_if_gtC (tgt := 269) rfl rfl (fun z => ?_) (fun z => ?_) | refine e_if_gtN (tgt := 269) rfl rfl (by omega) (fun z => ?_) (fun z => ?_) | refine e_if_gt (tgt := 269) rfl rfl (fun z => ?_) (fun z => ?_)
      · refine e_ldc2 rfl k1_49 ?_
        refine e_goto (tgt := 278) rfl rfl ?_
        refine e_lreturn rfl rfl ?_
        rw [if_pos (Or.inl (by assumption))]; exact ⟨rfl, rfl⟩
      · refine e_lload_n rfl rfl ?_
        refine e_lload rfl rfl ?_
        refine e_lneg rfl ?_
        refine e_lcmp rfl ?_
        first | refine e_if_geC (tgt := 275) rfl rfl (fun z => ?_) (fun z => ?_) | refine e_if_geN (tgt := 275) rfl rfl (by omega) ?_ | refine e_if_ge (tgt := 275) rfl rfl (fun z => ?_) (fun z => ?_)
        · refine e_lload_n rfl rfl ?_
          refine e_lload_n rfl rfl ?_
          refine e_lmul rfl ?_
          refine e_lreturn rfl rfl ?_
          rw [if_neg (fun q => q.elim (by assumption) (fun q => absurd (Int64.not_lt.mpr (by assumption)) (fun p => p q)))]; exact ⟨rfl, rfl⟩
        · refine e_ldc2 rfl k1_49 ?_
          refine e_goto (tgt := 278) rfl rfl ?_
          refine e_lreturn rfl rfl ?_
          rw [if_pos (Or.inr (Int64.not_le.mp (by assumption)))]; exact ⟨rfl, rfl⟩
    refine e_lload_n rfl rfl ?_
    refine e_lconst (v := 0) rfl rfl ?_
    refine e_lcmp rfl ?_
    first | refine e_if_neC (tgt := 236) rfl rfl (fun z => ?_) (fun z => ?_) | refine e_if_neB (tgt := 236) rfl rfl (fun z => ?_) (fun z => ?_) | refine e_if_neN (tgt := 236) rfl rfl (by omega) (fun z => ?_) (fun z => ?_) | refine e_if_ne (tgt := 236) rfl rfl (fun z => ?_) (fun z => ?_)
    · refine e_ldc2 rfl k1_57 ?_
      refine e_lload_n rfl rfl ?_
      refine e_lconst (v := 0) rfl rfl ?_
      refine e_lcmp rfl ?_
      first | refine e_if_geC (tgt := 250) rfl rfl (fun z => ?_) (fun z => ?_) | refine e_if_geN (tgt := 250) rfl rfl (by omega) ?_ | refine e_if_ge (tgt := 250) rfl rfl (fun z => ?_) (fun z => ?_)
      · refine e_lload_n rfl rfl ?_
        have hx : ¬ x = 0 := by assumption
        refine e_ldiv rfl hx ?_
        refine tail _ ?_
        rw [if_neg hx, if_neg (Int64.not_lt.mpr (by assumption))]
      · refine e_lload_n rfl rfl ?_
        refine e_lneg rfl ?_
        refine e_goto (tgt := 251) rfl rfl ?_
        have hx : ¬ x = 0 := by assumption
        refine e_ldiv rfl (fun q => hx (by have e2 := Int64.neg_neg (a := x); rw [q] at e2; exact e2.symm.trans (by decide))) ?_
        refine tail _ ?_
        rw [if_neg hx, if_pos (Int64.not_le.mp (by assumption))]
    · refine e_ldc2 rfl k1_57 ?_
      refine e_goto (tgt := 252) rfl rfl ?_
      refine tail _ ?_
      rw [if_pos (by assumption)]
  · subst z
    refine e_lload_n rfl rfl ?_
    refine e_lload_n rfl rfl ?_
    refine e_ladd rfl ?_
    refine e_lreturn rfl rfl ?_
    exact ⟨rfl, rfl⟩
  · subst z
    refine e_lload_n rfl rfl ?_
    refine e_lload_n rfl rfl ?_
    refine e_lsub rfl ?_
    refine e_lreturn rfl rfl ?_
    exact ⟨rfl, rfl⟩
  · subst z
    have e : jn (nI 47) x y = if y = 0 then MINL else x / y := rfl
    rw [e]
    refine e_lload_n rfl rfl ?_
    refine e_lconst (v := 0) rfl rfl ?_
    refine e_lcmp rfl ?_
    first | refine e_if_neC (tgt := 291) rfl rfl (fun z => ?_) (fun z => ?_) | refine e_if_neB (tgt := 291) rfl rfl (fun z => ?_) (fun z => ?_) | refine e_if_neN (tgt := 291) rfl rfl (by omega) (fun z => ?_) (fun z => ?_) | refine e_if_ne (tgt := 291) rfl rfl (fun z => ?_) (fun z => ?_)
    · have hy : ¬ y = 0 := by assumption
      refine e_lload_n rfl rfl ?_
      refine e_lload_n rfl rfl ?_
      refine e_ldiv rfl (by first | assumption | decide) ?_
      refine e_lreturn rfl rfl ?_
      rw [if_neg hy]; exact ⟨rfl, rfl⟩
    · refine e_ldc2 rfl k1_49 ?_
      refine e_goto (tgt := 294) rfl rfl ?_
      refine e_lreturn rfl rfl ?_
      rw [if_pos (by assumption)]; exact ⟨rfl, rfl⟩
  · subst z
    have e : jn (nI 60) x y = if x < y then 1 else 0 := rfl
    rw [e]
    refine e_lload_n rfl rfl ?_
    refine e_lload_n rfl rfl ?_
    refine e_lcmp rfl ?_
    first | refine e_if_geC (tgt := 154) rfl rfl (fun z => ?_) (fun z => ?_) | refine e_if_geN (tgt := 154) rfl rfl (by omega) ?_ | refine e_if_ge (tgt := 154) rfl rfl (fun z => ?_) (fun z => ?_)
    · refine e_lconst (v := 0) rfl rfl ?_
      refine e_lreturn rfl rfl ?_
      rw [if_neg (Int64.not_lt.mpr (by assumption))]; exact ⟨rfl, rfl⟩
    · refine e_lconst (v := 1) rfl rfl ?_
      refine e_goto (tgt := 155) rfl rfl ?_
      refine e_lreturn rfl rfl ?_
      rw [if_pos (Int64.not_le.mp (by assumption))]; exact ⟨rfl, rfl⟩
  · subst z
    have e : jn (nI 61) x y = if x = y then 1 else 0 := rfl
    rw [e]
    refine e_lload_n rfl rfl ?_
    refine e_lload_n rfl rfl ?_
    refine e_lcmp rfl ?_
    first | refine e_if_neC (tgt := 178) rfl rfl (fun z => ?_) (fun z => ?_) | refine e_if_neB (tgt := 178) rfl rfl (fun z => ?_) (fun z => ?_) | refine e_if_neN (tgt := 178) rfl rfl (by omega) (fun z => ?_) (fun z => ?_) | refine e_if_ne (tgt := 178) rfl rfl (fun z => ?_) (fun z => ?_)
    · refine e_lconst (v := 0) rfl rfl ?_
      refine e_lreturn rfl rfl ?_
      rw [if_neg (by assumption)]; exact ⟨rfl, rfl⟩
    · refine e_lconst (v := 1) rfl rfl ?_
      refine e_goto (tgt := 179) rfl rfl ?_
      refine e_lreturn rfl rfl ?_
      rw [if_pos (by assumption)]; exact ⟨rfl, rfl⟩
  · subst z
    have e : jn (nI 62) x y = if y < x then 1 else 0 := rfl
    rw [e]
    refine e_lload_n rfl rfl ?_
    refine e_lload_n rfl rfl ?_
    refine e_lcmp rfl ?_
    first | refine e_if_leC (tgt := 214) rfl rfl (fun z => ?_) (fun z => ?_) | refine e_if_leN (tgt := 214) rfl rfl (by omega) (fun z => ?_) (fun z => ?_) | refine e_if_le (tgt := 214) rfl rfl (fun z => ?_) (fun z => ?_)
    · refine e_lconst (v := 0) rfl rfl ?_
      refine e_lreturn rfl rfl ?_
      rw [if_neg (Int64.not_lt.mpr (by assumption))]; exact ⟨rfl, rfl⟩
    · refine e_lconst (v := 1) rfl rfl ?_
      refine e_goto (tgt := 215) rfl rfl ?_
      refine e_lreturn rfl rfl ?_
      rw [if_pos (Int64.not_le.mp (by assumption))]; exact ⟨rfl, rfl⟩
  · subst z
    have e : jn (nI 256) x y = if x ≤ y then 1 else 0 := rfl
    rw [e]
    refine e_lload_n rfl rfl ?_
    refine e_lload_n rfl rfl ?_
    refine e_lcmp rfl ?_
    first | refine e_if_gtC (tgt := 166) rfl rfl (fun z => ?_) (fun z => ?_) | refine e_if_gtN (tgt := 166) rfl rfl (by omega) (fun z => ?_) (fun z => ?_) | refine e_if_gt (tgt := 166) rfl rfl (fun z => ?_) (fun z => ?_)
    · refine e_lconst (v := 0) rfl rfl ?_
      refine e_lreturn rfl rfl ?_
      rw [if_neg (Int64.not_le.mpr (by assumption))]; exact ⟨rfl, rfl⟩
    · refine e_lconst (v := 1) rfl rfl ?_
      refine e_goto (tgt := 167) rfl rfl ?_
      refine e_lreturn rfl rfl ?_
      rw [if_pos (Int64.not_lt.mp (by assumption))]; exact ⟨rfl, rfl⟩
  · subst z
    have e : jn (nI 257) x y = if y ≤ x then 1 else 0 := rfl
    rw [e]
    refine e_lload_n rfl rfl ?_
    refine e_lload_n rfl rfl ?_
    refine e_lcmp rfl ?_
    first | refine e_if_ltC (tgt := 202) rfl rfl (fun z => ?_) (fun z => ?_) | refine e_if_ltN (tgt := 202) rfl rfl (by omega) ?_ | refine e_if_lt (tgt := 202) rfl rfl (fun z => ?_) (fun z => ?_)
    · refine e_lconst (v := 0) rfl rfl ?_
      refine e_lreturn rfl rfl ?_
      rw [if_neg (Int64.not_le.mpr (by assumption))]; exact ⟨rfl, rfl⟩
    · refine e_lconst (v := 1) rfl rfl ?_
      refine e_goto (tgt := 203) rfl rfl ?_
      refine e_lreturn rfl rfl ?_
      rw [if_pos (Int64.not_lt.mp (by assumption))]; exact ⟨rfl, rfl⟩
  · subst z
    have e : jn (nI 258) x y = if x = y then 0 else 1 := rfl
    rw [e]
    refine e_lload_n rfl rfl ?_
    refine e_lload_n rfl rfl ?_
    refine e_lcmp rfl ?_
    first | refine e_if_eqC (tgt := 190) rfl rfl (fun z => ?_) (fun z => ?_) | refine e_if_eqB (tgt := 190) rfl rfl (fun z => ?_) (fun z => ?_) | refine e_if_eqN (tgt := 190) rfl rfl (by omega) (fun z => ?_) (fun z => ?_) | refine e_if_eq (tgt := 190) rfl rfl (fun z => ?_) (fun z => ?_)
    · refine e_lconst (v := 0) rfl rfl ?_
      refine e_lreturn rfl rfl ?_
      rw [if_pos (by assumption)]; exact ⟨rfl, rfl⟩
    · refine e_lconst (v := 1) rfl rfl ?_
      refine e_goto (tgt := 191) rfl rfl ?_
      refine e_lreturn rfl rfl ?_
      rw [if_neg (by assumption)]; exact ⟨rfl, rfl⟩
  · have e : jn t x y = MINL := by
      unfold jn
      rw [if_neg z0, if_neg z1, if_neg z2, if_neg z3, if_neg z4, if_neg z5, if_neg z6, if_neg z7, if_neg z8, if_neg z9, if_neg z10, if_neg z11]
    rw [e]
    refine e_ldc2 rfl k1_49 ?_
    refine e_lreturn rfl rfl ?_
    exact ⟨rfl, rfl⟩
theorem c1_has (h1 : (K.2.1 a).1 = 1) (t : Int32) : Cp l G (d + 1) m1_has [.ref a, .int t] (I, J, K) (.int (bI (inN 3 t && bitOf (I a 5) t))) := by
  refine Cp.of ok1_has rfl (rfl : argL _ _ = [.ref a, .int t]) ?_
  refine e_iload_n rfl rfl ?_
  first | refine e_if_ltN (tgt := 24) rfl rfl (by omega) ?_ | refine e_if_lt (tgt := 24) rfl rfl (fun z => ?_) (fun z => ?_)
  · refine e_iconst (v := nI 0) rfl ic_0N ?_
    refine e_zreturn rfl rfl ?_ ?_
    · exact Or.inl rfl
    · rw [inN, decide_eq_false (fun q => absurd z (Int32.not_lt.mpr q.1))]; exact ⟨rfl, rfl⟩
  · refine e_iload_n rfl rfl ?_
    refine e_iconst (v := nI 3) rfl ic_3N ?_
    first | refine e_icmp_geN (tgt := 24) rfl rfl (by omega) (by omega) (fun z => ?_) (fun z => ?_) | refine e_icmp_ge (tgt := 24) rfl rfl (fun z => ?_) (fun z => ?_)
    · refine e_iconst (v := nI 0) rfl ic_0N ?_
      refine e_zreturn rfl rfl ?_ ?_
      · exact Or.inl rfl
      · rw [inN, decide_eq_false (fun q => absurd q.2 (Int32.not_lt.mpr (by assumption)))]; exact ⟨rfl, rfl⟩
    · rw [inN, decide_eq_true ⟨Int32.not_lt.mp (by assumption), Int32.not_le.mp (by assumption)⟩, Bool.true_and]
      refine e_aload_n rfl rfl ?_
      refine e_getI rfl f1_32 (by assumption) rfl ?_
      refine e_iload_n rfl rfl ?_
      refine e_callSNp (M2 := m9_isBit) rfl v1_41 ok9_isBit (c9_isBit (I a 5) t) rfl rfl rfl ?_
      first | refine e_if_eqB (tgt := 24) rfl rfl (fun z => ?_) (fun z => ?_) | refine e_if_eqN (tgt := 24) rfl rfl (by omega) (fun z => ?_) (fun z => ?_) | refine e_if_eq (tgt := 24) rfl rfl (fun z => ?_) (fun z => ?_)
      · refine e_iconst (v := nI 0) rfl ic_0N ?_
        refine e_zreturn rfl rfl ?_ ?_
        · exact Or.inl rfl
        · rw [z]; exact ⟨rfl, rfl⟩
      · refine e_iconst (v := nI 1) rfl ic_1N ?_
        refine e_goto (tgt := 25) rfl rfl ?_
        refine e_zreturn rfl rfl ?_ ?_
        · exact Or.inr rfl
        · rw [z]; exact ⟨rfl, rfl⟩
/-- the pile's cells hold the values, the last one first -/
def pileIs (f : Nat → Int64) : List Int64 → Prop
  | [] => True
  | v :: r => f r.length = v ∧ pileIs f r
theorem pileIs_keep {f g : Nat → Int64} : ∀ {pl : List Int64}, pileIs f pl → (∀ j, j < pl.length → g j = f j) → pileIs g pl
  | [], _, _ => trivial
  | v :: r, h, e => ⟨(e r.length (by simp)).trans h.1, pileIs_keep h.2 (fun j hj => e j (by simp; omega))⟩
/-- a step of an E: none is an ERROR -/
def stW (c : Int32) (nm : Nat → Int32) (pl : List Int64) : Option (List Int64) :=
  if ¬ 0 < -c then some ((- -c).toInt64 :: pl)
  else if nI 12 ≤ -c ∧ -c ≤ nI 18 then some ((nm (-c - nI 12).toNatClampNeg).toInt64 :: pl)
  else match pl with
    | [] => some []
    | [y] => some (if -c = nI 19 then [if y = 0 then 1 else 0] else [y])
    | y :: x :: r => if -c = nI 19 then some ((if y = 0 then 1 else 0) :: x :: r)
      else if MOSTL < jn (-c) x y ∨ jn (-c) x y < -MOSTL then none else some (jn (-c) x y :: r)
def finW : List Int64 → Int64
  | [v] => v
  | _ => MINL
/-- an E worked out: code behind code, numbers as they are, all else below 0 -/
def evW (code : Nat → Int32) (nm : Nat → Int32) : Nat → Nat → List Int64 → Int64
  | 0, _, pl => finW pl
  | k + 1, i, pl => match stW (code i) nm pl with
    | none => MINL
    | some pl' => evW code nm k (i + 1) pl'
theorem evW_some {code nm : Nat → Int32} {k i : Nat} {pl pl' : List Int64} (h : stW (code i) nm pl = some pl') : evW code nm (k + 1) i pl = evW code nm k (i + 1) pl' := by rw [evW, h]
theorem evW_none {code nm : Nat → Int32} {k i : Nat} {pl : List Int64} (h : stW (code i) nm pl = none) : evW code nm (k + 1) i pl = MINL := by rw [evW, h]
theorem stW_num {c : Int32} {nm : Nat → Int32} {pl : List Int64} (h : ¬ 0 < -c) : stW c nm pl = some ((- -c).toInt64 :: pl) := by unfold stW; rw [if_pos h]
theorem stW_nam {c : Int32} {nm : Nat → Int32} {pl : List Int64} (h : 0 < -c) (h2 : nI 12 ≤ -c ∧ -c ≤ nI 18) : stW c nm pl = some ((nm (-c - nI 12).toNatClampNeg).toInt64 :: pl) := by unfold stW; rw [if_neg (fun q => q h), if_pos h2]
theorem stW_not {c : Int32} {nm : Nat → Int32} {y : Int64} {r : List Int64} (h : 0 < -c) (h2 : ¬ (nI 12 ≤ -c ∧ -c ≤ nI 18)) (h3 : -c = nI 19) : stW c nm (y :: r) = some ((if y = 0 then 1 else 0) :: r) := by
  unfold stW
  rw [if_neg (fun q => q h), if_neg h2]
  cases r with
  | nil => simp only [if_pos h3]
  | cons x r => simp only [if_pos h3]
theorem stW_nil {c : Int32} {nm : Nat → Int32} (h : 0 < -c) (h2 : ¬ (nI 12 ≤ -c ∧ -c ≤ nI 18)) : stW c nm [] = some [] := by
  unfold stW
  rw [if_neg (fun q => q h), if_neg h2]
theorem stW_one {c : Int32} {nm : Nat → Int32} {y : Int64} (h : 0 < -c) (h2 : ¬ (nI 12 ≤ -c ∧ -c ≤ nI 18)) (h3 : ¬ -c = nI 19) : stW c nm [y] = some [y] := by
  unfold stW
  rw [if_neg (fun q => q h), if_neg h2]
  simp only [if_neg h3]
theorem stW_bin {c : Int32} {nm : Nat → Int32} {x y : Int64} {r : List Int64} (h : 0 < -c) (h2 : ¬ (nI 12 ≤ -c ∧ -c ≤ nI 18)) (h3 : ¬ -c = nI 19) : stW c nm (y :: x :: r) = if MOSTL < jn (-c) x y ∨ jn (-c) x y < -MOSTL then none else some (jn (-c) x y :: r) := by
  unfold stW
  rw [if_neg (fun q => q h), if_neg h2]
  simp only [if_neg h3]
theorem nI12 {c : Int32} (h1 : nI 12 ≤ c) (h2 : c ≤ nI 18) : ∃ j, j < 7 ∧ c - nI 12 = nI j := by
  obtain ⟨j, hj, rfl⟩ := nI_of (Int32.not_lt.mpr (Int32.le_trans (nI_pos' (n := 12) (by omega)) h1))
  have a1 := (nI_leI (by omega) hj).mp h1
  have a2 := (nI_leI hj (by omega)).mp h2
  exact ⟨j - 12, by omega, pk_sub a1⟩
set_option maxRecDepth 20000 in
set_option maxHeartbeats 4000000 in
theorem work_loop (hS : isLaws K a) {b : Nat} (hb : K.2.1 b = (20, 7)) {w u : Nat} (hw : w < 3) (hu : I (a + 3) w = nI u) (hu64 : u ≤ 64) : ∀ k i pl J v5, i + k = u → pl.length ≤ i → pileIs (J (a + 4)) pl → (∀ J', (∀ c, c ≠ a + 4 → J' c = J c) → Q (some (.long (evW (I (a + 1)) (I b) k i pl))) (I, J', K)) → Gw l G (d + 1) m1_work 22 [.ref a, .int (nI w), .ref b, .int (nI pl.length), .int (nI i), v5] [] (I, J, K) Q := by
  obtain ⟨h1, p0, p1, p2, p3, a1, a2, a3, a4⟩ := hS
  intro k
  induction k with
  | zero =>
    intro i pl J v5 hi hl hp hq
    refine e_iload rfl rfl ?_
    refine e_aload_n rfl rfl ?_
    refine e_getP rfl f1_18 (by assumption) rfl (by assumption) ?_
    refine e_iload_n rfl rfl ?_
    first | refine e_ialoadN rfl (by assumption) (by omega) (by omega) ?_ | (refine e_iaload rfl (by assumption) ?_ ?_; rotate_left)
    rw [hu]
    first | refine e_icmp_geN (tgt := 214) rfl rfl (by omega) (by omega) (fun z => ?_) (fun z => ?_) | refine e_icmp_ge (tgt := 214) rfl rfl (fun z => ?_) (fun z => ?_)
    · refine e_iload_n rfl rfl ?_
      refine e_iconst (v := nI 1) rfl ic_1N ?_
      first | refine e_icmp_neN (tgt := 228) rfl rfl (by omega) (by omega) (fun z => ?_) (fun z => ?_) | refine e_icmp_ne (tgt := 228) rfl rfl (fun z => ?_) (fun z => ?_)
      · refine e_ldc2 rfl k1_49 ?_
        refine e_lreturn rfl rfl ?_
        have e : evW (I (a + 1)) (I b) 0 i pl = MINL := by
          show finW pl = MINL
          match pl with
          | [] => rfl
          | [x] => simp at z
          | x :: y :: r => rfl
        rw [e] at hq
        exact hq J (fun _ _ => rfl)
      · refine e_aload_n rfl rfl ?_
        refine e_getP rfl f1_21 (by assumption) rfl (by assumption) ?_
        refine e_iconst (v := nI 0) rfl ic_0N ?_
        first | refine e_laloadN rfl (by assumption) (by omega) (by omega) ?_ | (refine e_laload rfl (by assumption) ?_ ?_; rotate_left)
        refine e_goto (tgt := 231) rfl rfl ?_
        refine e_lreturn rfl rfl ?_
        match pl, hp, hq, z with
        | [x], hp, hq, _ =>
          have hp1 : J (a + 4) 0 = x := hp.1
          rw [hp1]
          exact hq J (fun _ _ => rfl)
    · omega
  | succ k ih =>
    intro i pl J v5 hi hl hp hq
    have put : ∀ (v : Int64) (r : List Int64) (v5' : Value), r.length ≤ i → pileIs (J (a + 4)) r → (∀ J', (∀ c, c ≠ a + 4 → J' c = J c) → Q (some (.long (evW (I (a + 1)) (I b) k (i + 1) (v :: r)))) (I, J', K)) → Gw l G (d + 1) m1_work 22 [.ref a, .int (nI w), .ref b, .int (nI (v :: r).length), .int (nI (i + 1)), v5'] [] (I, u2 J (a + 4) r.length v, K) Q := by
      intro v r v5' hr hpr hq2
      refine ih (i + 1) (v :: r) _ v5' (by omega) (by simp; omega) ⟨u2_at _ _ _ _, pileIs_keep hpr (fun j hj => u2_nk _ _ (by omega))⟩ ?_
      intro J' e
      exact hq2 J' (fun c hc => (e c hc).trans (u2_row _ _ hc))
    refine e_iload rfl rfl ?_
    refine e_aload_n rfl rfl ?_
    refine e_getP rfl f1_18 (by assumption) rfl (by assumption) ?_
    refine e_iload_n rfl rfl ?_
    first | refine e_ialoadN rfl (by assumption) (by omega) (by omega) ?_ | (refine e_iaload rfl (by assumption) ?_ ?_; rotate_left)
    rw [hu]
    first | refine e_icmp_geN (tgt := 214) rfl rfl (by omega) (by omega) (fun z => ?_) (fun z => ?_) | refine e_icmp_ge (tgt := 214) rfl rfl (fun z => ?_) (fun z => ?_)
    · omega
    · refine e_aload_n rfl rfl ?_
      refine e_getP rfl f1_9 (by assumption) rfl (by assumption) ?_
      refine e_iload rfl rfl ?_
      first | refine e_ialoadN rfl (by assumption) (by omega) (by omega) ?_ | (refine e_iaload rfl (by assumption) ?_ ?_; rotate_left)
      refine e_ineg rfl ?_
      refine e_ist5 rfl rfl rfl ?_
      refine e_iload rfl rfl ?_
      first | refine e_if_gtN (tgt := 64) rfl rfl (by omega) (fun z => ?_) (fun z => ?_) | refine e_if_gt (tgt := 64) rfl rfl (fun z => ?_) (fun z => ?_)
      · have zt : 0 < -(I (a + 1) i) := by assumption
        have notn : ¬ (nI 12 ≤ -(I (a + 1) i) ∧ -(I (a + 1) i) ≤ nI 18) → Gw l G (d + 1) m1_work 98 [.ref a, .int (nI w), .ref b, .int (nI pl.length), .int (nI i), .int (-(I (a + 1) i))] [] (I, J, K) Q := by
          intro hn
          refine e_iload rfl rfl ?_
          refine e_bipush (v := nI 19) rfl bp_19N ?_
          first | refine e_icmp_neN (tgt := 139) rfl rfl (by omega) (by omega) (fun z => ?_) (fun z => ?_) | refine e_icmp_ne (tgt := 139) rfl rfl (fun z => ?_) (fun z => ?_)
          · have z19 : ¬ -(I (a + 1) i) = nI 19 := by assumption
            refine e_iload_n rfl rfl ?_
            refine e_iconst (v := nI 2) rfl ic_2N ?_
            first | refine e_icmp_ltN (tgt := 208) rfl rfl (by omega) (by omega) (fun z => ?_) (fun z => ?_) | refine e_icmp_lt (tgt := 208) rfl rfl (fun z => ?_) (fun z => ?_)
            · first | refine e_inc4 rfl rfl rfl (incN1 _) ?_ | refine e_inc4 rfl rfl rfl rfl ?_
              refine e_goto (tgt := 22) rfl rfl ?_
              refine ih (i + 1) pl J _ (by omega) (by omega) hp ?_
              match pl, hq, z with
              | [], hq, _ => rw [evW_some (stW_nil zt hn)] at hq; exact hq
              | [y], hq, _ => rw [evW_some (stW_one zt hn z19)] at hq; exact hq
              | x :: y :: r, hq, z => simp at z; omega
            · match pl, hp, hl, hq, z with
              | y :: x :: r, hp, hl, hq, z =>
                have hbin := stW_bin (nm := I b) (x := x) (y := y) (r := r) zt hn z19
                have hp1 : J (a + 4) (r.length + 1) = y := hp.1
                have hp2 : J (a + 4) r.length = x := hp.2.1
                simp only [List.length_cons] at hl
                first | refine e_inc3 rfl rfl rfl (decN1 (by omega)) ?_ | refine e_inc3 rfl rfl rfl rfl ?_
                refine e_aload_n rfl rfl ?_
                refine e_getP rfl f1_21 (by assumption) rfl (by assumption) ?_
                simp only [List.length_cons, show r.length + 1 + 1 - 1 = r.length + 1 by omega]
                refine e_iload_n rfl rfl ?_
                refine e_iconst (v := nI 1) rfl ic_1N ?_
                first | refine e_isubN rfl (by omega) ?_ | refine e_isub rfl ?_
                refine e_iload rfl rfl ?_
                refine e_aload_n rfl rfl ?_
                refine e_getP rfl f1_21 (by assumption) rfl (by assumption) ?_
                refine e_iload_n rfl rfl ?_
                refine e_iconst (v := nI 1) rfl ic_1N ?_
                first | refine e_isubN rfl (by omega) ?_ | refine e_isub rfl ?_
                first | refine e_laloadN rfl (by assumption) (by omega) (by omega) ?_ | (refine e_laload rfl (by assumption) ?_ ?_; rotate_left)
                refine e_aload_n rfl rfl ?_
                refine e_getP rfl f1_21 (by assumption) rfl (by assumption) ?_
                refine e_iload_n rfl rfl ?_
                first | refine e_laloadN rfl (by assumption) (by omega) (by omega) ?_ | (refine e_laload rfl (by assumption) ?_ ?_; rotate_left)
                simp only [show r.length + 1 - 1 = r.length by omega, hp1, hp2]
                refine e_callSp (M2 := m1_joined) rfl v1_53 ok1_joined (c1_joined _ _ _) rfl rfl rfl ?_
                first | refine e_lastoreN rfl (by assumption) (by omega) (by omega) ?_ | (refine e_lastore rfl (by assumption) ?_ ?_; rotate_left)
                refine e_aload_n rfl rfl ?_
                refine e_getP rfl f1_21 (by assumption) rfl (by assumption) ?_
                refine e_iload_n rfl rfl ?_
                refine e_iconst (v := nI 1) rfl ic_1N ?_
                first | refine e_isubN rfl (by omega) ?_ | refine e_isub rfl ?_
                first | refine e_laloadN rfl (by assumption) (by omega) (by omega) ?_ | (refine e_laload rfl (by assumption) ?_ ?_; rotate_left)
                simp only [show r.length + 1 - 1 = r.length by omega, u2_at]
                refine e_ldc2 rfl k1_57 ?_
                refine e_lcmp rfl ?_
                first | refine e_if_gtC (tgt := 204) rfl rfl (fun z => ?_) (fun z => ?_) | refine e_if_gtN (tgt := 204) rfl rfl (by omega) (fun z => ?_) (fun z => ?_) | refine e_if_gt (tgt := 204) rfl rfl (fun z => ?_) (fun z => ?_)
                · refine e_ldc2 rfl k1_49 ?_
                  refine e_lreturn rfl rfl ?_
                  rw [if_pos (Or.inl (by assumption))] at hbin
                  rw [evW_none hbin] at hq
                  exact hq _ (fun c hc => u2_row _ _ hc)
                · refine e_aload_n rfl rfl ?_
                  refine e_getP rfl f1_21 (by assumption) rfl (by assumption) ?_
                  refine e_iload_n rfl rfl ?_
                  refine e_iconst (v := nI 1) rfl ic_1N ?_
                  first | refine e_isubN rfl (by omega) ?_ | refine e_isub rfl ?_
                  first | refine e_laloadN rfl (by assumption) (by omega) (by omega) ?_ | (refine e_laload rfl (by assumption) ?_ ?_; rotate_left)
                  simp only [show r.length + 1 - 1 = r.length by omega, u2_at]
                  refine e_ldc2 rfl k1_59 ?_
                  refine e_lcmp rfl ?_
                  first | refine e_if_geC (tgt := 208) rfl rfl (fun z => ?_) (fun z => ?_) | refine e_if_geN (tgt := 208) rfl rfl (by omega) ?_ | refine e_if_ge (tgt := 208) rfl rfl (fun z => ?_) (fun z => ?_)
                  · first | refine e_inc4 rfl rfl rfl (incN1 _) ?_ | refine e_inc4 rfl rfl rfl rfl ?_
                    refine e_goto (tgt := 22) rfl rfl ?_
                    rw [if_neg (fun q => q.elim (by assumption) (fun q => absurd (Int64.not_lt.mpr (by assumption)) (fun p => p q)))] at hbin
                    rw [evW_some hbin] at hq
                    exact put _ r _ (by omega) hp.2.2 hq
                  · refine e_ldc2 rfl k1_49 ?_
                    refine e_lreturn rfl rfl ?_
                    rw [if_pos (Or.inr (Int64.not_le.mp (by assumption)))] at hbin
                    rw [evW_none hbin] at hq
                    exact hq _ (fun c hc => u2_row _ _ hc)
              | [], _, _, _, z => simp at z
              | [y], _, _, _, z => simp at z
          · have z19 : -(I (a + 1) i) = nI 19 := by assumption
            refine e_iload_n rfl rfl ?_
            refine e_iconst (v := nI 1) rfl ic_1N ?_
            first | refine e_icmp_ltN (tgt := 139) rfl rfl (by omega) (by omega) (fun z => ?_) (fun z => ?_) | refine e_icmp_lt (tgt := 139) rfl rfl (fun z => ?_) (fun z => ?_)
            · refine e_iload_n rfl rfl ?_
              refine e_iconst (v := nI 2) rfl ic_2N ?_
              first | refine e_icmp_ltN (tgt := 208) rfl rfl (by omega) (by omega) (fun z => ?_) (fun z => ?_) | refine e_icmp_lt (tgt := 208) rfl rfl (fun z => ?_) (fun z => ?_)
              · first | refine e_inc4 rfl rfl rfl (incN1 _) ?_ | refine e_inc4 rfl rfl rfl rfl ?_
                refine e_goto (tgt := 22) rfl rfl ?_
                refine ih (i + 1) pl J _ (by omega) (by omega) hp ?_
                have z1 : pl.length < 1 := by assumption
                match pl, hq, z1 with
                | [], hq, _ => rw [evW_some (stW_nil zt hn)] at hq; exact hq
                | y :: r, _, z1 => simp at z1
              · omega
            · match pl, hp, hl, hq, z with
              | [], _, _, _, z => simp at z
              | y :: r, hp, hl, hq, z =>
                have hp1 : J (a + 4) r.length = y := hp.1
                simp only [List.length_cons] at hl
                have hq2 : ∀ J', (∀ c, c ≠ a + 4 → J' c = J c) → Q (some (.long (evW (I (a + 1)) (I b) k (i + 1) ((if y = 0 then 1 else 0) :: r)))) (I, J', K) := by
                  rw [evW_some (stW_not zt hn z19)] at hq
                  exact hq
                simp only [List.length_cons]
                refine e_aload_n rfl rfl ?_
                refine e_getP rfl f1_21 (by assumption) rfl (by assumption) ?_
                refine e_iload_n rfl rfl ?_
                refine e_iconst (v := nI 1) rfl ic_1N ?_
                first | refine e_isubN rfl (by omega) ?_ | refine e_isub rfl ?_
                refine e_aload_n rfl rfl ?_
                refine e_getP rfl f1_21 (by assumption) rfl (by assumption) ?_
                refine e_iload_n rfl rfl ?_
                refine e_iconst (v := nI 1) rfl ic_1N ?_
                first | refine e_isubN rfl (by omega) ?_ | refine e_isub rfl ?_
                first | refine e_laloadN rfl (by assumption) (by omega) (by omega) ?_ | (refine e_laload rfl (by assumption) ?_ ?_; rotate_left)
                simp only [show r.length + 1 - 1 = r.length by omega, hp1]
                refine e_lconst (v := 0) rfl rfl ?_
                refine e_lcmp rfl ?_
                first | refine e_if_neC (tgt := 134) rfl rfl (fun z => ?_) (fun z => ?_) | refine e_if_neB (tgt := 134) rfl rfl (fun z => ?_) (fun z => ?_) | refine e_if_neN (tgt := 134) rfl rfl (by omega) (fun z => ?_) (fun z => ?_) | refine e_if_ne (tgt := 134) rfl rfl (fun z => ?_) (fun z => ?_)
                · refine e_lconst (v := 0) rfl rfl ?_
                  first | refine e_lastoreN rfl (by assumption) (by omega) (by omega) ?_ | (refine e_lastore rfl (by assumption) ?_ ?_; rotate_left)
                  refine e_goto (tgt := 208) rfl rfl ?_
                  first | refine e_inc4 rfl rfl rfl (incN1 _) ?_ | refine e_inc4 rfl rfl rfl rfl ?_
                  refine e_goto (tgt := 22) rfl rfl ?_
                  rw [if_neg (by assumption)] at hq2
                  exact put _ r _ (by omega) hp.2 hq2
                · refine e_lconst (v := 1) rfl rfl ?_
                  refine e_goto (tgt := 135) rfl rfl ?_
                  first | refine e_lastoreN rfl (by assumption) (by omega) (by omega) ?_ | (refine e_lastore rfl (by assumption) ?_ ?_; rotate_left)
                  refine e_goto (tgt := 208) rfl rfl ?_
                  first | refine e_inc4 rfl rfl rfl (incN1 _) ?_ | refine e_inc4 rfl rfl rfl rfl ?_
                  refine e_goto (tgt := 22) rfl rfl ?_
                  rw [if_pos (by assumption)] at hq2
                  exact put _ r _ (by omega) hp.2 hq2
        refine e_iload rfl rfl ?_
        refine e_bipush (v := nI 12) rfl bp_12N ?_
        first | refine e_icmp_ltN (tgt := 98) rfl rfl (by omega) (by omega) (fun z => ?_) (fun z => ?_) | refine e_icmp_lt (tgt := 98) rfl rfl (fun z => ?_) (fun z => ?_)
        · exact notn (fun q => absurd q.1 (Int32.not_le.mpr (by assumption)))
        · refine e_iload rfl rfl ?_
          refine e_bipush (v := nI 18) rfl bp_18N ?_
          first | refine e_icmp_gtN (tgt := 98) rfl rfl (by omega) (by omega) (fun z => ?_) (fun z => ?_) | refine e_icmp_gt (tgt := 98) rfl rfl (fun z => ?_) (fun z => ?_)
          · exact notn (fun q => absurd q.2 (Int32.not_le.mpr (by assumption)))
          · have hr : nI 12 ≤ -(I (a + 1) i) ∧ -(I (a + 1) i) ≤ nI 18 := ⟨Int32.not_lt.mp (by assumption), Int32.not_lt.mp (by assumption)⟩
            obtain ⟨j, hj, ej⟩ := nI12 hr.1 hr.2
            rw [evW_some (stW_nam zt hr), ej, nI_clamp (by omega)] at hq
            refine e_aload_n rfl rfl ?_
            refine e_getP rfl f1_21 (by assumption) rfl (by assumption) ?_
            refine e_iload_n rfl rfl ?_
            refine e_aload_n rfl rfl ?_
            refine e_iload rfl rfl ?_
            refine e_bipush (v := nI 12) rfl bp_12N ?_
            first | refine e_isubN rfl (by omega) ?_ | refine e_isub rfl ?_
            rw [ej]
            first | refine e_ialoadN rfl (by assumption) (by omega) (by omega) ?_ | (refine e_iaload rfl (by assumption) ?_ ?_; rotate_left)
            refine e_i2l rfl ?_
            first | refine e_lastoreN rfl (by assumption) (by omega) (by omega) ?_ | (refine e_lastore rfl (by assumption) ?_ ?_; rotate_left)
            first | refine e_inc3 rfl rfl rfl (incN1 _) ?_ | refine e_inc3 rfl rfl rfl rfl ?_
            refine e_goto (tgt := 208) rfl rfl ?_
            first | refine e_inc4 rfl rfl rfl (incN1 _) ?_ | refine e_inc4 rfl rfl rfl rfl ?_
            refine e_goto (tgt := 22) rfl rfl ?_
            exact put _ pl _ (by omega) hp hq
      · rw [evW_some (stW_num (by assumption))] at hq
        refine e_aload_n rfl rfl ?_
        refine e_getP rfl f1_21 (by assumption) rfl (by assumption) ?_
        refine e_iload_n rfl rfl ?_
        refine e_iload rfl rfl ?_
        refine e_ineg rfl ?_
        refine e_i2l rfl ?_
        first | refine e_lastoreN rfl (by assumption) (by omega) (by omega) ?_ | (refine e_lastore rfl (by assumption) ?_ ?_; rotate_left)
        first | refine e_inc3 rfl rfl rfl (incN1 _) ?_ | refine e_inc3 rfl rfl rfl rfl ?_
        refine e_goto (tgt := 208) rfl rfl ?_
        first | refine e_inc4 rfl rfl rfl (incN1 _) ?_ | refine e_inc4 rfl rfl rfl rfl ?_
        refine e_goto (tgt := 22) rfl rfl ?_
        exact put _ pl _ (by omega) hp hq
/-- what an E answers: MINL without the law -/
def lawV (told : Int32) (code from_ upTo nm : Nat → Int32) (w : Nat) : Int64 := if bitOf told (nI w) = true then evW code nm ((upTo w).toNatClampNeg - (from_ w).toNatClampNeg) (from_ w).toNatClampNeg [] else MINL
theorem c1_work (hS : isLaws K a) {b : Nat} (hb : K.2.1 b = (20, 7)) {w f u : Nat} (hw : w < 3) (hf : I (a + 2) w = nI f) (hu : I (a + 3) w = nI u) (hfu : f ≤ u) (hu64 : u ≤ 64) : Cw l G (d + 2) m1_work [.ref a, .int (nI w), .ref b] (I, J, K) (fun r h' => r = some (.long (lawV (I a 5) (I (a + 1)) (I (a + 2)) (I (a + 3)) (I b) w)) ∧ ∃ J', h' = (I, J', K) ∧ ∀ c, c ≠ a + 4 → J' c = J c) := by
  have hS2 := hS
  obtain ⟨h1, p0, p1, p2, p3, a1, a2, a3, a4⟩ := hS2
  refine Cw.of ok1_work rfl (rfl : argL _ _ = [.ref a, .int (nI w), .ref b, .null, .null, .null]) ?_
  refine e_aload_n rfl rfl ?_
  refine e_iload_n rfl rfl ?_
  refine e_callVp (kd := 1) (M2 := m1_has) rfl v1_45 ok1_has (c1_has h1 (nI w)) rfl (by assumption) rfl rfl rfl rfl ?_
  first | refine e_if_neB (tgt := 12) rfl rfl (fun z => ?_) (fun z => ?_) | refine e_if_neN (tgt := 12) rfl rfl (by omega) (fun z => ?_) (fun z => ?_) | refine e_if_ne (tgt := 12) rfl rfl (fun z => ?_) (fun z => ?_)
  · rw [inN_nI (by omega) (by omega), decide_eq_true hw, Bool.true_and] at z
    refine e_iconst (v := nI 0) rfl ic_0N ?_
    refine e_ist3 rfl rfl rfl ?_
    refine e_aload_n rfl rfl ?_
    refine e_getP rfl f1_15 (by assumption) rfl (by assumption) ?_
    refine e_iload_n rfl rfl ?_
    first | refine e_ialoadN rfl (by assumption) (by omega) (by omega) ?_ | (refine e_iaload rfl (by assumption) ?_ ?_; rotate_left)
    rw [hf]
    refine e_ist4 rfl rfl rfl ?_
    have e : (0 : Nat) = ([] : List Int64).length := rfl
    rw [e]
    refine work_loop hS hb hw hu hu64 (u - f) f [] J _ (by omega) (by simp) trivial ?_
    intro J' hJ
    refine ⟨?_, J', rfl, hJ⟩
    rw [lawV, if_pos z, hf, hu, nI_clamp (by omega), nI_clamp (by omega)]
  · rw [inN_nI (by omega) (by omega), decide_eq_true hw, Bool.true_and] at z
    refine e_ldc2 rfl k1_49 ?_
    refine e_lreturn rfl rfl ?_
    refine ⟨?_, J, rfl, fun _ _ => rfl⟩
    rw [lawV, if_neg (by rw [z]; decide)]
theorem c1_clear (h1 : (K.2.1 a).1 = 1) : Cw l G d m1_clear [.ref a] (I, J, K) (fun r h' => r = none ∧ h' = (u2 (u2 (u2 I a 4 (nI 0)) a 6 (nI 0)) a 5 (nI 0), J, K)) := by
  refine Cw.of ok1_clear rfl (rfl : argL _ _ = [.ref a]) ?_
  refine e_aload_n rfl rfl ?_
  refine e_iconst (v := nI 0) rfl ic_0N ?_
  refine e_putI rfl f1_25 (by assumption) rfl rfl ?_
  refine e_aload_n rfl rfl ?_
  refine e_iconst (v := nI 0) rfl ic_0N ?_
  refine e_putI rfl f1_29 (by assumption) rfl rfl ?_
  refine e_aload_n rfl rfl ?_
  refine e_iconst (v := nI 0) rfl ic_0N ?_
  refine e_putI rfl f1_32 (by assumption) rfl rfl ?_
  refine e_return rfl rfl ?_
  exact ⟨rfl, rfl⟩
theorem c1_take {o : Nat} (hS : isLaws K a) (hO : isLaws K o) (hd : a + 5 ≤ o ∨ o + 5 ≤ a) : Cw l G (d + 1) m1_take [.ref a, .ref o] (I, J, K) (fun r h' => r = none ∧ ∃ I', h' = (I', J, K) ∧ (∀ c, (c < a ∨ a + 3 < c) → I' c = I c) ∧ (∀ i, i < 64 → I' (a + 1) i = I (o + 1) i) ∧ (∀ i, i < 3 → I' (a + 2) i = I (o + 2) i ∧ I' (a + 3) i = I (o + 3) i) ∧ I' a 4 = I o 4 ∧ I' a 5 = I o 5 ∧ I' a 6 = I o 6) := by
  obtain ⟨h1, p0, p1, p2, p3, a1, a2, a3, a4⟩ := hS
  obtain ⟨h1o, p0o, p1o, p2o, p3o, a1o, a2o, a3o, a4o⟩ := hO
  have cl0 : (nI 0).toNatClampNeg = 0 := nI_clamp (by omega)
  have cl3 : (nI 3).toNatClampNeg = 3 := nI_clamp (by omega)
  have cl64 : (nI 64).toNatClampNeg = 64 := nI_clamp (by omega)
  refine Cw.of ok1_take rfl (rfl : argL _ _ = [.ref a, .ref o]) ?_
  refine e_aload_n rfl rfl ?_
  refine e_getP rfl f1_9 (by assumption) rfl (by assumption) ?_
  refine e_iconst (v := nI 0) rfl ic_0N ?_
  refine e_aload_n rfl rfl ?_
  refine e_getP rfl f1_9 (by assumption) rfl (by assumption) ?_
  refine e_iconst (v := nI 0) rfl ic_0N ?_
  refine e_bipush (v := nI 64) rfl bp_64N ?_
  refine e_copy rfl v1_35 (by assumption) (by assumption) (nI_pos (by omega)) (nI_pos (by omega)) (nI_pos (by omega)) (by rw [cl0, cl64]; omega) (by rw [cl0, cl64]; omega) rfl ?_
  refine e_aload_n rfl rfl ?_
  refine e_getP rfl f1_15 (by assumption) rfl (by assumption) ?_
  refine e_iconst (v := nI 0) rfl ic_0N ?_
  refine e_aload_n rfl rfl ?_
  refine e_getP rfl f1_15 (by assumption) rfl (by assumption) ?_
  refine e_iconst (v := nI 0) rfl ic_0N ?_
  refine e_iconst (v := nI 3) rfl ic_3N ?_
  refine e_copy rfl v1_35 (by assumption) (by assumption) (nI_pos (by omega)) (nI_pos (by omega)) (nI_pos (by omega)) (by rw [cl0, cl3]; omega) (by rw [cl0, cl3]; omega) rfl ?_
  refine e_aload_n rfl rfl ?_
  refine e_getP rfl f1_18 (by assumption) rfl (by assumption) ?_
  refine e_iconst (v := nI 0) rfl ic_0N ?_
  refine e_aload_n rfl rfl ?_
  refine e_getP rfl f1_18 (by assumption) rfl (by assumption) ?_
  refine e_iconst (v := nI 0) rfl ic_0N ?_
  refine e_iconst (v := nI 3) rfl ic_3N ?_
  refine e_copy rfl v1_35 (by assumption) (by assumption) (nI_pos (by omega)) (nI_pos (by omega)) (nI_pos (by omega)) (by rw [cl0, cl3]; omega) (by rw [cl0, cl3]; omega) rfl ?_
  refine e_aload_n rfl rfl ?_
  refine e_aload_n rfl rfl ?_
  refine e_getI rfl f1_25 (by assumption) rfl ?_
  refine e_putI rfl f1_25 (by assumption) rfl rfl ?_
  refine e_aload_n rfl rfl ?_
  refine e_aload_n rfl rfl ?_
  refine e_getI rfl f1_32 (by assumption) rfl ?_
  refine e_putI rfl f1_32 (by assumption) rfl rfl ?_
  refine e_aload_n rfl rfl ?_
  refine e_aload_n rfl rfl ?_
  refine e_getI rfl f1_29 (by assumption) rfl ?_
  refine e_putI rfl f1_29 (by assumption) rfl rfl ?_
  refine e_return rfl rfl ?_
  rw [cl0, cl3, cl64]
  refine ⟨rfl, _, rfl, ?_, ?_, ?_, ?_, ?_, ?_⟩
  · intro c hc
    funext k
    simp (disch := omega) only [u2_ne, uR_ne]
  · intro i hi
    simp (disch := omega) only [u2_ne, uR_ne, uR_at, pk_cpy_in]
    congr 1
    omega
  · intro i hi
    constructor
    · simp (disch := omega) only [u2_ne, uR_ne, uR_at, pk_cpy_in]
      congr 1
      omega
    · simp (disch := omega) only [u2_ne, uR_ne, uR_at, pk_cpy_in]
      congr 1
      omega
  · simp (disch := omega) only [u2_at, u2_nk, u2_ne, uR_ne]
  · simp (disch := omega) only [u2_at, u2_nk, u2_ne, uR_ne]
  · simp (disch := omega) only [u2_at, u2_nk, u2_ne, uR_ne]
theorem c1_begin (hS : isLaws K a) {w : Nat} (hw : w < 3) : Cw l G d m1_begin [.ref a, .int (nI w)] (I, J, K) (fun r h' => r = none ∧ h' = (u2 (u2 (u2 I a 5 (I a 5 ||| nI 1 <<< (nI w &&& 31))) (a + 2) w (I a 4)) (a + 3) w (I a 4), J, K)) := by
  obtain ⟨h1, p0, p1, p2, p3, a1, a2, a3, a4⟩ := hS
  refine Cw.of ok1_begin rfl (rfl : argL _ _ = [.ref a, .int (nI w)]) ?_
  refine e_iload_n rfl rfl ?_
  first | refine e_if_ltN (tgt := 41) rfl rfl (by omega) ?_ | refine e_if_lt (tgt := 41) rfl rfl (fun z => ?_) (fun z => ?_)
  refine e_iload_n rfl rfl ?_
  refine e_iconst (v := nI 3) rfl ic_3N ?_
  first | refine e_icmp_geN (tgt := 41) rfl rfl (by omega) (by omega) (fun z => ?_) (fun z => ?_) | refine e_icmp_ge (tgt := 41) rfl rfl (fun z => ?_) (fun z => ?_)
  · omega
  · refine e_aload_n rfl rfl ?_
    refine e_dup rfl rfl ?_
    refine e_getI rfl f1_32 (by assumption) rfl ?_
    refine e_iconst (v := nI 1) rfl ic_1N ?_
    refine e_iload_n rfl rfl ?_
    refine e_ishl rfl ?_
    refine e_ior rfl ?_
    refine e_putI rfl f1_32 (by assumption) rfl rfl ?_
    refine e_aload_n rfl rfl ?_
    refine e_getP rfl f1_15 (by assumption) rfl (by assumption) ?_
    refine e_iload_n rfl rfl ?_
    refine e_aload_n rfl rfl ?_
    refine e_getI rfl f1_25 (by assumption) rfl ?_
    first | refine e_iastoreN rfl (by assumption) (by omega) (by omega) ?_ | (refine e_iastore rfl (by assumption) ?_ ?_; rotate_left)
    refine e_aload_n rfl rfl ?_
    refine e_getP rfl f1_18 (by assumption) rfl (by assumption) ?_
    refine e_iload_n rfl rfl ?_
    refine e_aload_n rfl rfl ?_
    refine e_getI rfl f1_25 (by assumption) rfl ?_
    first | refine e_iastoreN rfl (by assumption) (by omega) (by omega) ?_ | (refine e_iastore rfl (by assumption) ?_ ?_; rotate_left)
    refine e_return rfl rfl ?_
    simp (disch := omega) only [u2_nk, u2_ne]
    exact ⟨trivial, trivial⟩
theorem c1_end (hS : isLaws K a) {w : Nat} (hw : w < 3) : Cw l G d m1_end [.ref a, .int (nI w)] (I, J, K) (fun r h' => r = none ∧ h' = (u2 I (a + 3) w (I a 4), J, K)) := by
  obtain ⟨h1, p0, p1, p2, p3, a1, a2, a3, a4⟩ := hS
  refine Cw.of ok1_end rfl (rfl : argL _ _ = [.ref a, .int (nI w)]) ?_
  refine e_iload_n rfl rfl ?_
  first | refine e_if_ltN (tgt := 19) rfl rfl (by omega) ?_ | refine e_if_lt (tgt := 19) rfl rfl (fun z => ?_) (fun z => ?_)
  refine e_iload_n rfl rfl ?_
  refine e_iconst (v := nI 3) rfl ic_3N ?_
  first | refine e_icmp_geN (tgt := 19) rfl rfl (by omega) (by omega) (fun z => ?_) (fun z => ?_) | refine e_icmp_ge (tgt := 19) rfl rfl (fun z => ?_) (fun z => ?_)
  · omega
  · refine e_aload_n rfl rfl ?_
    refine e_getP rfl f1_18 (by assumption) rfl (by assumption) ?_
    refine e_iload_n rfl rfl ?_
    refine e_aload_n rfl rfl ?_
    refine e_getI rfl f1_25 (by assumption) rfl ?_
    first | refine e_iastoreN rfl (by assumption) (by omega) (by omega) ?_ | (refine e_iastore rfl (by assumption) ?_ ?_; rotate_left)
    refine e_return rfl rfl ?_
    exact ⟨rfl, rfl⟩
theorem c1_emit (hS : isLaws K a) {z : Nat} (hz : I a 4 = nI z) (hz64 : z ≤ 64) (v : Int32) : Cw l G d m1_emit [.ref a, .int v] (I, J, K) (fun r h' => r = none ∧ h' = (if z < 64 then u2 (u2 I (a + 1) z v) a 4 (nI (z + 1)) else I, J, K)) := by
  obtain ⟨h1, p0, p1, p2, p3, a1, a2, a3, a4⟩ := hS
  refine Cw.of ok1_emit rfl (rfl : argL _ _ = [.ref a, .int v]) ?_
  refine e_aload_n rfl rfl ?_
  refine e_getI rfl f1_25 (by assumption) rfl ?_
  rw [hz]
  refine e_bipush (v := nI 64) rfl bp_64N ?_
  first | refine e_icmp_geN (tgt := 29) rfl rfl (by omega) (by omega) (fun z => ?_) (fun z => ?_) | refine e_icmp_ge (tgt := 29) rfl rfl (fun z => ?_) (fun z => ?_)
  · refine e_return rfl rfl ?_
    rw [if_neg (by omega)]
    exact ⟨rfl, rfl⟩
  · refine e_aload_n rfl rfl ?_
    refine e_getP rfl f1_9 (by assumption) rfl (by assumption) ?_
    refine e_aload_n rfl rfl ?_
    refine e_getI rfl f1_25 (by assumption) rfl ?_
    rw [hz]
    refine e_iload_n rfl rfl ?_
    first | refine e_iastoreN rfl (by assumption) (by omega) (by omega) ?_ | (refine e_iastore rfl (by assumption) ?_ ?_; rotate_left)
    refine e_aload_n rfl rfl ?_
    refine e_dup rfl rfl ?_
    refine e_getI rfl f1_25 (by assumption) rfl ?_
    rw [u2_ne _ _ (by omega), hz]
    refine e_iconst (v := nI 1) rfl ic_1N ?_
    first | refine e_iaddN rfl ?_ | refine e_iadd rfl ?_
    refine e_putI rfl f1_25 (by assumption) rfl rfl ?_
    refine e_return rfl rfl ?_
    rw [if_pos (by omega)]
    exact ⟨rfl, rfl⟩
end MLaws
end
section
/-! ===== Plan ===== -/
def isPlan (K : Kt) (p : Nat) : Prop := (K.2.1 p).1 = 3 ∧ K.1 p 0 = some (p + 1) ∧ K.1 p 1 = some (p + 6) ∧ K.1 p 2 = some (p + 13) ∧ K.1 p 3 = some (p + 17) ∧ K.1 p 4 = some (p + 22) ∧ isRows K (p + 1) 3 6 ∧ isRows K (p + 6) 5 8 ∧ isRows K (p + 13) 2 10 ∧ isRows K (p + 17) 3 8 ∧ isLaws K (p + 22)
/-- a plan as numbers: how many (kinds, tins, open, wants, code, knots), and what -/
abbrev Pl : Type := (Nat → Nat) × (Nat → Nat → Int32)
/-- the rows' room -/
def RPm (I : IM) (p : Nat) : Prop := I (p + 1) 0 = nI 6 ∧ I (p + 6) 0 = nI 8 ∧ I (p + 13) 0 = nI 10 ∧ I (p + 17) 0 = nI 8
/-- the class's plan at p tells P -/
def RP (I : IM) (p : Nat) (P : Pl) : Prop := RPm I p ∧ (I (p + 1) 2 = nI (P.1 0) ∧ P.1 0 ≤ 6) ∧ (I (p + 6) 2 = nI (P.1 1) ∧ P.1 1 ≤ 8) ∧ (I (p + 13) 2 = nI (P.1 2) ∧ P.1 2 ≤ 10) ∧ (I (p + 17) 2 = nI (P.1 3) ∧ P.1 3 ≤ 8) ∧
  (∀ j, j < 3 → ∀ i, i < P.1 0 → I (p + 3 + j) i = P.2 j i) ∧ (∀ j, j < 5 → ∀ i, i < P.1 1 → I (p + 8 + j) i = P.2 (3 + j) i) ∧ (∀ j, j < 2 → ∀ i, i < P.1 2 → I (p + 15 + j) i = P.2 (8 + j) i) ∧ (∀ j, j < 3 → ∀ i, i < P.1 3 → I (p + 19 + j) i = P.2 (10 + j) i) ∧
  (I (p + 22) 4 = nI (P.1 4) ∧ P.1 4 ≤ 64 ∧ I (p + 22) 6 = nI (P.1 5) ∧ P.1 5 ≤ 1000 ∧ I (p + 22) 5 = P.2 16 0) ∧ (∀ i, i < 64 → I (p + 23) i = P.2 13 i) ∧ (∀ i, i < 3 → I (p + 24) i = P.2 14 i ∧ I (p + 25) i = P.2 15 i) ∧
  (I p 5 = P.2 20 0 ∧ I p 6 = P.2 20 1 ∧ I p 7 = P.2 20 2 ∧ I p 8 = P.2 20 3 ∧ I p 9 = P.2 20 4)
section MPlan
variable {l : Launch} {G : GG} {d : Nat} {I : IM} {J : JM} {K : Kt} {Q : Option Value → Hp → Prop} {p : Nat}
theorem RP.frame {I' : IM} {P : Pl} (h : RP I p P) (hf : ∀ c, p ≤ c → c ≤ p + 25 → I' c = I c) : RP I' p P := by
  obtain ⟨⟨m1, m2, m3, m4⟩, ⟨s1, b1⟩, ⟨s2, b2⟩, ⟨s3, b3⟩, ⟨s4, b4⟩, c1, c2, c3, c4, ⟨l1, l2, l3, l4, l5⟩, lc, lf, ⟨k1, k2, k3, k4, k5⟩⟩ := h
  have e0 := hf p (by omega) (by omega)
  have e1 := hf (p + 1) (by omega) (by omega)
  have e2 := hf (p + 6) (by omega) (by omega)
  have e3 := hf (p + 13) (by omega) (by omega)
  have e4 := hf (p + 17) (by omega) (by omega)
  have e5 := hf (p + 22) (by omega) (by omega)
  refine ⟨⟨?_, ?_, ?_, ?_⟩, ⟨?_, b1⟩, ⟨?_, b2⟩, ⟨?_, b3⟩, ⟨?_, b4⟩, fun j hj i hi => ?_, fun j hj i hi => ?_, fun j hj i hi => ?_, fun j hj i hi => ?_, ⟨?_, l2, ?_, l4, ?_⟩, fun i hi => ?_, fun i hi => ⟨?_, ?_⟩, ⟨?_, ?_, ?_, ?_, ?_⟩⟩
  · rw [e1]; exact m1
  · rw [e2]; exact m2
  · rw [e3]; exact m3
  · rw [e4]; exact m4
  · rw [e1]; exact s1
  · rw [e2]; exact s2
  · rw [e3]; exact s3
  · rw [e4]; exact s4
  · rw [hf _ (by omega) (by omega)]; exact c1 j hj i hi
  · rw [hf _ (by omega) (by omega)]; exact c2 j hj i hi
  · rw [hf _ (by omega) (by omega)]; exact c3 j hj i hi
  · rw [hf _ (by omega) (by omega)]; exact c4 j hj i hi
  · rw [e5]; exact l1
  · rw [e5]; exact l3
  · rw [e5]; exact l5
  · rw [hf _ (by omega) (by omega)]; exact lc i hi
  · rw [hf _ (by omega) (by omega)]; exact (lf i hi).1
  · rw [hf _ (by omega) (by omega)]; exact (lf i hi).2
  · rw [e0]; exact k1
  · rw [e0]; exact k2
  · rw [e0]; exact k3
  · rw [e0]; exact k4
  · rw [e0]; exact k5
/-- a plan without LINES, over what lies in code, from, upTo -/
def P0 (f : Nat → Nat → Int32) : Pl := (fun _ => 0, fun k i => if k = 13 then f 13 i else if k = 14 then f 14 i else if k = 15 then f 15 i else if k = 20 then (if i = 0 then nI 20 else if i = 3 then -1 else if i = 4 then -1 else 0) else 0)
theorem c3_clear (hP : isPlan K p) (hm : RPm I p) : Cw l G (d + 1) m3_clear [.ref p] (I, J, K) (fun r h' => r = none ∧ ∃ I', h' = (I', J, K) ∧ (∀ c, (c < p ∨ p + 25 < c) → I' c = I c) ∧ RP I' p (P0 (fun k i => I (p + 10 + k) i))) := by
  obtain ⟨h3, p0, p1, p2, p3, p4, r1, r2, r3, r4, r5⟩ := hP
  have q1 := r1.1
  have q2 := r2.1
  have q3 := r3.1
  have q4 := r4.1
  have q5 := r5.1
  obtain ⟨m1, m2, m3, m4⟩ := hm
  refine Cw.of ok3_clear rfl (rfl : argL _ _ = [.ref p]) ?_
  refine e_aload_n rfl rfl ?_
  refine e_getP rfl f3_14 (by assumption) rfl (by assumption) ?_
  refine e_iconst (v := nI 0) rfl ic_0N ?_
  refine e_putI rfl f3_46 (by assumption) rfl rfl ?_
  refine e_aload_n rfl rfl ?_
  refine e_getP rfl f3_20 (by assumption) rfl (by assumption) ?_
  refine e_iconst (v := nI 0) rfl ic_0N ?_
  refine e_putI rfl f3_46 (by assumption) rfl rfl ?_
  refine e_aload_n rfl rfl ?_
  refine e_getP rfl f3_23 (by assumption) rfl (by assumption) ?_
  refine e_iconst (v := nI 0) rfl ic_0N ?_
  refine e_putI rfl f3_46 (by assumption) rfl rfl ?_
  refine e_aload_n rfl rfl ?_
  refine e_getP rfl f3_26 (by assumption) rfl (by assumption) ?_
  refine e_iconst (v := nI 0) rfl ic_0N ?_
  refine e_putI rfl f3_46 (by assumption) rfl rfl ?_
  refine e_aload_n rfl rfl ?_
  refine e_getP rfl f3_32 (by assumption) rfl (by assumption) ?_
  refine e_callV (kd := 1) (M2 := m1_clear) rfl v3_49 ok1_clear (c1_clear q5) rfl (by assumption) rfl rfl rfl rfl (fun r1 h1 q1 => ?_)
  obtain ⟨rfl, rfl⟩ := q1
  refine e_aload_n rfl rfl ?_
  refine e_bipush (v := nI 20) rfl bp_20N ?_
  refine e_putI rfl f3_36 (by assumption) rfl rfl ?_
  refine e_aload_n rfl rfl ?_
  refine e_iconst (v := nI 0) rfl ic_0N ?_
  refine e_putI rfl f3_52 (by assumption) rfl rfl ?_
  refine e_aload_n rfl rfl ?_
  refine e_iconst (v := nI 0) rfl ic_0N ?_
  refine e_putI rfl f3_55 (by assumption) rfl rfl ?_
  refine e_aload_n rfl rfl ?_
  refine e_iconst rfl ic_m1 ?_
  refine e_putI rfl f3_40 (by assumption) rfl rfl ?_
  refine e_aload_n rfl rfl ?_
  refine e_iconst rfl ic_m1 ?_
  refine e_putI rfl f3_43 (by assumption) rfl rfl ?_
  refine e_return rfl rfl ?_
  refine ⟨rfl, _, rfl, ?_, ?_⟩
  · intro c hc
    funext k
    simp (disch := omega) only [u2_ne]
  · refine ⟨⟨?_, ?_, ?_, ?_⟩, ⟨?_, Nat.zero_le _⟩, ⟨?_, Nat.zero_le _⟩, ⟨?_, Nat.zero_le _⟩, ⟨?_, Nat.zero_le _⟩, fun j hj i hi => absurd hi (Nat.not_lt_zero _), fun j hj i hi => absurd hi (Nat.not_lt_zero _), fun j hj i hi => absurd hi (Nat.not_lt_zero _), fun j hj i hi => absurd hi (Nat.not_lt_zero _), ⟨?_, Nat.zero_le _, ?_, Nat.zero_le _, ?_⟩, fun i hi => ?_, fun i hi => ⟨?_, ?_⟩, ⟨?_, ?_, ?_, ?_, ?_⟩⟩
    · simp (disch := omega) only [u2_at, u2_nk, u2_ne]; exact m1
    · simp (disch := omega) only [u2_at, u2_nk, u2_ne]; exact m2
    · simp (disch := omega) only [u2_at, u2_nk, u2_ne]; exact m3
    · simp (disch := omega) only [u2_at, u2_nk, u2_ne]; exact m4
    · simp (disch := omega) only [u2_at, u2_nk, u2_ne]; rfl
    · simp (disch := omega) only [u2_at, u2_nk, u2_ne]; rfl
    · simp (disch := omega) only [u2_at, u2_nk, u2_ne]; rfl
    · simp (disch := omega) only [u2_at, u2_nk, u2_ne]; rfl
    · simp (disch := omega) only [u2_at, u2_nk, u2_ne]; rfl
    · simp (disch := omega) only [u2_at, u2_nk, u2_ne]; rfl
    · simp (disch := omega) only [u2_at, u2_nk, u2_ne]; rfl
    · simp (disch := omega) only [u2_at, u2_nk, u2_ne]; rfl
    · simp (disch := omega) only [u2_at, u2_nk, u2_ne]; rfl
    · simp (disch := omega) only [u2_at, u2_nk, u2_ne]; rfl
    · simp (disch := omega) only [u2_at, u2_nk, u2_ne]; rfl
    · simp (disch := omega) only [u2_at, u2_nk, u2_ne]; rfl
    · simp (disch := omega) only [u2_at, u2_nk, u2_ne]; rfl
    · simp (disch := omega) only [u2_at, u2_nk, u2_ne]; rfl
    · simp (disch := omega) only [u2_at, u2_nk, u2_ne]; rfl
theorem c3_take {o : Nat} {P : Pl} (hP : isPlan K p) (hO : isPlan K o) (hd : p + 27 ≤ o ∨ o + 27 ≤ p) (hm : RPm I p) (hT : RP I o P) : Cw l G (d + 2) m3_take [.ref p, .ref o] (I, J, K) (fun r h' => r = none ∧ ∃ I', h' = (I', J, K) ∧ (∀ c, (c < p ∨ p + 25 < c) → I' c = I c) ∧ RP I' p P) := by
  obtain ⟨h3, p0, p1, p2, p3, p4, r1, r2, r3, r4, r5⟩ := hP
  obtain ⟨h3o, p0o, p1o, p2o, p3o, p4o, r1o, r2o, r3o, r4o, r5o⟩ := hO
  have q1 := r1.1
  have q2 := r2.1
  have q3 := r3.1
  have q4 := r4.1
  have q5 := r5.1
  obtain ⟨m1, m2, m3, m4⟩ := hm
  obtain ⟨-, ⟨s1, b1⟩, ⟨s2, b2⟩, ⟨s3, b3⟩, ⟨s4, b4⟩, c1, c2, c3, c4, ⟨l1, l2, l3, l4, l5⟩, lc, lf, ⟨k1, k2, k3, k4, k5⟩⟩ := hT
  refine Cw.of ok3_take rfl (rfl : argL _ _ = [.ref p, .ref o]) ?_
  refine e_aload_n rfl rfl ?_
  refine e_getP rfl f3_14 (by assumption) rfl (by assumption) ?_
  refine e_aload_n rfl rfl ?_
  refine e_getP rfl f3_14 (by assumption) rfl (by assumption) ?_
  refine e_callV (kd := 4) (M2 := m4_take) rfl v3_58 ok4_take (c4_take r1 r1o (by omega) m1 s1 b1) rfl (by assumption) rfl rfl rfl rfl (fun r1 h1 q1 => ?_)
  obtain ⟨rfl, I1, rfl, a1, f1, d1⟩ := q1
  have x2 : I1 (p + 6) 0 = nI 8 := by rw [f1 _ (by omega)]; exact m2
  have y2 : I1 (o + 6) 2 = nI (P.1 1) := by rw [f1 _ (by omega)]; exact s2
  refine e_aload_n rfl rfl ?_
  refine e_getP rfl f3_20 (by assumption) rfl (by assumption) ?_
  refine e_aload_n rfl rfl ?_
  refine e_getP rfl f3_20 (by assumption) rfl (by assumption) ?_
  refine e_callV (kd := 4) (M2 := m4_take) rfl v3_58 ok4_take (c4_take r2 r2o (by omega) x2 y2 b2) rfl (by assumption) rfl rfl rfl rfl (fun r1 h1 q1 => ?_)
  obtain ⟨rfl, I2, rfl, a2, f2, d2⟩ := q1
  have x3 : I2 (p + 13) 0 = nI 10 := by rw [f2 _ (by omega), f1 _ (by omega)]; exact m3
  have y3 : I2 (o + 13) 2 = nI (P.1 2) := by rw [f2 _ (by omega), f1 _ (by omega)]; exact s3
  refine e_aload_n rfl rfl ?_
  refine e_getP rfl f3_23 (by assumption) rfl (by assumption) ?_
  refine e_aload_n rfl rfl ?_
  refine e_getP rfl f3_23 (by assumption) rfl (by assumption) ?_
  refine e_callV (kd := 4) (M2 := m4_take) rfl v3_58 ok4_take (c4_take r3 r3o (by omega) x3 y3 b3) rfl (by assumption) rfl rfl rfl rfl (fun r1 h1 q1 => ?_)
  obtain ⟨rfl, I3, rfl, a3, f3, d3⟩ := q1
  have x4 : I3 (p + 17) 0 = nI 8 := by rw [f3 _ (by omega), f2 _ (by omega), f1 _ (by omega)]; exact m4
  have y4 : I3 (o + 17) 2 = nI (P.1 3) := by rw [f3 _ (by omega), f2 _ (by omega), f1 _ (by omega)]; exact s4
  refine e_aload_n rfl rfl ?_
  refine e_getP rfl f3_26 (by assumption) rfl (by assumption) ?_
  refine e_aload_n rfl rfl ?_
  refine e_getP rfl f3_26 (by assumption) rfl (by assumption) ?_
  refine e_callV (kd := 4) (M2 := m4_take) rfl v3_58 ok4_take (c4_take r4 r4o (by omega) x4 y4 b4) rfl (by assumption) rfl rfl rfl rfl (fun r1 h1 q1 => ?_)
  obtain ⟨rfl, I4, rfl, a4, f4, d4⟩ := q1
  refine e_aload_n rfl rfl ?_
  refine e_getP rfl f3_32 (by assumption) rfl (by assumption) ?_
  refine e_aload_n rfl rfl ?_
  refine e_getP rfl f3_32 (by assumption) rfl (by assumption) ?_
  refine e_callV (kd := 1) (M2 := m1_take) rfl v3_62 ok1_take (c1_take r5 r5o (by omega)) rfl (by assumption) rfl rfl rfl rfl (fun r1 h1 q1 => ?_)
  obtain ⟨rfl, I5, rfl, f5, t1, t2, t3, t4, t5⟩ := q1
  refine e_aload_n rfl rfl ?_
  refine e_aload_n rfl rfl ?_
  refine e_getI rfl f3_36 (by assumption) rfl ?_
  refine e_putI rfl f3_36 (by assumption) rfl rfl ?_
  refine e_aload_n rfl rfl ?_
  refine e_aload_n rfl rfl ?_
  refine e_getI rfl f3_52 (by assumption) rfl ?_
  refine e_putI rfl f3_52 (by assumption) rfl rfl ?_
  refine e_aload_n rfl rfl ?_
  refine e_aload_n rfl rfl ?_
  refine e_getI rfl f3_55 (by assumption) rfl ?_
  refine e_putI rfl f3_55 (by assumption) rfl rfl ?_
  refine e_aload_n rfl rfl ?_
  refine e_aload_n rfl rfl ?_
  refine e_getI rfl f3_40 (by assumption) rfl ?_
  refine e_putI rfl f3_40 (by assumption) rfl rfl ?_
  refine e_aload_n rfl rfl ?_
  refine e_aload_n rfl rfl ?_
  refine e_getI rfl f3_43 (by assumption) rfl ?_
  refine e_putI rfl f3_43 (by assumption) rfl rfl ?_
  refine e_return rfl rfl ?_
  have g1 : ∀ c, (c < p + 1 ∨ p + 5 < c) → I1 c = I c := fun c hc => f1 c (by omega)
  have g2 : ∀ c, (c < p + 6 ∨ p + 12 < c) → I2 c = I1 c := fun c hc => f2 c (by omega)
  have g3 : ∀ c, (c < p + 13 ∨ p + 16 < c) → I3 c = I2 c := fun c hc => f3 c (by omega)
  have g4 : ∀ c, (c < p + 17 ∨ p + 21 < c) → I4 c = I3 c := fun c hc => f4 c (by omega)
  have g5 : ∀ c, (c < p + 22 ∨ p + 25 < c) → I5 c = I4 c := fun c hc => f5 c (by omega)
  have base : ∀ c, (c < p + 1 ∨ p + 25 < c) → I5 c = I c := fun c hc => by rw [g5 c (by omega), g4 c (by omega), g3 c (by omega), g2 c (by omega), g1 c (by omega)]
  have old4 : ∀ c, (c < p + 1 ∨ p + 21 < c) → I4 c = I c := fun c hc => by rw [g4 c (by omega), g3 c (by omega), g2 c (by omega), g1 c (by omega)]
  refine ⟨rfl, _, rfl, ?_, ?_⟩
  · intro c hc
    funext k
    simp (disch := omega) only [u2_ne]
    rw [base c (by omega)]
  · refine ⟨⟨?_, ?_, ?_, ?_⟩, ⟨?_, b1⟩, ⟨?_, b2⟩, ⟨?_, b3⟩, ⟨?_, b4⟩, fun j hj i hi => ?_, fun j hj i hi => ?_, fun j hj i hi => ?_, fun j hj i hi => ?_, ⟨?_, l2, ?_, l4, ?_⟩, fun i hi => ?_, fun i hi => ⟨?_, ?_⟩, ⟨?_, ?_, ?_, ?_, ?_⟩⟩
    · simp (disch := omega) only [u2_ne]; rw [g5 _ (by omega), g4 _ (by omega), g3 _ (by omega), g2 _ (by omega), a1, u2_nk _ _ (by omega)]; exact m1
    · simp (disch := omega) only [u2_ne]; rw [g5 _ (by omega), g4 _ (by omega), g3 _ (by omega), a2, u2_nk _ _ (by omega)]; exact x2
    · simp (disch := omega) only [u2_ne]; rw [g5 _ (by omega), g4 _ (by omega), a3, u2_nk _ _ (by omega)]; exact x3
    · simp (disch := omega) only [u2_ne]; rw [g5 _ (by omega), a4, u2_nk _ _ (by omega)]; exact x4
    · simp (disch := omega) only [u2_ne]; rw [g5 _ (by omega), g4 _ (by omega), g3 _ (by omega), g2 _ (by omega), a1, u2_at]
    · simp (disch := omega) only [u2_ne]; rw [g5 _ (by omega), g4 _ (by omega), g3 _ (by omega), a2, u2_at]
    · simp (disch := omega) only [u2_ne]; rw [g5 _ (by omega), g4 _ (by omega), a3, u2_at]
    · simp (disch := omega) only [u2_ne]; rw [g5 _ (by omega), a4, u2_at]
    · simp (disch := omega) only [u2_ne]; rw [g5 _ (by omega), g4 _ (by omega), g3 _ (by omega), g2 _ (by omega), d1 j hj i hi]; exact c1 j hj i hi
    · simp (disch := omega) only [u2_ne]; rw [g5 _ (by omega), g4 _ (by omega), g3 _ (by omega), d2 j hj i hi, g1 _ (by omega)]; exact c2 j hj i hi
    · simp (disch := omega) only [u2_ne]; rw [g5 _ (by omega), g4 _ (by omega), d3 j hj i hi, g2 _ (by omega), g1 _ (by omega)]; exact c3 j hj i hi
    · simp (disch := omega) only [u2_ne]; rw [g5 _ (by omega), d4 j hj i hi, g3 _ (by omega), g2 _ (by omega), g1 _ (by omega)]; exact c4 j hj i hi
    · simp (disch := omega) only [u2_ne]; rw [t3, old4 _ (by omega)]; exact l1
    · simp (disch := omega) only [u2_ne]; rw [t5, old4 _ (by omega)]; exact l3
    · simp (disch := omega) only [u2_ne]; rw [t4, old4 _ (by omega)]; exact l5
    · simp (disch := omega) only [u2_ne]; rw [t1 i hi, old4 _ (by omega)]; exact lc i hi
    · simp (disch := omega) only [u2_ne]; rw [(t2 i hi).1, old4 _ (by omega)]; exact (lf i hi).1
    · simp (disch := omega) only [u2_ne]; rw [(t2 i hi).2, old4 _ (by omega)]; exact (lf i hi).2
    · simp (disch := omega) only [u2_at, u2_nk, u2_ne]; rw [base o (by omega)]; exact k1
    · simp (disch := omega) only [u2_at, u2_nk, u2_ne]; rw [base o (by omega)]; exact k2
    · simp (disch := omega) only [u2_at, u2_nk, u2_ne]; rw [base o (by omega)]; exact k3
    · simp (disch := omega) only [u2_at, u2_nk, u2_ne]; rw [base o (by omega)]; exact k4
    · simp (disch := omega) only [u2_at, u2_nk, u2_ne]; rw [base o (by omega)]; exact k5
end MPlan
end
section
/-! ===== State.begin; Told; Steps ===== -/
theorem rAt_nI {I : IM} {a s j i : Nat} (hi : i < s) (hs : s < 2 ^ 31) : rAt I a s j (nI i) = I (a + 2 + j) i := by
  rw [rAt, if_pos ⟨nI_pos' (by omega), (nI_ltI (by omega) hs).mpr hi⟩, nI_clamp (by omega)]
/-- the class's state at s is S: 0 status, 1 dents, 2 stack, 4 fresh, 5 served, 6 wants, 8 .. 13 day, keys, glory, met, missed, refused, 14 number; 100 + t: who lies above t -/
def RC (I : IM) (J : JM) (s n : Nat) (S : Nat → Nat → Int32) : Prop := I s 7 = nI n ∧ n ≤ 8 ∧ (∀ t, t < n → I (s + 1) t = S 0 t ∧ I (s + 2) t = S 1 t ∧ I (s + 3) t = S 2 t ∧ I (s + 5) t = S 4 t ∧ I (s + 6) t = S 5 t) ∧
  (∀ t, t < n → ∀ u, u < n → S (100 + t) u = bI (decide (I (s + 3) u = I (s + 3) t ∧ I (s + 4) t < I (s + 4) u))) ∧ (∀ w, w < 8 → I (s + 7) w = S 6 w) ∧ (I s 8 = S 8 0 ∧ I s 9 = S 9 0 ∧ I s 10 = S 10 0 ∧ I s 11 = S 11 0 ∧ I s 12 = S 12 0 ∧ I s 13 = S 13 0) ∧ J s 14 = (S 14 0).toInt64
/-- heights: small, of one stack apart -/
def HC (I : IM) (s n B : Nat) : Prop := (∀ t, t < n → ∃ j, j ≤ B ∧ I (s + 4) t = nI j) ∧ ∀ t, t < n → ∀ u, u < n → t ≠ u → I (s + 3) t = I (s + 3) u → I (s + 4) t ≠ I (s + 4) u
/-- the state at first -/
def beg (P : Pl) : Nat → Nat → Int32 := fun k t => if k = 1 then P.2 5 t else if k = 2 then P.2 7 t else if k = 9 then P.2 20 0 else if k = 14 then P.2 20 2 else if 100 ≤ k then bI (decide (P.2 7 t = P.2 7 (k - 100) ∧ k - 100 < t)) else 0
section MBegin
variable {l : Launch} {G : GG} {d : Nat} {I : IM} {J : JM} {K : Kt} {Q : Option Value → Hp → Prop} {p s n : Nat} {P : Pl}
theorem begin_loop (hS : isState K s) (hP : isPlan K p) (hd : p + 27 ≤ s) (hn : P.1 1 = n) : ∀ k i I, i + k = n → I s 7 = nI n → RP I p P → (∀ I', (∀ c, (c < s + 1 ∨ s + 6 < c) → I' c = I c) → (∀ t, t < i → ∀ c, I' c t = I c t) → (∀ t, i ≤ t → t < n → I' (s + 1) t = nI 0 ∧ I' (s + 2) t = P.2 5 t ∧ I' (s + 3) t = P.2 7 t ∧ I' (s + 4) t = nI t ∧ I' (s + 5) t = nI 0 ∧ I' (s + 6) t = nI 0) → Gw l G (d + 2) m6_begin 90 [.ref s, .ref p, .int (nI n)] [] (I', J, K) Q) → Gw l G (d + 2) m6_begin 18 [.ref s, .ref p, .int (nI i)] [] (I, J, K) Q := by
  obtain ⟨h6, p0, p1, p2, p3, p4, p5, p6, a1, a2, a3, a4, a5, a6, a7⟩ := hS
  obtain ⟨h3, q0, q1, q2, q3, q4, r1, r2, r3, r4, r5⟩ := hP
  have hr2 := r2.1
  intro k
  induction k with
  | zero =>
    intro i I hi h7 hR hq
    have hn8 : n ≤ 8 := by rw [← hn]; exact hR.2.2.1.2
    refine e_iload_n rfl rfl ?_
    refine e_aload_n rfl rfl ?_
    refine e_getI rfl f6_51 (by assumption) rfl ?_
    rw [h7]
    first | refine e_icmp_geN (tgt := 90) rfl rfl (by omega) (by omega) (fun z => ?_) (fun z => ?_) | refine e_icmp_ge (tgt := 90) rfl rfl (fun z => ?_) (fun z => ?_)
    · rw [show i = n by omega]
      exact hq I (fun _ _ => rfl) (fun _ _ _ => rfl) (fun t h1 h2 => by omega)
    · omega
  | succ k ih =>
    intro i I hi h7 hR hq
    have hn8 : n ≤ 8 := by rw [← hn]; exact hR.2.2.1.2
    have hz : I (p + 6) 2 = nI n := by rw [← hn]; exact hR.2.2.1.1
    have d5 : I (p + 6 + 2 + 2) i = P.2 5 i := hR.2.2.2.2.2.2.1 2 (by omega) i (by omega)
    have d7 : I (p + 6 + 2 + 4) i = P.2 7 i := hR.2.2.2.2.2.2.1 4 (by omega) i (by omega)
    refine e_iload_n rfl rfl ?_
    refine e_aload_n rfl rfl ?_
    refine e_getI rfl f6_51 (by assumption) rfl ?_
    rw [h7]
    first | refine e_icmp_geN (tgt := 90) rfl rfl (by omega) (by omega) (fun z => ?_) (fun z => ?_) | refine e_icmp_ge (tgt := 90) rfl rfl (fun z => ?_) (fun z => ?_)
    · omega
    · refine e_aload_n rfl rfl ?_
      refine e_getP rfl f6_9 (by assumption) rfl (by assumption) ?_
      refine e_iload_n rfl rfl ?_
      refine e_iconst (v := nI 0) rfl ic_0N ?_
      first | refine e_iastoreN rfl (by assumption) (by omega) (by omega) ?_ | (refine e_iastore rfl (by assumption) ?_ ?_; rotate_left)
      refine e_aload_n rfl rfl ?_
      refine e_getP rfl f6_15 (by assumption) rfl (by assumption) ?_
      refine e_iload_n rfl rfl ?_
      refine e_aload_n rfl rfl ?_
      refine e_getP rfl f6_33 (by assumption) rfl (by assumption) ?_
      refine e_iload_n rfl rfl ?_
      refine e_iconst (v := nI 2) rfl ic_2N ?_
      refine e_callVp (kd := 4) (M2 := m4_at) rfl v6_53 ok4_at (c4_at r2 (s := n) (by simp (disch := omega) only [u2_ne]; exact hz) hn8 (by omega) _) rfl (by assumption) rfl rfl rfl rfl ?_
      rw [rAt_nI (by omega) (by omega)]
      simp (disch := omega) only [u2_ne]
      rw [d5]
      first | refine e_iastoreN rfl (by assumption) (by omega) (by omega) ?_ | (refine e_iastore rfl (by assumption) ?_ ?_; rotate_left)
      refine e_aload_n rfl rfl ?_
      refine e_getP rfl f6_18 (by assumption) rfl (by assumption) ?_
      refine e_iload_n rfl rfl ?_
      refine e_aload_n rfl rfl ?_
      refine e_getP rfl f6_33 (by assumption) rfl (by assumption) ?_
      refine e_iload_n rfl rfl ?_
      refine e_iconst (v := nI 4) rfl ic_4N ?_
      refine e_callVp (kd := 4) (M2 := m4_at) rfl v6_53 ok4_at (c4_at r2 (s := n) (by simp (disch := omega) only [u2_ne]; exact hz) hn8 (by omega) _) rfl (by assumption) rfl rfl rfl rfl ?_
      rw [rAt_nI (by omega) (by omega)]
      simp (disch := omega) only [u2_ne]
      rw [d7]
      first | refine e_iastoreN rfl (by assumption) (by omega) (by omega) ?_ | (refine e_iastore rfl (by assumption) ?_ ?_; rotate_left)
      refine e_aload_n rfl rfl ?_
      refine e_getP rfl f6_21 (by assumption) rfl (by assumption) ?_
      refine e_iload_n rfl rfl ?_
      refine e_iload_n rfl rfl ?_
      first | refine e_iastoreN rfl (by assumption) (by omega) (by omega) ?_ | (refine e_iastore rfl (by assumption) ?_ ?_; rotate_left)
      refine e_aload_n rfl rfl ?_
      refine e_getP rfl f6_24 (by assumption) rfl (by assumption) ?_
      refine e_iload_n rfl rfl ?_
      refine e_iconst (v := nI 0) rfl ic_0N ?_
      first | refine e_iastoreN rfl (by assumption) (by omega) (by omega) ?_ | (refine e_iastore rfl (by assumption) ?_ ?_; rotate_left)
      refine e_aload_n rfl rfl ?_
      refine e_getP rfl f6_27 (by assumption) rfl (by assumption) ?_
      refine e_iload_n rfl rfl ?_
      refine e_iconst (v := nI 0) rfl ic_0N ?_
      first | refine e_iastoreN rfl (by assumption) (by omega) (by omega) ?_ | (refine e_iastore rfl (by assumption) ?_ ?_; rotate_left)
      first | refine e_inc2 rfl rfl rfl (incN1 _) ?_ | refine e_inc2 rfl rfl rfl rfl ?_
      refine e_goto (tgt := 18) rfl rfl ?_
      refine ih (i + 1) _ (by omega) ?_ (hR.frame ?_) ?_
      · simp (disch := omega) only [u2_ne]; exact h7
      · intro c h1 h2
        funext x
        simp (disch := omega) only [u2_ne]
      · intro I' e1 e2 e3
        refine hq I' (fun c hc => ?_) (fun t ht c => ?_) (fun t h1 h2 => ?_)
        · rw [e1 c hc]
          funext x
          simp (disch := omega) only [u2_ne]
        · rw [e2 t (by omega)]
          simp (disch := omega) only [u2_nk]
        · by_cases ht : t = i
          · subst ht
            rw [e2 t (by omega), e2 t (by omega), e2 t (by omega), e2 t (by omega), e2 t (by omega), e2 t (by omega)]
            simp (disch := omega) only [u2_at, u2_ne]
            exact ⟨trivial, trivial, trivial, trivial, trivial, trivial⟩
          · exact e3 t (by omega) h2
theorem begin_loop2 (hS : isState K s) : ∀ k i I, i + k = 8 → (∀ I', (∀ c, c ≠ s + 7 → I' c = I c) → (∀ w, w < i → I' (s + 7) w = I (s + 7) w) → (∀ w, i ≤ w → w < 8 → I' (s + 7) w = nI 0) → Gw l G (d + 2) m6_begin 111 [.ref s, .ref p, .int (nI 8)] [] (I', J, K) Q) → Gw l G (d + 2) m6_begin 92 [.ref s, .ref p, .int (nI i)] [] (I, J, K) Q := by
  obtain ⟨h6, p0, p1, p2, p3, p4, p5, p6, a1, a2, a3, a4, a5, a6, a7⟩ := hS
  intro k
  induction k with
  | zero =>
    intro i I hi hq
    refine e_iload_n rfl rfl ?_
    refine e_bipush (v := nI 8) rfl bp_8N ?_
    first | refine e_icmp_geN (tgt := 111) rfl rfl (by omega) (by omega) (fun z => ?_) (fun z => ?_) | refine e_icmp_ge (tgt := 111) rfl rfl (fun z => ?_) (fun z => ?_)
    · rw [show i = 8 by omega]
      exact hq I (fun _ _ => rfl) (fun _ _ => rfl) (fun t h1 h2 => by omega)
    · omega
  | succ k ih =>
    intro i I hi hq
    refine e_iload_n rfl rfl ?_
    refine e_bipush (v := nI 8) rfl bp_8N ?_
    first | refine e_icmp_geN (tgt := 111) rfl rfl (by omega) (by omega) (fun z => ?_) (fun z => ?_) | refine e_icmp_ge (tgt := 111) rfl rfl (fun z => ?_) (fun z => ?_)
    · omega
    · refine e_aload_n rfl rfl ?_
      refine e_getP rfl f6_30 (by assumption) rfl (by assumption) ?_
      refine e_iload_n rfl rfl ?_
      refine e_iconst (v := nI 0) rfl ic_0N ?_
      first | refine e_iastoreN rfl (by assumption) (by omega) (by omega) ?_ | (refine e_iastore rfl (by assumption) ?_ ?_; rotate_left)
      first | refine e_inc2 rfl rfl rfl (incN1 _) ?_ | refine e_inc2 rfl rfl rfl rfl ?_
      refine e_goto (tgt := 92) rfl rfl ?_
      refine ih (i + 1) _ (by omega) ?_
      intro I' e1 e2 e3
      refine hq I' (fun c hc => ?_) (fun w hw => ?_) (fun w h1 h2 => ?_)
      · rw [e1 c hc, u2_row _ _ hc]
      · rw [e2 w (by omega), u2_nk _ _ (by omega)]
      · by_cases hw : w = i
        · subst hw
          rw [e2 w (by omega), u2_at]
        · exact e3 w (by omega) h2
theorem c6_begin (hS : isState K s) (hP : isPlan K p) (hd : p + 27 ≤ s) (hR : RP I p P) : Cw l G (d + 2) m6_begin [.ref s, .ref p] (I, J, K) (fun r h' => r = none ∧ ∃ I' J', h' = (I', J', K) ∧ (∀ c, (c < s ∨ s + 7 < c) → I' c = I c) ∧ (∀ c, c ≠ s → J' c = J c) ∧ RC I' J' s (P.1 1) (beg P) ∧ HC I' s (P.1 1) 8) := by
  have hS2 := hS
  have hP2 := hP
  obtain ⟨h6, p0, p1, p2, p3, p4, p5, p6, a1, a2, a3, a4, a5, a6, a7⟩ := hS2
  obtain ⟨h3, q0, q1, q2, q3, q4, r1, r2, r3, r4, r5⟩ := hP2
  have hr2 := r2.1
  have hn8 : P.1 1 ≤ 8 := hR.2.2.1.2
  have hz : I (p + 6) 2 = nI (P.1 1) := hR.2.2.1.1
  obtain ⟨n, hn⟩ : ∃ n, n = P.1 1 := ⟨_, rfl⟩
  rw [← hn] at hn8 hz
  refine Cw.of ok6_begin rfl (rfl : argL _ _ = [.ref s, .ref p, .null]) ?_
  refine e_aload_n rfl rfl ?_
  refine e_aload_n rfl rfl ?_
  refine e_getP rfl f6_33 (by assumption) rfl (by assumption) ?_
  refine e_getI rfl f6_39 (by assumption) rfl ?_
  rw [hz]
  refine e_bipush (v := nI 8) rfl bp_8N ?_
  refine e_min rfl v6_45 rfl ?_
  have hmin : (if nI 8 < nI n then nI 8 else nI n) = nI n := by
    rw [if_neg (fun q => absurd ((nI_ltI (by omega) (by omega)).mp q) (by omega))]
  rw [hmin]
  refine e_putI rfl f6_51 (by assumption) rfl rfl ?_
  refine e_iconst (v := nI 0) rfl ic_0N ?_
  refine e_ist2 rfl rfl rfl ?_
  refine begin_loop hS hP hd hn.symm n 0 _ (by omega) (u2_at _ _ _ _) (hR.frame (fun c h1 h2 => u2_row _ _ (by omega))) ?_
  intro I1 e1 e2 e3
  refine e_iconst (v := nI 0) rfl ic_0N ?_
  refine e_ist2 rfl rfl rfl ?_
  refine begin_loop2 hS 8 0 I1 (by omega) ?_
  intro I2 g1 g2 g3
  refine e_aload_n rfl rfl ?_
  refine e_iconst (v := nI 0) rfl ic_0N ?_
  refine e_putI rfl f6_56 (by assumption) rfl rfl ?_
  refine e_aload_n rfl rfl ?_
  refine e_aload_n rfl rfl ?_
  refine e_getI rfl f6_59 (by assumption) rfl ?_
  refine e_putI rfl f6_62 (by assumption) rfl rfl ?_
  refine e_aload_n rfl rfl ?_
  refine e_iconst (v := nI 0) rfl ic_0N ?_
  refine e_putI rfl f6_63 (by assumption) rfl rfl ?_
  refine e_aload_n rfl rfl ?_
  refine e_iconst (v := nI 0) rfl ic_0N ?_
  refine e_putI rfl f6_66 (by assumption) rfl rfl ?_
  refine e_aload_n rfl rfl ?_
  refine e_iconst (v := nI 0) rfl ic_0N ?_
  refine e_putI rfl f6_69 (by assumption) rfl rfl ?_
  refine e_aload_n rfl rfl ?_
  refine e_iconst (v := nI 0) rfl ic_0N ?_
  refine e_putI rfl f6_72 (by assumption) rfl rfl ?_
  refine e_aload_n rfl rfl ?_
  refine e_aload_n rfl rfl ?_
  refine e_getI rfl f6_75 (by assumption) rfl ?_
  refine e_i2l rfl ?_
  refine e_putJ rfl f6_78 (by assumption) rfl rfl ?_
  refine e_return rfl rfl ?_
  have hb : ∀ c, c ≠ s + 7 → (c < s ∨ s + 7 < c ∨ c = s) → I2 c = u2 I s 7 (nI n) c := fun c h1 h2 => by rw [g1 c h1, e1 c (by omega)]
  have hk5 : I p 5 = P.2 20 0 := hR.2.2.2.2.2.2.2.2.2.2.2.2.1
  have hk7 : I p 7 = P.2 20 2 := hR.2.2.2.2.2.2.2.2.2.2.2.2.2.2.1
  have hw : ∀ t, t < P.1 1 → I2 (s + 1) t = nI 0 ∧ I2 (s + 2) t = P.2 5 t ∧ I2 (s + 3) t = P.2 7 t ∧ I2 (s + 4) t = nI t ∧ I2 (s + 5) t = nI 0 ∧ I2 (s + 6) t = nI 0 := by
    intro t ht
    rw [g1 _ (by omega), g1 _ (by omega), g1 _ (by omega), g1 _ (by omega), g1 _ (by omega), g1 _ (by omega)]
    exact e3 t (by omega) (by omega)
  refine ⟨rfl, _, _, rfl, ?_, ?_, ⟨?_, by omega, ?_, ?_, ?_, ⟨?_, ?_, ?_, ?_, ?_, ?_⟩, ?_⟩, ?_, ?_⟩
  · intro c hc
    funext x
    simp (disch := omega) only [u2_ne]
    rw [hb c (by omega) (by omega), u2_ne _ _ (by omega)]
  · intro c hc
    exact u2_row _ _ hc
  · simp (disch := omega) only [u2_nk, u2_ne]
    rw [hb s (by omega) (by omega), u2_at, hn]
  · intro t ht
    simp (disch := omega) only [u2_ne]
    obtain ⟨w1, w2, w3, w4, w5, w6⟩ := hw t ht
    rw [w1, w2, w3, w5, w6]
    exact ⟨rfl, rfl, rfl, rfl, rfl⟩
  · intro t ht u hu
    simp (disch := omega) only [u2_ne]
    rw [(hw t ht).2.2.1, (hw t ht).2.2.2.1, (hw u hu).2.2.1, (hw u hu).2.2.2.1]
    unfold beg
    rw [if_neg (by omega), if_neg (by omega), if_neg (by omega), if_neg (by omega), if_pos (by omega), show 100 + t - 100 = t by omega]
    congr 1
    exact decide_eq_decide.mpr (and_congr_right fun _ => (nI_ltI (by omega) (by omega)).symm)
  · intro w hw8
    simp (disch := omega) only [u2_ne]
    rw [g3 w (by omega) hw8]
    rfl
  · simp (disch := omega) only [u2_at, u2_nk, u2_ne]; rfl
  · simp (disch := omega) only [u2_at, u2_nk, u2_ne]
    rw [hb p (by omega) (by omega), u2_ne _ _ (by omega), hk5]; rfl
  · simp (disch := omega) only [u2_at, u2_nk, u2_ne]; rfl
  · simp (disch := omega) only [u2_at, u2_nk, u2_ne]; rfl
  · simp (disch := omega) only [u2_at, u2_nk, u2_ne]; rfl
  · simp (disch := omega) only [u2_at, u2_nk, u2_ne]; rfl
  · rw [u2_at]
    simp (disch := omega) only [u2_at, u2_nk, u2_ne]
    rw [hb p (by omega) (by omega), u2_ne _ _ (by omega), hk7]; rfl
  · intro t ht
    refine ⟨t, by omega, ?_⟩
    simp (disch := omega) only [u2_ne]
    exact (hw t ht).2.2.2.1
  · intro t ht u hu htu _
    simp (disch := omega) only [u2_ne]
    rw [(hw t ht).2.2.2.1, (hw u hu).2.2.2.1]
    exact fun q => htu ((nI_eq (by omega) (by omega)).mp q)
end MBegin
end
section
/-! ===== Told: NOTES, SIGHTS, STRIKES ===== -/
def isTold (K : Kt) (b : Nat) : Prop := (K.2.1 b).1 = 8 ∧ K.1 b 0 = some (b + 1) ∧ isRows K (b + 1) 4 24
/-- m are told: T; known by kn -/
def RT (I : IM) (b m : Nat) (T : Nat → Nat → Int32) (kn : Int32) : Prop := I (b + 1) 0 = nI 24 ∧ I (b + 1) 2 = nI m ∧ m ≤ 24 ∧ (∀ j, j < 4 → ∀ i, i < m → I (b + 3 + j) i = T j i) ∧ I b 1 = kn
def hmk (kn : Int32) (m : Nat) : Int32 := if kn = -1 then nI m else if nI m < kn then nI m else kn
/-- bits of those that count, from i down -/
def cntd (T : Nat → Nat → Int32) : Nat → Int32 → Int32 → Int32
  | 0, b, _ => b
  | i + 1, b, k => if bitOf k (nI i) = true then cntd T i b k else if T 0 i = nI 3 then cntd T i (b ||| nI 1 <<< (nI i &&& 31)) (k ||| nI 1 <<< (T 1 i &&& 31)) else cntd T i (b ||| nI 1 <<< (nI i &&& 31)) k
/-- is one KIND so by all that count -/
def mbF (T : Nat → Nat → Int32) (c wt sd : Int32) : Nat → Nat → Bool
  | _, 0 => true
  | i, k + 1 => if bitOf c (nI i) = true ∧ (T 0 i = 0 ∨ T 0 i = nI 1) ∧ ¬ (T 1 i ≤ (if T 0 i = 0 then wt else sd) ↔ T 3 i = nI 1) then false else mbF T c wt sd (i + 1) k
def lsF (T : Nat → Nat → Int32) (c : Int32) : Nat → Nat → Int32 → Int32
  | _, 0, v => v
  | i, k + 1, v => lsF T c (i + 1) k (if bitOf c (nI i) = true ∧ T 0 i = nI 2 then (if v < T 1 i then T 1 i else v) else v)
/-- are the SIGHTS of a day so, by how the tins are -/
def ssF (T : Nat → Nat → Int32) (c day : Int32) (n : Nat) (st : Nat → Int32) : Nat → Nat → Bool
  | _, 0 => true
  | i, k + 1 => if bitOf c (nI i) = true ∧ T 0 i = nI 2 ∧ T 1 i = day ∧ ¬ ((inN n (T 2 i) = true ∧ st (T 2 i).toNatClampNeg = nI 3) ↔ T 3 i = nI 1) then false else ssF T c day n st (i + 1) k
section MTold
variable {l : Launch} {G : GG} {d : Nat} {I : IM} {J : JM} {K : Kt} {Q : Option Value → Hp → Prop} {b m : Nat} {T : Nat → Nat → Int32} {kn : Int32}
theorem c8_clear (hB : isTold K b) : Cw l G d m8_clear [.ref b] (I, J, K) (fun r h' => r = none ∧ h' = (u2 (u2 I (b + 1) 2 (nI 0)) b 1 (-1), J, K)) := by
  obtain ⟨h8, p0, r1⟩ := hB
  have q1 := r1.1
  refine Cw.of ok8_clear rfl (rfl : argL _ _ = [.ref b]) ?_
  refine e_aload_n rfl rfl ?_
  refine e_getP rfl f8_14 (by assumption) rfl (by assumption) ?_
  refine e_iconst (v := nI 0) rfl ic_0N ?_
  refine e_putI rfl f8_24 (by assumption) rfl rfl ?_
  refine e_aload_n rfl rfl ?_
  refine e_iconst rfl ic_m1 ?_
  refine e_putI rfl f8_20 (by assumption) rfl rfl ?_
  refine e_return rfl rfl ?_
  exact ⟨rfl, rfl⟩
theorem c8_add (hB : isTold K b) (hR : RT I b m T kn) (so mu ti : Int32) (is : Bool) : Cw l G (d + 2) m8_add [.ref b, .int so, .int mu, .int ti, .int (bI is)] (I, J, K) (fun r h' => r = some (.int (if 24 ≤ m then -1 else nI m)) ∧ ∃ I', h' = (I', J, K) ∧ (∀ c, (c ≤ b ∨ b + 6 < c) → I' c = I c) ∧ RT I' b (if 24 ≤ m then m else m + 1) (if 24 ≤ m then T else fun j i => if i = m then (if j = 0 then so else if j = 1 then mu else if j = 2 then ti else bI is) else T j i) kn) := by
  obtain ⟨h8, p0, r1⟩ := hB
  have q1 := r1.1
  have hR0 := hR
  obtain ⟨hm, hz, h24, hc, hk⟩ := hR
  refine Cw.of ok8_add rfl (rfl : argL _ _ = [.ref b, .int so, .int mu, .int ti, .int (bI is)]) ?_
  refine e_aload_n rfl rfl ?_
  refine e_getP rfl f8_14 (by assumption) rfl (by assumption) ?_
  refine e_callVp (kd := 4) (M2 := m4_isFull) rfl v8_27 ok4_isFull (c4_isFull r1 hm hz h24) rfl (by assumption) rfl rfl rfl rfl ?_
  first | refine e_if_eqB (tgt := 12) rfl rfl (fun z => ?_) (fun z => ?_) | refine e_if_eqN (tgt := 12) rfl rfl (by omega) (fun z => ?_) (fun z => ?_) | refine e_if_eq (tgt := 12) rfl rfl (fun z => ?_) (fun z => ?_)
  · have z := of_decide_eq_false z
    refine e_aload_n rfl rfl ?_
    refine e_getP rfl f8_14 (by assumption) rfl (by assumption) ?_
    refine e_callV (kd := 4) (M2 := m4_add) rfl v8_31 ok4_add (c4_add r1 hm hz h24) rfl (by assumption) rfl rfl rfl rfl (fun r1 h1 q1 => ?_)
    obtain ⟨rfl, rfl⟩ := q1
    rw [if_neg z, if_neg z, if_neg z, if_neg z]
    have tail : ∀ I4 : IM, I4 (b + 1) 0 = nI 24 → I4 (b + 1) 2 = nI (m + 1) → (∀ c, (c ≤ b ∨ b + 6 < c) → I4 c = I c) → (∀ j, j < 3 → I4 (b + 3 + j) m = if j = 0 then so else if j = 1 then mu else ti) → (∀ j, j < 4 → ∀ i, i < m → I4 (b + 3 + j) i = T j i) → Gw l G (d + 2) m8_add 61 [.ref b, .int so, .int mu, .int ti, .int (bI is)] [.int (bI is), .int (nI 3), .ref (b + 1)] (I4, J, K) (fun r h' => r = some (.int (nI m)) ∧ ∃ I', h' = (I', J, K) ∧ (∀ c, (c ≤ b ∨ b + 6 < c) → I' c = I c) ∧ RT I' b (m + 1) (fun j i => if i = m then (if j = 0 then so else if j = 1 then mu else if j = 2 then ti else bI is) else T j i) kn) := by
      intro I4 k0 k2 kf kc ko
      refine e_callV (kd := 4) (M2 := m4_set) rfl v8_34 ok4_set (c4_set r1 (s := m + 1) k2 (by omega) (by omega) _) rfl (by assumption) rfl rfl rfl rfl (fun r1 h1 q1 => ?_)
      obtain ⟨rfl, rfl⟩ := q1
      refine e_aload_n rfl rfl ?_
      refine e_getP rfl f8_14 (by assumption) rfl (by assumption) ?_
      refine e_getI rfl f8_24 (by assumption) rfl ?_
      rw [if_neg (by omega)]
      simp (disch := omega) only [u2_ne]
      rw [k2]
      refine e_iconst (v := nI 1) rfl ic_1N ?_
      first | refine e_isubN rfl (by omega) ?_ | refine e_isub rfl ?_
      refine e_ireturn rfl rfl ?_
      refine ⟨rfl, _, rfl, ?_, ?_, ?_, by omega, ?_, ?_⟩
      · intro c hc2
        rw [u2_row _ _ (by omega), kf c hc2]
      · rw [u2_ne _ _ (by omega)]; exact k0
      · rw [u2_ne _ _ (by omega)]; exact k2
      · intro j hj i hi
        by_cases hi2 : i = m
        · subst hi2
          dsimp only
          rw [if_pos rfl]
          by_cases hj3 : j = 3
          · subst hj3
            rw [show b + 1 + 2 + 3 = b + 3 + 3 by omega, show i + 1 - 1 = i by omega, u2_at]
            rfl
          · rw [u2_ne _ _ (by omega), kc j (by omega)]
            rcases (show j = 0 ∨ j = 1 ∨ j = 2 by omega) with rfl | rfl | rfl <;> rfl
        · dsimp only
          rw [if_neg hi2, u2_nk _ _ (by omega)]
          exact ko j hj i (by omega)
      · rw [u2_ne _ _ (by omega), kf b (by omega)]
        exact hk
    refine e_aload_n rfl rfl ?_
    refine e_getP rfl f8_14 (by assumption) rfl (by assumption) ?_
    refine e_iconst (v := nI 0) rfl ic_0N ?_
    refine e_iload_n rfl rfl ?_
    refine e_callV (kd := 4) (M2 := m4_set) rfl v8_34 ok4_set (c4_set r1 (s := m + 1) (u2_at _ _ _ _) (by omega) (by omega) _) rfl (by assumption) rfl rfl rfl rfl (fun r1 h1 q1 => ?_)
    obtain ⟨rfl, rfl⟩ := q1
    rw [if_neg (by omega)]
    refine e_aload_n rfl rfl ?_
    refine e_getP rfl f8_14 (by assumption) rfl (by assumption) ?_
    refine e_iconst (v := nI 1) rfl ic_1N ?_
    refine e_iload_n rfl rfl ?_
    refine e_callV (kd := 4) (M2 := m4_set) rfl v8_34 ok4_set (c4_set r1 (s := m + 1) (by simp (disch := omega) only [u2_ne, u2_at]) (by omega) (by omega) _) rfl (by assumption) rfl rfl rfl rfl (fun r1 h1 q1 => ?_)
    obtain ⟨rfl, rfl⟩ := q1
    rw [if_neg (by omega)]
    refine e_aload_n rfl rfl ?_
    refine e_getP rfl f8_14 (by assumption) rfl (by assumption) ?_
    refine e_iconst (v := nI 2) rfl ic_2N ?_
    refine e_iload_n rfl rfl ?_
    refine e_callV (kd := 4) (M2 := m4_set) rfl v8_34 ok4_set (c4_set r1 (s := m + 1) (by simp (disch := omega) only [u2_ne, u2_at]) (by omega) (by omega) _) rfl (by assumption) rfl rfl rfl rfl (fun r1 h1 q1 => ?_)
    obtain ⟨rfl, rfl⟩ := q1
    rw [if_neg (by omega)]
    simp only [show m + 1 - 1 = m by omega]
    have k0 : u2 (u2 (u2 (u2 I (b + 1) 2 (nI (m + 1))) (b + 1 + 2 + 0) m so) (b + 1 + 2 + 1) m mu) (b + 1 + 2 + 2) m ti (b + 1) 0 = nI 24 := by simp (disch := omega) only [u2_ne, u2_nk]; exact hm
    have k2 : u2 (u2 (u2 (u2 I (b + 1) 2 (nI (m + 1))) (b + 1 + 2 + 0) m so) (b + 1 + 2 + 1) m mu) (b + 1 + 2 + 2) m ti (b + 1) 2 = nI (m + 1) := by simp (disch := omega) only [u2_ne, u2_at]
    have kf : ∀ c, (c ≤ b ∨ b + 6 < c) → u2 (u2 (u2 (u2 I (b + 1) 2 (nI (m + 1))) (b + 1 + 2 + 0) m so) (b + 1 + 2 + 1) m mu) (b + 1 + 2 + 2) m ti c = I c := by
      intro c hc2
      funext x
      simp (disch := omega) only [u2_ne]
    have kc : ∀ j, j < 3 → u2 (u2 (u2 (u2 I (b + 1) 2 (nI (m + 1))) (b + 1 + 2 + 0) m so) (b + 1 + 2 + 1) m mu) (b + 1 + 2 + 2) m ti (b + 3 + j) m = if j = 0 then so else if j = 1 then mu else ti := by
      intro j hj
      rcases (show j = 0 ∨ j = 1 ∨ j = 2 by omega) with rfl | rfl | rfl
      · rw [show b + 3 + 0 = b + 1 + 2 + 0 by omega]; simp (disch := omega) only [u2_ne, u2_at]; rfl
      · rw [show b + 3 + 1 = b + 1 + 2 + 1 by omega]; simp (disch := omega) only [u2_ne, u2_at]; rfl
      · rw [show b + 3 + 2 = b + 1 + 2 + 2 by omega]; simp (disch := omega) only [u2_ne, u2_at]; rfl
    have ko : ∀ j, j < 4 → ∀ i, i < m → u2 (u2 (u2 (u2 I (b + 1) 2 (nI (m + 1))) (b + 1 + 2 + 0) m so) (b + 1 + 2 + 1) m mu) (b + 1 + 2 + 2) m ti (b + 3 + j) i = T j i := by
      intro j hj i hi
      simp (disch := omega) only [u2_ne, u2_nk]
      exact hc j hj i hi
    refine e_aload_n rfl rfl ?_
    refine e_getP rfl f8_14 (by assumption) rfl (by assumption) ?_
    refine e_iconst (v := nI 3) rfl ic_3N ?_
    refine e_iload rfl rfl ?_
    first | refine e_if_eqB (tgt := 60) rfl rfl (fun z => ?_) (fun z => ?_) | refine e_if_eqN (tgt := 60) rfl rfl (by omega) (fun z => ?_) (fun z => ?_) | refine e_if_eq (tgt := 60) rfl rfl (fun z => ?_) (fun z => ?_)
    · have z0 : is = false := by assumption
      refine e_iconst (v := nI 0) rfl ic_0N ?_
      have t2 := tail _ k0 k2 kf kc ko
      rw [z0] at t2 ⊢
      exact t2
    · have z0 : is = true := by assumption
      refine e_iconst (v := nI 1) rfl ic_1N ?_
      refine e_goto (tgt := 61) rfl rfl ?_
      have t2 := tail _ k0 k2 kf kc ko
      rw [z0] at t2 ⊢
      exact t2
  · have z := of_decide_eq_true z
    refine e_iconst rfl ic_m1 ?_
    refine e_ireturn rfl rfl ?_
    rw [if_pos z, if_pos z, if_pos z]
    exact ⟨rfl, I, rfl, fun _ _ => rfl, hR0⟩
theorem c8_howManyKnown (hB : isTold K b) (hR : RT I b m T kn) : Cp l G (d + 1) m8_howManyKnown [.ref b] (I, J, K) (.int (hmk kn m)) := by
  obtain ⟨h8, p0, r1⟩ := hB
  have q1 := r1.1
  obtain ⟨hm, hz, h24, hc, hk⟩ := hR
  refine Cp.of ok8_howManyKnown rfl (rfl : argL _ _ = [.ref b]) ?_
  refine e_aload_n rfl rfl ?_
  refine e_getI rfl f8_20 (by assumption) rfl ?_
  rw [hk]
  refine e_iconst rfl ic_m1 ?_
  first | refine e_icmp_neN (tgt := 18) rfl rfl (by omega) (by omega) (fun z => ?_) (fun z => ?_) | refine e_icmp_ne (tgt := 18) rfl rfl (fun z => ?_) (fun z => ?_)
  · refine e_aload_n rfl rfl ?_
    refine e_getI rfl f8_20 (by assumption) rfl ?_
    refine e_aload_n rfl rfl ?_
    refine e_getP rfl f8_14 (by assumption) rfl (by assumption) ?_
    refine e_getI rfl f8_24 (by assumption) rfl ?_
    refine e_min rfl v8_37 rfl ?_
    rw [hk, hz]
    refine e_ireturn rfl rfl ?_
    rw [hmk, if_neg z]
    exact ⟨rfl, rfl⟩
  · refine e_aload_n rfl rfl ?_
    refine e_getP rfl f8_14 (by assumption) rfl (by assumption) ?_
    refine e_getI rfl f8_24 (by assumption) rfl ?_
    refine e_goto (tgt := 32) rfl rfl ?_
    rw [hz]
    refine e_ireturn rfl rfl ?_
    rw [hmk, if_pos z]
    exact ⟨rfl, rfl⟩
theorem decM (i : Nat) : nI i + Int32.ofInt (-1) = nI i - nI 1 := by rw [show Int32.ofInt (-1) = -nI 1 by decide, ← Int32.sub_eq_add_neg]
theorem counted_loop (hB : isTold K b) (hR : RT I b m T kn) : ∀ i bs ks, i ≤ m → Q (some (.int (cntd T i bs ks))) (I, J, K) → Gw l G (d + 2) m8_counted 11 [.ref b, .int bs, .int ks, .int (nI i - nI 1)] [] (I, J, K) Q := by
  obtain ⟨h8, p0, r1⟩ := hB
  have q1 := r1.1
  obtain ⟨hm, hz, h24, hc, hk⟩ := hR
  intro i
  induction i with
  | zero =>
    intro bs ks hi hq
    refine e_iload_n rfl rfl ?_
    first | refine e_if_ltN (tgt := 62) rfl rfl (by omega) ?_ | refine e_if_lt (tgt := 62) rfl rfl (fun z => ?_) (fun z => ?_)
    · refine e_iload_n rfl rfl ?_
      refine e_ireturn rfl rfl ?_
      exact hq
    · exact absurd (show nI 0 - nI 1 < 0 by decide) (by assumption)
  | succ i ih =>
    intro bs ks hi hq
    rw [pk_sub (by omega), show i + 1 - 1 = i by omega]
    have t0 : I (b + 1 + 2 + 0) i = T 0 i := hc 0 (by omega) i (by omega)
    have t1 : I (b + 1 + 2 + 1) i = T 1 i := hc 1 (by omega) i (by omega)
    refine e_iload_n rfl rfl ?_
    first | refine e_if_ltN (tgt := 62) rfl rfl (by omega) ?_ | refine e_if_lt (tgt := 62) rfl rfl (fun z => ?_) (fun z => ?_)
    refine e_iload_n rfl rfl ?_
    refine e_iload_n rfl rfl ?_
    refine e_callSNp (M2 := m9_isBit) rfl v8_47 ok9_isBit (c9_isBit ks (nI i)) rfl rfl rfl ?_
    first | refine e_if_neB (tgt := 56) rfl rfl (fun z => ?_) (fun z => ?_) | refine e_if_neN (tgt := 56) rfl rfl (by omega) (fun z => ?_) (fun z => ?_) | refine e_if_ne (tgt := 56) rfl rfl (fun z => ?_) (fun z => ?_)
    · rw [cntd, if_pos (by assumption)] at hq
      first | refine e_inc3 rfl rfl rfl (decN1 (by omega)) ?_ | refine e_inc3 rfl rfl rfl rfl ?_
      refine e_goto (tgt := 11) rfl rfl ?_
      rw [decM]
      exact ih bs ks (by omega) hq
    · refine e_iload_n rfl rfl ?_
      refine e_iconst (v := nI 1) rfl ic_1N ?_
      refine e_iload_n rfl rfl ?_
      refine e_ishl rfl ?_
      refine e_ior rfl ?_
      refine e_ist1 rfl rfl rfl ?_
      refine e_aload_n rfl rfl ?_
      refine e_getP rfl f8_14 (by assumption) rfl (by assumption) ?_
      refine e_iload_n rfl rfl ?_
      refine e_iconst (v := nI 0) rfl ic_0N ?_
      refine e_callVp (kd := 4) (M2 := m4_at) rfl v8_51 ok4_at (c4_at r1 hz h24 (by omega) _) rfl (by assumption) rfl rfl rfl rfl ?_
      rw [rAt_nI (by omega) (by omega), t0]
      rw [cntd, if_neg (by rw [z]; decide)] at hq
      refine e_iconst (v := nI 3) rfl ic_3N ?_
      first | refine e_icmp_neN (tgt := 56) rfl rfl (by omega) (by omega) (fun z => ?_) (fun z => ?_) | refine e_icmp_ne (tgt := 56) rfl rfl (fun z => ?_) (fun z => ?_)
      · rw [if_neg (by assumption)] at hq
        first | refine e_inc3 rfl rfl rfl (decN1 (by omega)) ?_ | refine e_inc3 rfl rfl rfl rfl ?_
        refine e_goto (tgt := 11) rfl rfl ?_
        rw [decM]
        exact ih _ ks (by omega) hq
      · rw [if_pos (by assumption)] at hq
        refine e_iload_n rfl rfl ?_
        refine e_iconst (v := nI 1) rfl ic_1N ?_
        refine e_aload_n rfl rfl ?_
        refine e_getP rfl f8_14 (by assumption) rfl (by assumption) ?_
        refine e_iload_n rfl rfl ?_
        refine e_iconst (v := nI 1) rfl ic_1N ?_
        refine e_callVp (kd := 4) (M2 := m4_at) rfl v8_51 ok4_at (c4_at r1 hz h24 (by omega) _) rfl (by assumption) rfl rfl rfl rfl ?_
        rw [rAt_nI (by omega) (by omega), t1]
        refine e_ishl rfl ?_
        refine e_ior rfl ?_
        refine e_ist2 rfl rfl rfl ?_
        first | refine e_inc3 rfl rfl rfl (decN1 (by omega)) ?_ | refine e_inc3 rfl rfl rfl rfl ?_
        refine e_goto (tgt := 11) rfl rfl ?_
        rw [decM]
        exact ih _ _ (by omega) hq
theorem c8_counted (hB : isTold K b) (hR : RT I b m T kn) {q : Nat} (hq : hmk kn m = nI q) (hqm : q ≤ m) : Cp l G (d + 2) m8_counted [.ref b] (I, J, K) (.int (cntd T q (nI 0) (nI 0))) := by
  have h8 := hB.1
  refine Cp.of ok8_counted rfl (rfl : argL _ _ = [.ref b, .null, .null, .null]) ?_
  refine e_iconst (v := nI 0) rfl ic_0N ?_
  refine e_ist1 rfl rfl rfl ?_
  refine e_iconst (v := nI 0) rfl ic_0N ?_
  refine e_ist2 rfl rfl rfl ?_
  refine e_aload_n rfl rfl ?_
  refine e_callVp (kd := 8) (M2 := m8_howManyKnown) rfl v8_43 ok8_howManyKnown (c8_howManyKnown hB hR) rfl (by assumption) rfl rfl rfl rfl ?_
  rw [hq]
  refine e_iconst (v := nI 1) rfl ic_1N ?_
  refine e_isub rfl ?_
  refine e_ist3 rfl rfl rfl ?_
  exact counted_loop hB hR q _ _ hqm ⟨rfl, rfl⟩
theorem mayBe_loop (hB : isTold K b) (hR : RT I b m T kn) (c wt sd : Int32) : ∀ k i v5 v6, i + k = m → Q (some (.int (bI (mbF T c wt sd i k)))) (I, J, K) → Gw l G (d + 2) m8_mayBe 3 [.ref b, .int c, .int wt, .int sd, .int (nI i), v5, v6] [] (I, J, K) Q := by
  obtain ⟨h8, p0, r1⟩ := hB
  have q1 := r1.1
  obtain ⟨hm, hz, h24, hc, hk⟩ := hR
  intro k
  induction k with
  | zero =>
    intro i v5 v6 hi hq
    refine e_iload rfl rfl ?_
    refine e_aload_n rfl rfl ?_
    refine e_getP rfl f8_14 (by assumption) rfl (by assumption) ?_
    refine e_getI rfl f8_24 (by assumption) rfl ?_
    rw [hz]
    first | refine e_icmp_geN (tgt := 109) rfl rfl (by omega) (by omega) (fun z => ?_) (fun z => ?_) | refine e_icmp_ge (tgt := 109) rfl rfl (fun z => ?_) (fun z => ?_)
    · refine e_iconst (v := nI 1) rfl ic_1N ?_
      refine e_zreturn rfl rfl ?_ ?_
      · exact Or.inr rfl
      · exact hq
    · omega
  | succ k ih =>
    intro i v5 v6 hi hq
    have t0 : I (b + 1 + 2 + 0) i = T 0 i := hc 0 (by omega) i (by omega)
    have t1 : I (b + 1 + 2 + 1) i = T 1 i := hc 1 (by omega) i (by omega)
    have t3 : I (b + 1 + 2 + 3) i = T 3 i := hc 3 (by omega) i (by omega)
    have next : ∀ v5 v6, ¬ (bitOf c (nI i) = true ∧ (T 0 i = 0 ∨ T 0 i = nI 1) ∧ ¬ (T 1 i ≤ (if T 0 i = 0 then wt else sd) ↔ T 3 i = nI 1)) → Gw l G (d + 2) m8_mayBe 103 [.ref b, .int c, .int wt, .int sd, .int (nI i), v5, v6] [] (I, J, K) Q := by
      intro v5 v6 hn
      rw [mbF, if_neg hn] at hq
      first | refine e_inc4 rfl rfl rfl (incN1 _) ?_ | refine e_inc4 rfl rfl rfl rfl ?_
      refine e_goto (tgt := 3) rfl rfl ?_
      exact ih (i + 1) v5 v6 (by omega) hq
    have last : ∀ (so : Bool) v6, bitOf c (nI i) = true → (T 0 i = 0 ∨ T 0 i = nI 1) → (so = true ↔ T 1 i ≤ (if T 0 i = 0 then wt else sd)) → Gw l G (d + 2) m8_mayBe 75 [.ref b, .int c, .int wt, .int sd, .int (nI i), .int (T 0 i), v6] [.int (bI so)] (I, J, K) Q := by
      intro so v6 hb1 hs hso
      refine e_ist6 rfl rfl rfl ?_
      refine e_iload rfl rfl ?_
      refine e_aload_n rfl rfl ?_
      refine e_getP rfl f8_14 (by assumption) rfl (by assumption) ?_
      refine e_iload rfl rfl ?_
      refine e_iconst (v := nI 3) rfl ic_3N ?_
      refine e_callVp (kd := 4) (M2 := m4_at) rfl v8_51 ok4_at (c4_at r1 hz h24 (by omega) _) rfl (by assumption) rfl rfl rfl rfl ?_
      rw [rAt_nI (by omega) (by omega), t3]
      have fin : ∀ is : Bool, (is = true ↔ T 3 i = nI 1) → Gw l G (d + 2) m8_mayBe 98 [.ref b, .int c, .int wt, .int sd, .int (nI i), .int (T 0 i), .int (bI so)] [.int (bI is), .int (bI so)] (I, J, K) Q := by
        intro is his
        first | refine e_icmp_eqN (tgt := 103) rfl rfl (by omega) (by omega) (fun z => ?_) (fun z => ?_) | refine e_icmp_eq (tgt := 103) rfl rfl (fun z => ?_) (fun z => ?_)
        · have e : so = is := by
            have z2 : bI so = bI is := by assumption
            cases so <;> cases is <;> first | rfl | exact absurd z2 (by decide)
          refine next _ _ (fun q => q.2.2 ?_)
          rw [← hso, ← his, e]
        · have e : ¬ so = is := fun e => absurd (show bI so = bI is by rw [e]) (by assumption)
          rw [mbF, if_pos ⟨hb1, hs, fun q => e (by rw [← hso, ← his] at q; exact Bool.eq_iff_iff.mpr q)⟩] at hq
          refine e_iconst (v := nI 0) rfl ic_0N ?_
          refine e_zreturn rfl rfl ?_ ?_
          · exact Or.inl rfl
          · exact hq
      refine e_iconst (v := nI 1) rfl ic_1N ?_
      first | refine e_icmp_neN (tgt := 97) rfl rfl (by omega) (by omega) (fun z => ?_) (fun z => ?_) | refine e_icmp_ne (tgt := 97) rfl rfl (fun z => ?_) (fun z => ?_)
      · refine e_iconst (v := nI 0) rfl ic_0N ?_
        exact fin false ⟨fun q => (by cases q), fun q => absurd q (by assumption)⟩
      · refine e_iconst (v := nI 1) rfl ic_1N ?_
        refine e_goto (tgt := 98) rfl rfl ?_
        exact fin true ⟨fun _ => by assumption, fun _ => rfl⟩
    have cmp : bitOf c (nI i) = true → (T 0 i = 0 ∨ T 0 i = nI 1) → ∀ v6, Gw l G (d + 2) m8_mayBe 57 [.ref b, .int c, .int wt, .int sd, .int (nI i), .int (T 0 i), v6] [.int (if T 0 i = 0 then wt else sd)] (I, J, K) Q := by
      intro hb1 hs v6
      refine e_aload_n rfl rfl ?_
      refine e_getP rfl f8_14 (by assumption) rfl (by assumption) ?_
      refine e_iload rfl rfl ?_
      refine e_iconst (v := nI 1) rfl ic_1N ?_
      refine e_callVp (kd := 4) (M2 := m4_at) rfl v8_51 ok4_at (c4_at r1 hz h24 (by omega) _) rfl (by assumption) rfl rfl rfl rfl ?_
      rw [rAt_nI (by omega) (by omega), t1]
      first | refine e_icmp_ltN (tgt := 74) rfl rfl (by omega) (by omega) (fun z => ?_) (fun z => ?_) | refine e_icmp_lt (tgt := 74) rfl rfl (fun z => ?_) (fun z => ?_)
      · refine e_iconst (v := nI 0) rfl ic_0N ?_
        exact last false v6 hb1 hs ⟨fun q => (by cases q), fun q => absurd q (Int32.not_le.mpr (by assumption))⟩
      · refine e_iconst (v := nI 1) rfl ic_1N ?_
        refine e_goto (tgt := 75) rfl rfl ?_
        exact last true v6 hb1 hs ⟨fun _ => Int32.not_lt.mp (by assumption), fun _ => rfl⟩
    have sel : bitOf c (nI i) = true → (T 0 i = 0 ∨ T 0 i = nI 1) → ∀ v6, Gw l G (d + 2) m8_mayBe 47 [.ref b, .int c, .int wt, .int sd, .int (nI i), .int (T 0 i), v6] [] (I, J, K) Q := by
      intro hb1 hs v6
      refine e_iload rfl rfl ?_
      first | refine e_if_neB (tgt := 56) rfl rfl (fun z => ?_) (fun z => ?_) | refine e_if_neN (tgt := 56) rfl rfl (by omega) (fun z => ?_) (fun z => ?_) | refine e_if_ne (tgt := 56) rfl rfl (fun z => ?_) (fun z => ?_)
      · refine e_iload_n rfl rfl ?_
        have h9 := cmp hb1 hs v6
        rw [if_neg (by assumption)] at h9
        exact h9
      · refine e_iload_n rfl rfl ?_
        refine e_goto (tgt := 57) rfl rfl ?_
        have h9 := cmp hb1 hs v6
        rw [if_pos (by assumption)] at h9
        exact h9
    refine e_iload rfl rfl ?_
    refine e_aload_n rfl rfl ?_
    refine e_getP rfl f8_14 (by assumption) rfl (by assumption) ?_
    refine e_getI rfl f8_24 (by assumption) rfl ?_
    rw [hz]
    first | refine e_icmp_geN (tgt := 109) rfl rfl (by omega) (by omega) (fun z => ?_) (fun z => ?_) | refine e_icmp_ge (tgt := 109) rfl rfl (fun z => ?_) (fun z => ?_)
    · omega
    · refine e_aload_n rfl rfl ?_
      refine e_getP rfl f8_14 (by assumption) rfl (by assumption) ?_
      refine e_iload rfl rfl ?_
      refine e_iconst (v := nI 0) rfl ic_0N ?_
      refine e_callVp (kd := 4) (M2 := m4_at) rfl v8_51 ok4_at (c4_at r1 hz h24 (by omega) _) rfl (by assumption) rfl rfl rfl rfl ?_
      rw [rAt_nI (by omega) (by omega), t0]
      refine e_ist5 rfl rfl rfl ?_
      refine e_iload_n rfl rfl ?_
      refine e_iload rfl rfl ?_
      refine e_callSNp (M2 := m9_isBit) rfl v8_47 ok9_isBit (c9_isBit c (nI i)) rfl rfl rfl ?_
      first | refine e_if_eqB (tgt := 103) rfl rfl (fun z => ?_) (fun z => ?_) | refine e_if_eqN (tgt := 103) rfl rfl (by omega) (fun z => ?_) (fun z => ?_) | refine e_if_eq (tgt := 103) rfl rfl (fun z => ?_) (fun z => ?_)
      · exact next _ _ (fun q => absurd q.1 (by rw [z]; decide))
      · have hb1 : bitOf c (nI i) = true := by assumption
        refine e_iload rfl rfl ?_
        first | refine e_if_eqB (tgt := 47) rfl rfl (fun z => ?_) (fun z => ?_) | refine e_if_eqN (tgt := 47) rfl rfl (by omega) (fun z => ?_) (fun z => ?_) | refine e_if_eq (tgt := 47) rfl rfl (fun z => ?_) (fun z => ?_)
        · exact sel hb1 (Or.inl (by assumption)) _
        · refine e_iload rfl rfl ?_
          refine e_iconst (v := nI 1) rfl ic_1N ?_
          first | refine e_icmp_neN (tgt := 103) rfl rfl (by omega) (by omega) (fun z => ?_) (fun z => ?_) | refine e_icmp_ne (tgt := 103) rfl rfl (fun z => ?_) (fun z => ?_)
          · exact next _ _ (fun q => q.2.1.elim (by assumption) (by assumption))
          · exact sel hb1 (Or.inr (by assumption)) _
theorem c8_mayBe (hB : isTold K b) (hR : RT I b m T kn) (c wt sd : Int32) : Cp l G (d + 2) m8_mayBe [.ref b, .int c, .int wt, .int sd] (I, J, K) (.int (bI (mbF T c wt sd 0 m))) := by
  refine Cp.of ok8_mayBe rfl (rfl : argL _ _ = [.ref b, .int c, .int wt, .int sd, .null, .null, .null]) ?_
  refine e_iconst (v := nI 0) rfl ic_0N ?_
  refine e_ist4 rfl rfl rfl ?_
  exact mayBe_loop hB hR c wt sd m 0 _ _ (by omega) ⟨rfl, rfl⟩
theorem lastSeen_loop (hB : isTold K b) (hR : RT I b m T kn) (c : Int32) : ∀ k i v, i + k = m → Q (some (.int (if nI 60 < lsF T c i k v then nI 60 else lsF T c i k v))) (I, J, K) → Gw l G (d + 2) m8_lastSeen 4 [.ref b, .int c, .int v, .int (nI i)] [] (I, J, K) Q := by
  obtain ⟨h8, p0, r1⟩ := hB
  have q1 := r1.1
  obtain ⟨hm, hz, h24, hc, hk⟩ := hR
  intro k
  induction k with
  | zero =>
    intro i v hi hq
    refine e_iload_n rfl rfl ?_
    refine e_aload_n rfl rfl ?_
    refine e_getP rfl f8_14 (by assumption) rfl (by assumption) ?_
    refine e_getI rfl f8_24 (by assumption) rfl ?_
    rw [hz]
    first | refine e_icmp_geN (tgt := 56) rfl rfl (by omega) (by omega) (fun z => ?_) (fun z => ?_) | refine e_icmp_ge (tgt := 56) rfl rfl (fun z => ?_) (fun z => ?_)
    · refine e_iload_n rfl rfl ?_
      refine e_bipush (v := nI 60) rfl bp_60N ?_
      refine e_min rfl v8_37 rfl ?_
      refine e_ireturn rfl rfl ?_
      exact hq
    · omega
  | succ k ih =>
    intro i v hi hq
    have t0 : I (b + 1 + 2 + 0) i = T 0 i := hc 0 (by omega) i (by omega)
    have t1 : I (b + 1 + 2 + 1) i = T 1 i := hc 1 (by omega) i (by omega)
    rw [lsF] at hq
    refine e_iload_n rfl rfl ?_
    refine e_aload_n rfl rfl ?_
    refine e_getP rfl f8_14 (by assumption) rfl (by assumption) ?_
    refine e_getI rfl f8_24 (by assumption) rfl ?_
    rw [hz]
    first | refine e_icmp_geN (tgt := 56) rfl rfl (by omega) (by omega) (fun z => ?_) (fun z => ?_) | refine e_icmp_ge (tgt := 56) rfl rfl (fun z => ?_) (fun z => ?_)
    · omega
    · refine e_iload_n rfl rfl ?_
      refine e_iload_n rfl rfl ?_
      refine e_callSNp (M2 := m9_isBit) rfl v8_47 ok9_isBit (c9_isBit c (nI i)) rfl rfl rfl ?_
      first | refine e_if_eqB (tgt := 50) rfl rfl (fun z => ?_) (fun z => ?_) | refine e_if_eqN (tgt := 50) rfl rfl (by omega) (fun z => ?_) (fun z => ?_) | refine e_if_eq (tgt := 50) rfl rfl (fun z => ?_) (fun z => ?_)
      · rw [if_neg (c := bitOf c (nI i) = true ∧ T 0 i = nI 2) (fun q => absurd q.1 (by rw [z]; decide))] at hq
        first | refine e_inc3 rfl rfl rfl (incN1 _) ?_ | refine e_inc3 rfl rfl rfl rfl ?_
        refine e_goto (tgt := 4) rfl rfl ?_
        exact ih (i + 1) v (by omega) hq
      · have hb1 : bitOf c (nI i) = true := by assumption
        refine e_aload_n rfl rfl ?_
        refine e_getP rfl f8_14 (by assumption) rfl (by assumption) ?_
        refine e_iload_n rfl rfl ?_
        refine e_iconst (v := nI 0) rfl ic_0N ?_
        refine e_callVp (kd := 4) (M2 := m4_at) rfl v8_51 ok4_at (c4_at r1 hz h24 (by omega) _) rfl (by assumption) rfl rfl rfl rfl ?_
        rw [rAt_nI (by omega) (by omega), t0]
        refine e_iconst (v := nI 2) rfl ic_2N ?_
        first | refine e_icmp_neN (tgt := 50) rfl rfl (by omega) (by omega) (fun z => ?_) (fun z => ?_) | refine e_icmp_ne (tgt := 50) rfl rfl (fun z => ?_) (fun z => ?_)
        · rw [if_neg (c := bitOf c (nI i) = true ∧ T 0 i = nI 2) (fun q => absurd q.2 (by assumption))] at hq
          first | refine e_inc3 rfl rfl rfl (incN1 _) ?_ | refine e_inc3 rfl rfl rfl rfl ?_
          refine e_goto (tgt := 4) rfl rfl ?_
          exact ih (i + 1) v (by omega) hq
        · rw [if_pos (c := bitOf c (nI i) = true ∧ T 0 i = nI 2) ⟨hb1, by assumption⟩] at hq
          refine e_iload_n rfl rfl ?_
          refine e_aload_n rfl rfl ?_
          refine e_getP rfl f8_14 (by assumption) rfl (by assumption) ?_
          refine e_iload_n rfl rfl ?_
          refine e_iconst (v := nI 1) rfl ic_1N ?_
          refine e_callVp (kd := 4) (M2 := m4_at) rfl v8_51 ok4_at (c4_at r1 hz h24 (by omega) _) rfl (by assumption) rfl rfl rfl rfl ?_
          rw [rAt_nI (by omega) (by omega), t1]
          refine e_max rfl v8_54 rfl ?_
          refine e_ist2 rfl rfl rfl ?_
          first | refine e_inc3 rfl rfl rfl (incN1 _) ?_ | refine e_inc3 rfl rfl rfl rfl ?_
          refine e_goto (tgt := 4) rfl rfl ?_
          exact ih (i + 1) _ (by omega) hq
theorem c8_lastSeen (hB : isTold K b) (hR : RT I b m T kn) (c : Int32) : Cp l G (d + 2) m8_lastSeen [.ref b, .int c] (I, J, K) (.int (if nI 60 < lsF T c 0 m (nI 0) then nI 60 else lsF T c 0 m (nI 0))) := by
  refine Cp.of ok8_lastSeen rfl (rfl : argL _ _ = [.ref b, .int c, .null, .null]) ?_
  refine e_iconst (v := nI 0) rfl ic_0N ?_
  refine e_ist2 rfl rfl rfl ?_
  refine e_iconst (v := nI 0) rfl ic_0N ?_
  refine e_ist3 rfl rfl rfl ?_
  exact lastSeen_loop hB hR c m 0 _ (by omega) ⟨rfl, rfl⟩
theorem isSeenSo_loop {s n : Nat} (hB : isTold K b) (hR : RT I b m T kn) (hS : isState K s) (hn : I s 7 = nI n) (h8n : n ≤ 8) (c day : Int32) : ∀ k i v5 v6, i + k = m → Q (some (.int (bI (ssF T c day n (I (s + 1)) i k)))) (I, J, K) → Gw l G (d + 2) m8_isSeenSo 3 [.ref b, .int c, .int day, .ref s, .int (nI i), v5, v6] [] (I, J, K) Q := by
  obtain ⟨h8, p0, r1⟩ := hB
  have q1 := r1.1
  obtain ⟨hm, hz, h24, hc, hk⟩ := hR
  have h6 := hS.1
  have sp0 := hS.2.1
  have sa1 := hS.2.2.2.2.2.2.2.2.1
  intro k
  induction k with
  | zero =>
    intro i v5 v6 hi hq
    refine e_iload rfl rfl ?_
    refine e_aload_n rfl rfl ?_
    refine e_getP rfl f8_14 (by assumption) rfl (by assumption) ?_
    refine e_getI rfl f8_24 (by assumption) rfl ?_
    rw [hz]
    first | refine e_icmp_geN (tgt := 123) rfl rfl (by omega) (by omega) (fun z => ?_) (fun z => ?_) | refine e_icmp_ge (tgt := 123) rfl rfl (fun z => ?_) (fun z => ?_)
    · refine e_iconst (v := nI 1) rfl ic_1N ?_
      refine e_zreturn rfl rfl ?_ ?_
      · exact Or.inr rfl
      · exact hq
    · omega
  | succ k ih =>
    intro i v5 v6 hi hq
    have t0 : I (b + 1 + 2 + 0) i = T 0 i := hc 0 (by omega) i (by omega)
    have t1 : I (b + 1 + 2 + 1) i = T 1 i := hc 1 (by omega) i (by omega)
    have t2 : I (b + 1 + 2 + 2) i = T 2 i := hc 2 (by omega) i (by omega)
    have t3 : I (b + 1 + 2 + 3) i = T 3 i := hc 3 (by omega) i (by omega)
    have next : ∀ v5 v6, ¬ (bitOf c (nI i) = true ∧ T 0 i = nI 2 ∧ T 1 i = day ∧ ¬ ((inN n (T 2 i) = true ∧ I (s + 1) (T 2 i).toNatClampNeg = nI 3) ↔ T 3 i = nI 1)) → Gw l G (d + 2) m8_isSeenSo 117 [.ref b, .int c, .int day, .ref s, .int (nI i), v5, v6] [] (I, J, K) Q := by
      intro v5 v6 hnn
      rw [ssF, if_neg hnn] at hq
      first | refine e_inc4 rfl rfl rfl (incN1 _) ?_ | refine e_inc4 rfl rfl rfl rfl ?_
      refine e_goto (tgt := 3) rfl rfl ?_
      exact ih (i + 1) v5 v6 (by omega) hq
    have last : ∀ (so : Bool) v6, bitOf c (nI i) = true → T 0 i = nI 2 → T 1 i = day → (so = true ↔ (inN n (T 2 i) = true ∧ I (s + 1) (T 2 i).toNatClampNeg = nI 3)) → Gw l G (d + 2) m8_isSeenSo 89 [.ref b, .int c, .int day, .ref s, .int (nI i), .int (T 2 i), v6] [.int (bI so)] (I, J, K) Q := by
      intro so v6 hb1 hs hdy hso
      refine e_ist6 rfl rfl rfl ?_
      refine e_iload rfl rfl ?_
      refine e_aload_n rfl rfl ?_
      refine e_getP rfl f8_14 (by assumption) rfl (by assumption) ?_
      refine e_iload rfl rfl ?_
      refine e_iconst (v := nI 3) rfl ic_3N ?_
      refine e_callVp (kd := 4) (M2 := m4_at) rfl v8_51 ok4_at (c4_at r1 hz h24 (by omega) _) rfl (by assumption) rfl rfl rfl rfl ?_
      rw [rAt_nI (by omega) (by omega), t3]
      have fin : ∀ is : Bool, (is = true ↔ T 3 i = nI 1) → Gw l G (d + 2) m8_isSeenSo 112 [.ref b, .int c, .int day, .ref s, .int (nI i), .int (T 2 i), .int (bI so)] [.int (bI is), .int (bI so)] (I, J, K) Q := by
        intro is his
        first | refine e_icmp_eqN (tgt := 117) rfl rfl (by omega) (by omega) (fun z => ?_) (fun z => ?_) | refine e_icmp_eq (tgt := 117) rfl rfl (fun z => ?_) (fun z => ?_)
        · have e : so = is := by
            have z2 : bI so = bI is := by assumption
            cases so <;> cases is <;> first | rfl | exact absurd z2 (by decide)
          refine next _ _ (fun q => q.2.2.2 ?_)
          rw [← hso, ← his, e]
        · have e : ¬ so = is := fun e => absurd (show bI so = bI is by rw [e]) (by assumption)
          rw [ssF, if_pos ⟨hb1, hs, hdy, fun q => e (by rw [← hso, ← his] at q; exact Bool.eq_iff_iff.mpr q)⟩] at hq
          refine e_iconst (v := nI 0) rfl ic_0N ?_
          refine e_zreturn rfl rfl ?_ ?_
          · exact Or.inl rfl
          · exact hq
      refine e_iconst (v := nI 1) rfl ic_1N ?_
      first | refine e_icmp_neN (tgt := 111) rfl rfl (by omega) (by omega) (fun z => ?_) (fun z => ?_) | refine e_icmp_ne (tgt := 111) rfl rfl (fun z => ?_) (fun z => ?_)
      · refine e_iconst (v := nI 0) rfl ic_0N ?_
        exact fin false ⟨fun q => (by cases q), fun q => absurd q (by assumption)⟩
      · refine e_iconst (v := nI 1) rfl ic_1N ?_
        refine e_goto (tgt := 112) rfl rfl ?_
        exact fin true ⟨fun _ => by assumption, fun _ => rfl⟩
    refine e_iload rfl rfl ?_
    refine e_aload_n rfl rfl ?_
    refine e_getP rfl f8_14 (by assumption) rfl (by assumption) ?_
    refine e_getI rfl f8_24 (by assumption) rfl ?_
    rw [hz]
    first | refine e_icmp_geN (tgt := 123) rfl rfl (by omega) (by omega) (fun z => ?_) (fun z => ?_) | refine e_icmp_ge (tgt := 123) rfl rfl (fun z => ?_) (fun z => ?_)
    · omega
    · refine e_iload_n rfl rfl ?_
      refine e_iload rfl rfl ?_
      refine e_callSNp (M2 := m9_isBit) rfl v8_47 ok9_isBit (c9_isBit c (nI i)) rfl rfl rfl ?_
      first | refine e_if_eqB (tgt := 117) rfl rfl (fun z => ?_) (fun z => ?_) | refine e_if_eqN (tgt := 117) rfl rfl (by omega) (fun z => ?_) (fun z => ?_) | refine e_if_eq (tgt := 117) rfl rfl (fun z => ?_) (fun z => ?_)
      · exact next _ _ (fun q => absurd q.1 (by rw [z]; decide))
      · have hb1 : bitOf c (nI i) = true := by assumption
        refine e_aload_n rfl rfl ?_
        refine e_getP rfl f8_14 (by assumption) rfl (by assumption) ?_
        refine e_iload rfl rfl ?_
        refine e_iconst (v := nI 0) rfl ic_0N ?_
        refine e_callVp (kd := 4) (M2 := m4_at) rfl v8_51 ok4_at (c4_at r1 hz h24 (by omega) _) rfl (by assumption) rfl rfl rfl rfl ?_
        rw [rAt_nI (by omega) (by omega), t0]
        refine e_iconst (v := nI 2) rfl ic_2N ?_
        first | refine e_icmp_neN (tgt := 117) rfl rfl (by omega) (by omega) (fun z => ?_) (fun z => ?_) | refine e_icmp_ne (tgt := 117) rfl rfl (fun z => ?_) (fun z => ?_)
        · exact next _ _ (fun q => absurd q.2.1 (by assumption))
        · have hs2 : T 0 i = nI 2 := by assumption
          refine e_aload_n rfl rfl ?_
          refine e_getP rfl f8_14 (by assumption) rfl (by assumption) ?_
          refine e_iload rfl rfl ?_
          refine e_iconst (v := nI 1) rfl ic_1N ?_
          refine e_callVp (kd := 4) (M2 := m4_at) rfl v8_51 ok4_at (c4_at r1 hz h24 (by omega) _) rfl (by assumption) rfl rfl rfl rfl ?_
          rw [rAt_nI (by omega) (by omega), t1]
          refine e_iload_n rfl rfl ?_
          first | refine e_icmp_neN (tgt := 117) rfl rfl (by omega) (by omega) (fun z => ?_) (fun z => ?_) | refine e_icmp_ne (tgt := 117) rfl rfl (fun z => ?_) (fun z => ?_)
          · exact next _ _ (fun q => absurd q.2.2.1 (by assumption))
          · have hdy : T 1 i = day := by assumption
            refine e_aload_n rfl rfl ?_
            refine e_getP rfl f8_14 (by assumption) rfl (by assumption) ?_
            refine e_iload rfl rfl ?_
            refine e_iconst (v := nI 2) rfl ic_2N ?_
            refine e_callVp (kd := 4) (M2 := m4_at) rfl v8_51 ok4_at (c4_at r1 hz h24 (by omega) _) rfl (by assumption) rfl rfl rfl rfl ?_
            rw [rAt_nI (by omega) (by omega), t2]
            refine e_ist5 rfl rfl rfl ?_
            refine e_aload_n rfl rfl ?_
            refine e_iload rfl rfl ?_
            refine e_callVp (kd := 6) (M2 := m6_has) rfl v8_57 ok6_has (c6_has h6 hn (T 2 i)) rfl (by assumption) rfl rfl rfl rfl ?_
            first | refine e_if_eqB (tgt := 88) rfl rfl (fun z => ?_) (fun z => ?_) | refine e_if_eqN (tgt := 88) rfl rfl (by omega) (fun z => ?_) (fun z => ?_) | refine e_if_eq (tgt := 88) rfl rfl (fun z => ?_) (fun z => ?_)
            · refine e_iconst (v := nI 0) rfl ic_0N ?_
              exact last false _ hb1 hs2 hdy ⟨fun q => (by cases q), fun q => absurd q.1 (by rw [z]; decide)⟩
            · have hin : inN n (T 2 i) = true := by assumption
              obtain ⟨j, hj, ej⟩ := inN_of (by omega) hin
              rw [ej, nI_clamp (by omega)] at last
              rw [ej] at hin
              rw [ej]
              refine e_aload_n rfl rfl ?_
              refine e_getP rfl f8_63 (by assumption) rfl (by assumption) ?_
              refine e_iload rfl rfl ?_
              first | refine e_ialoadN rfl (by assumption) (by omega) (by omega) ?_ | (refine e_iaload rfl (by assumption) ?_ ?_; rotate_left)
              refine e_iconst (v := nI 3) rfl ic_3N ?_
              first | refine e_icmp_neN (tgt := 88) rfl rfl (by omega) (by omega) (fun z => ?_) (fun z => ?_) | refine e_icmp_ne (tgt := 88) rfl rfl (fun z => ?_) (fun z => ?_)
              · refine e_iconst (v := nI 0) rfl ic_0N ?_
                exact last false _ hb1 hs2 hdy ⟨fun q => (by cases q), fun q => absurd q.2 (by assumption)⟩
              · refine e_iconst (v := nI 1) rfl ic_1N ?_
                refine e_goto (tgt := 89) rfl rfl ?_
                exact last true _ hb1 hs2 hdy ⟨fun _ => ⟨hin, by assumption⟩, fun _ => rfl⟩
theorem c8_isSeenSo {s n : Nat} (hB : isTold K b) (hR : RT I b m T kn) (hS : isState K s) (hn : I s 7 = nI n) (h8n : n ≤ 8) (c day : Int32) : Cp l G (d + 2) m8_isSeenSo [.ref b, .int c, .int day, .ref s] (I, J, K) (.int (bI (ssF T c day n (I (s + 1)) 0 m))) := by
  refine Cp.of ok8_isSeenSo rfl (rfl : argL _ _ = [.ref b, .int c, .int day, .ref s, .null, .null, .null]) ?_
  refine e_iconst (v := nI 0) rfl ic_0N ?_
  refine e_ist4 rfl rfl rfl ?_
  exact isSeenSo_loop hB hR hS hn h8n c day m 0 _ _ (by omega) ⟨rfl, rfl⟩
end MTold
end
section
/-! ===== Steps: what can be undone ===== -/
def isSteps (K : Kt) (b : Nat) : Prop := (K.2.1 b).1 = 7 ∧ K.1 b 0 = some (b + 1) ∧ isRows K (b + 1) 4 20
/-- m steps: U j i is the j-th number (sort, what, stack, height) of the i-th, the oldest first -/
def RU (I : IM) (b m : Nat) (U : Nat → Nat → Int32) : Prop := I (b + 1) 0 = nI 20 ∧ I (b + 1) 2 = nI m ∧ m ≤ 20 ∧ ∀ j, j < 4 → ∀ i, i < m → I (b + 3 + j) i = U j i
section MSteps
variable {l : Launch} {G : GG} {d : Nat} {I : IM} {J : JM} {K : Kt} {Q : Option Value → Hp → Prop} {b m : Nat} {U : Nat → Nat → Int32}
theorem c7_clear (hB : isSteps K b) : Cw l G d m7_clear [.ref b] (I, J, K) (fun r h' => r = none ∧ h' = (u2 I (b + 1) 2 (nI 0), J, K)) := by
  obtain ⟨h7, p0, r1⟩ := hB
  have q1 := r1.1
  refine Cw.of ok7_clear rfl (rfl : argL _ _ = [.ref b]) ?_
  refine e_aload_n rfl rfl ?_
  refine e_getP rfl f7_14 (by assumption) rfl (by assumption) ?_
  refine e_iconst (v := nI 0) rfl ic_0N ?_
  refine e_putI rfl f7_20 (by assumption) rfl rfl ?_
  refine e_return rfl rfl ?_
  exact ⟨rfl, rfl⟩
theorem c7_add4 (hB : isSteps K b) (hm0 : I (b + 1) 0 = nI 20) (hz : I (b + 1) 2 = nI m) (hm : m < 20) (so wh sk hg : Int32) (hc : ∀ j, j < 4 → ∀ i, i < m → I (b + 3 + j) i = U j i) : Gw l G (d + 2) m7_add 17 [.ref b, .int so, .int wh, .int sk, .int hg] [] (I, J, K) (fun r h' => r = none ∧ ∃ I', h' = (I', J, K) ∧ (∀ c, (c ≤ b ∨ b + 6 < c) → I' c = I c) ∧ RU I' b (m + 1) (fun j i => if i = m then (if j = 0 then so else if j = 1 then wh else if j = 2 then sk else hg) else U j i)) := by
  obtain ⟨h7, p0, r1⟩ := hB
  have q1 := r1.1
  refine e_aload_n rfl rfl ?_
  refine e_getP rfl f7_14 (by assumption) rfl (by assumption) ?_
  refine e_callV (kd := 4) (M2 := m4_add) rfl v7_31 ok4_add (c4_add r1 hm0 hz (by omega)) rfl (by assumption) rfl rfl rfl rfl (fun r1 h1 q1 => ?_)
  obtain ⟨rfl, rfl⟩ := q1
  rw [if_neg (by omega)]
  refine e_aload_n rfl rfl ?_
  refine e_getP rfl f7_14 (by assumption) rfl (by assumption) ?_
  refine e_iconst (v := nI 0) rfl ic_0N ?_
  refine e_iload_n rfl rfl ?_
  refine e_callV (kd := 4) (M2 := m4_set) rfl v7_34 ok4_set (c4_set r1 (s := m + 1) (u2_at _ _ _ _) (by omega) (by omega) _) rfl (by assumption) rfl rfl rfl rfl (fun r1 h1 q1 => ?_)
  obtain ⟨rfl, rfl⟩ := q1
  rw [if_neg (by omega)]
  refine e_aload_n rfl rfl ?_
  refine e_getP rfl f7_14 (by assumption) rfl (by assumption) ?_
  refine e_iconst (v := nI 1) rfl ic_1N ?_
  refine e_iload_n rfl rfl ?_
  refine e_callV (kd := 4) (M2 := m4_set) rfl v7_34 ok4_set (c4_set r1 (s := m + 1) (by simp (disch := omega) only [u2_ne, u2_at]) (by omega) (by omega) _) rfl (by assumption) rfl rfl rfl rfl (fun r1 h1 q1 => ?_)
  obtain ⟨rfl, rfl⟩ := q1
  rw [if_neg (by omega)]
  refine e_aload_n rfl rfl ?_
  refine e_getP rfl f7_14 (by assumption) rfl (by assumption) ?_
  refine e_iconst (v := nI 2) rfl ic_2N ?_
  refine e_iload_n rfl rfl ?_
  refine e_callV (kd := 4) (M2 := m4_set) rfl v7_34 ok4_set (c4_set r1 (s := m + 1) (by simp (disch := omega) only [u2_ne, u2_at]) (by omega) (by omega) _) rfl (by assumption) rfl rfl rfl rfl (fun r1 h1 q1 => ?_)
  obtain ⟨rfl, rfl⟩ := q1
  rw [if_neg (by omega)]
  refine e_aload_n rfl rfl ?_
  refine e_getP rfl f7_14 (by assumption) rfl (by assumption) ?_
  refine e_iconst (v := nI 3) rfl ic_3N ?_
  refine e_iload rfl rfl ?_
  refine e_callV (kd := 4) (M2 := m4_set) rfl v7_34 ok4_set (c4_set r1 (s := m + 1) (by simp (disch := omega) only [u2_ne, u2_at]) (by omega) (by omega) _) rfl (by assumption) rfl rfl rfl rfl (fun r1 h1 q1 => ?_)
  obtain ⟨rfl, rfl⟩ := q1
  refine e_return rfl rfl ?_
  rw [if_neg (by omega)]
  simp only [show m + 1 - 1 = m by omega]
  refine ⟨trivial, _, rfl, ?_, ?_, ?_, by omega, ?_⟩
  · intro c hc2
    funext x
    simp (disch := omega) only [u2_ne]
  · simp (disch := omega) only [u2_ne, u2_nk]; exact hm0
  · simp (disch := omega) only [u2_ne, u2_at]
  · intro j hj i hi
    dsimp only
    by_cases hi2 : i = m
    · subst hi2
      rw [if_pos rfl]
      rcases (show j = 0 ∨ j = 1 ∨ j = 2 ∨ j = 3 by omega) with rfl | rfl | rfl | rfl
      · rw [show b + 3 + 0 = b + 1 + 2 + 0 by omega]; simp (disch := omega) only [u2_ne, u2_at]; rfl
      · rw [show b + 3 + 1 = b + 1 + 2 + 1 by omega]; simp (disch := omega) only [u2_ne, u2_at]; rfl
      · rw [show b + 3 + 2 = b + 1 + 2 + 2 by omega]; simp (disch := omega) only [u2_ne, u2_at]; rfl
      · rw [show b + 3 + 3 = b + 1 + 2 + 3 by omega]; simp (disch := omega) only [u2_ne, u2_at]; rfl
    · rw [if_neg hi2]
      simp (disch := omega) only [u2_ne, u2_nk]
      exact hc j hj i (by omega)
theorem c7_add (hB : isSteps K b) (hR : RU I b m U) (so wh sk hg : Int32) : Cw l G (d + 2) m7_add [.ref b, .int so, .int wh, .int sk, .int hg] (I, J, K) (fun r h' => r = none ∧ ∃ I', h' = (I', J, K) ∧ (∀ c, (c ≤ b ∨ b + 6 < c) → I' c = I c) ∧ RU I' b (if m = 20 then 20 else m + 1) (fun j i => if i = (if m = 20 then 19 else m) then (if j = 0 then so else if j = 1 then wh else if j = 2 then sk else hg) else if m = 20 then U j (i + 1) else U j i)) := by
  have hB2 := hB
  obtain ⟨h7, p0, r1⟩ := hB2
  have q1 := r1.1
  obtain ⟨hm0, hz, hm, hc⟩ := hR
  refine Cw.of ok7_add rfl (rfl : argL _ _ = [.ref b, .int so, .int wh, .int sk, .int hg]) ?_
  refine e_aload_n rfl rfl ?_
  refine e_getP rfl f7_14 (by assumption) rfl (by assumption) ?_
  refine e_callVp (kd := 4) (M2 := m4_isFull) rfl v7_24 ok4_isFull (c4_isFull r1 hm0 hz hm) rfl (by assumption) rfl rfl rfl rfl ?_
  first | refine e_if_eqB (tgt := 17) rfl rfl (fun z => ?_) (fun z => ?_) | refine e_if_eqN (tgt := 17) rfl rfl (by omega) (fun z => ?_) (fun z => ?_) | refine e_if_eq (tgt := 17) rfl rfl (fun z => ?_) (fun z => ?_)
  · have z := of_decide_eq_false z
    have h9 := c7_add4 (l := l) (G := G) (d := d) (J := J) hB hm0 hz (by omega) so wh sk hg hc
    rw [if_neg (by omega), if_neg (by omega)]
    have e : (fun j i => if i = m then (if j = 0 then so else if j = 1 then wh else if j = 2 then sk else hg) else if m = 20 then U j (i + 1) else U j i) = (fun j i => if i = m then (if j = 0 then so else if j = 1 then wh else if j = 2 then sk else hg) else U j i) := by
      funext j i
      rw [if_neg (c := m = 20) (by omega)]
    rw [e]
    exact h9
  · have z := of_decide_eq_true z
    obtain rfl : m = 20 := by omega
    refine e_aload_n rfl rfl ?_
    refine e_getP rfl f7_14 (by assumption) rfl (by assumption) ?_
    refine e_callV (kd := 4) (M2 := m4_dropFirst) rfl v7_28 ok4_dropFirst (c4_dropFirst r1 (s := 19) hz (by omega)) rfl (by assumption) rfl rfl rfl rfl (fun r1 h1 q1 => ?_)
    obtain ⟨rfl, I1, rfl, ea, ef, ec⟩ := q1
    have k0 : I1 (b + 1) 0 = nI 20 := by rw [ea, u2_nk _ _ (by omega)]; exact hm0
    have k2 : I1 (b + 1) 2 = nI 19 := by rw [ea, u2_at]
    obtain ⟨r9, h9, g9, e9, I2, e8, f8, u8⟩ := c7_add4 (l := l) (G := G) (d := d) (J := J) (U := fun j i => U j (i + 1)) hB k0 k2 (by omega) so wh sk hg (fun j hj i hi => by
      rw [show b + 3 + j = b + 1 + 2 + j by omega, ec j hj i hi, show b + 1 + 2 + j = b + 3 + j by omega]
      exact hc j hj (i + 1) (by omega))
    refine ⟨r9, h9, g9, e9, I2, e8, fun c hc2 => ?_, u8⟩
    rw [f8 c hc2, ef c (by omega)]
/-- the latest step taken back, in memory -/
def tbk (I : IM) (s : Nat) (so wh sk hg : Int32) (n : Nat) : IM :=
  if so = nI 3 then u2 I s 9 (I s 9 - wh)
  else if inN n wh = true then
    (if so = 0 then u2 (u2 (u2 I (s + 1) wh.toNatClampNeg (nI 0)) (s + 5) wh.toNatClampNeg (nI 0)) s 9 (I s 9 + nI 1)
    else if so = nI 1 then u2 (u2 I (s + 3) wh.toNatClampNeg sk) (s + 4) wh.toNatClampNeg hg
    else u2 I (s + 2) wh.toNatClampNeg (I (s + 2) wh.toNatClampNeg - nI 1))
  else I
theorem c7_takeBackOfTin {s n : Nat} (hB : isSteps K b) (hR : RU I b (m + 1) U) (hS : isState K s) (hd : s + 8 ≤ b) (h8n : n ≤ 8) {w : Nat} (hw : w < n) (so : Int32) : Cw l G (d + 2) m7_takeBackOfTin [.ref b, .ref s, .int so, .int (nI w)] (I, J, K) (fun r h' => r = none ∧ h' = (if so = 0 then u2 (u2 (u2 I (s + 1) w (nI 0)) (s + 5) w (nI 0)) s 9 (I s 9 + nI 1) else if so = nI 1 then u2 (u2 I (s + 3) w (U 2 m)) (s + 4) w (U 3 m) else u2 I (s + 2) w (I (s + 2) w - nI 1), J, K)) := by
  obtain ⟨h7, q0, r1⟩ := hB
  have q1 := r1.1
  obtain ⟨hm0, hz, hm, hc⟩ := hR
  obtain ⟨h6, p0, p1, p2, p3, p4, p5, p6, a1, a2, a3, a4, a5, a6, a7⟩ := hS
  have u2m : I (b + 1 + 2 + 2) m = U 2 m := hc 2 (by omega) m (by omega)
  have u3m : I (b + 1 + 2 + 3) m = U 3 m := hc 3 (by omega) m (by omega)
  refine Cw.of ok7_takeBackOfTin rfl (rfl : argL _ _ = [.ref b, .ref s, .int so, .int (nI w), .null]) ?_
  refine e_aload_n rfl rfl ?_
  refine e_getP rfl f7_14 (by assumption) rfl (by assumption) ?_
  refine e_getI rfl f7_20 (by assumption) rfl ?_
  rw [hz]
  refine e_iconst (v := nI 1) rfl ic_1N ?_
  first | refine e_isubN rfl (by omega) ?_ | refine e_isub rfl ?_
  rw [show m + 1 - 1 = m by omega]
  refine e_ist4 rfl rfl rfl ?_
  refine e_iload_n rfl rfl ?_
  first | refine e_if_neB (tgt := 42) rfl rfl (fun z => ?_) (fun z => ?_) | refine e_if_neN (tgt := 42) rfl rfl (by omega) (fun z => ?_) (fun z => ?_) | refine e_if_ne (tgt := 42) rfl rfl (fun z => ?_) (fun z => ?_)
  · have z0 : ¬ so = 0 := by assumption
    rw [if_neg z0]
    refine e_iload_n rfl rfl ?_
    refine e_iconst (v := nI 1) rfl ic_1N ?_
    first | refine e_icmp_neN (tgt := 82) rfl rfl (by omega) (by omega) (fun z => ?_) (fun z => ?_) | refine e_icmp_ne (tgt := 82) rfl rfl (fun z => ?_) (fun z => ?_)
    · have z1 : ¬ so = nI 1 := by assumption
      rw [if_neg z1]
      refine e_aload_n rfl rfl ?_
      refine e_getP rfl f7_72 (by assumption) rfl (by assumption) ?_
      refine e_iload_n rfl rfl ?_
      refine e_dup2 rfl rfl rfl ?_
      first | refine e_ialoadN rfl (by assumption) (by omega) (by omega) ?_ | (refine e_iaload rfl (by assumption) ?_ ?_; rotate_left)
      refine e_iconst (v := nI 1) rfl ic_1N ?_
      first | refine e_isubN rfl (by omega) ?_ | refine e_isub rfl ?_
      first | refine e_iastoreN rfl (by assumption) (by omega) (by omega) ?_ | (refine e_iastore rfl (by assumption) ?_ ?_; rotate_left)
      refine e_return rfl rfl ?_
      exact ⟨rfl, rfl⟩
    · have z1 : so = nI 1 := by assumption
      rw [if_pos z1]
      refine e_aload_n rfl rfl ?_
      refine e_getP rfl f7_66 (by assumption) rfl (by assumption) ?_
      refine e_iload_n rfl rfl ?_
      refine e_aload_n rfl rfl ?_
      refine e_getP rfl f7_14 (by assumption) rfl (by assumption) ?_
      refine e_iload rfl rfl ?_
      refine e_iconst (v := nI 2) rfl ic_2N ?_
      refine e_callVp (kd := 4) (M2 := m4_at) rfl v7_37 ok4_at (c4_at r1 hz hm (by omega) _) rfl (by assumption) rfl rfl rfl rfl ?_
      rw [rAt_nI (by omega) (by omega), u2m]
      first | refine e_iastoreN rfl (by assumption) (by omega) (by omega) ?_ | (refine e_iastore rfl (by assumption) ?_ ?_; rotate_left)
      refine e_aload_n rfl rfl ?_
      refine e_getP rfl f7_69 (by assumption) rfl (by assumption) ?_
      refine e_iload_n rfl rfl ?_
      refine e_aload_n rfl rfl ?_
      refine e_getP rfl f7_14 (by assumption) rfl (by assumption) ?_
      refine e_iload rfl rfl ?_
      refine e_iconst (v := nI 3) rfl ic_3N ?_
      refine e_callVp (kd := 4) (M2 := m4_at) rfl v7_37 ok4_at (c4_at r1 (by simp (disch := omega) only [u2_ne]; exact hz) hm (by omega) _) rfl (by assumption) rfl rfl rfl rfl ?_
      rw [rAt_nI (by omega) (by omega)]
      simp (disch := omega) only [u2_ne]
      rw [u3m]
      first | refine e_iastoreN rfl (by assumption) (by omega) (by omega) ?_ | (refine e_iastore rfl (by assumption) ?_ ?_; rotate_left)
      refine e_goto (tgt := 92) rfl rfl ?_
      refine e_return rfl rfl ?_
      exact ⟨rfl, rfl⟩
  · have z0 : so = 0 := by assumption
    rw [if_pos z0]
    refine e_aload_n rfl rfl ?_
    refine e_getP rfl f7_59 (by assumption) rfl (by assumption) ?_
    refine e_iload_n rfl rfl ?_
    refine e_iconst (v := nI 0) rfl ic_0N ?_
    first | refine e_iastoreN rfl (by assumption) (by omega) (by omega) ?_ | (refine e_iastore rfl (by assumption) ?_ ?_; rotate_left)
    refine e_aload_n rfl rfl ?_
    refine e_getP rfl f7_63 (by assumption) rfl (by assumption) ?_
    refine e_iload_n rfl rfl ?_
    refine e_iconst (v := nI 0) rfl ic_0N ?_
    first | refine e_iastoreN rfl (by assumption) (by omega) (by omega) ?_ | (refine e_iastore rfl (by assumption) ?_ ?_; rotate_left)
    refine e_aload_n rfl rfl ?_
    refine e_dup rfl rfl ?_
    refine e_getI rfl f7_41 (by assumption) rfl ?_
    simp (disch := omega) only [u2_ne]
    refine e_iconst (v := nI 1) rfl ic_1N ?_
    first | refine e_iaddN rfl ?_ | refine e_iadd rfl ?_
    refine e_putI rfl f7_41 (by assumption) rfl rfl ?_
    refine e_goto (tgt := 92) rfl rfl ?_
    refine e_return rfl rfl ?_
    exact ⟨rfl, rfl⟩
theorem c7_takeBack {s n : Nat} (hB : isSteps K b) (hR : RU I b (m + 1) U) (hS : isState K s) (hn : I s 7 = nI n) (h8n : n ≤ 8) (hd : s + 8 ≤ b) : Cw l G (d + 3) m7_takeBack [.ref b, .ref s] (I, J, K) (fun r h' => r = none ∧ h' = (u2 (tbk I s (U 0 m) (U 1 m) (U 2 m) (U 3 m) n) (b + 1) 2 (nI m), J, K)) := by
  have hB2 := hB
  obtain ⟨h7, q0, r1⟩ := hB2
  have q1 := r1.1
  have hR2 := hR
  obtain ⟨hm0, hz, hm, hc⟩ := hR2
  have hS2 := hS
  obtain ⟨h6, p0, p1, p2, p3, p4, p5, p6, a1, a2, a3, a4, a5, a6, a7⟩ := hS2
  have u0m : I (b + 1 + 2 + 0) m = U 0 m := hc 0 (by omega) m (by omega)
  have u1m : I (b + 1 + 2 + 1) m = U 1 m := hc 1 (by omega) m (by omega)
  have hmax : (if nI m < nI 0 then nI 0 else nI m) = nI m := if_neg (fun q => absurd ((nI_ltI (by omega) (by omega)).mp q) (by omega))
  refine Cw.of ok7_takeBack rfl (rfl : argL _ _ = [.ref b, .ref s, .null, .null, .null]) ?_
  refine e_aload_n rfl rfl ?_
  refine e_getP rfl f7_14 (by assumption) rfl (by assumption) ?_
  refine e_getI rfl f7_20 (by assumption) rfl ?_
  rw [hz]
  refine e_iconst (v := nI 1) rfl ic_1N ?_
  first | refine e_isubN rfl (by omega) ?_ | refine e_isub rfl ?_
  rw [show m + 1 - 1 = m by omega]
  refine e_ist2 rfl rfl rfl ?_
  refine e_aload_n rfl rfl ?_
  refine e_getP rfl f7_14 (by assumption) rfl (by assumption) ?_
  refine e_iload_n rfl rfl ?_
  refine e_iconst (v := nI 0) rfl ic_0N ?_
  refine e_callVp (kd := 4) (M2 := m4_at) rfl v7_37 ok4_at (c4_at r1 hz hm (by omega) _) rfl (by assumption) rfl rfl rfl rfl ?_
  rw [rAt_nI (by omega) (by omega), u0m]
  refine e_ist3 rfl rfl rfl ?_
  refine e_aload_n rfl rfl ?_
  refine e_getP rfl f7_14 (by assumption) rfl (by assumption) ?_
  refine e_iload_n rfl rfl ?_
  refine e_iconst (v := nI 1) rfl ic_1N ?_
  refine e_callVp (kd := 4) (M2 := m4_at) rfl v7_37 ok4_at (c4_at r1 hz hm (by omega) _) rfl (by assumption) rfl rfl rfl rfl ?_
  rw [rAt_nI (by omega) (by omega), u1m]
  refine e_ist4 rfl rfl rfl ?_
  refine e_iload_n rfl rfl ?_
  refine e_iconst (v := nI 3) rfl ic_3N ?_
  first | refine e_icmp_neN (tgt := 50) rfl rfl (by omega) (by omega) (fun z => ?_) (fun z => ?_) | refine e_icmp_ne (tgt := 50) rfl rfl (fun z => ?_) (fun z => ?_)
  · have z3 : ¬ U 0 m = nI 3 := by assumption
    refine e_aload_n rfl rfl ?_
    refine e_iload rfl rfl ?_
    refine e_callVp (kd := 6) (M2 := m6_has) rfl v7_46 ok6_has (c6_has h6 hn (U 1 m)) rfl (by assumption) rfl rfl rfl rfl ?_
    first | refine e_if_eqB (tgt := 67) rfl rfl (fun z => ?_) (fun z => ?_) | refine e_if_eqN (tgt := 67) rfl rfl (by omega) (fun z => ?_) (fun z => ?_) | refine e_if_eq (tgt := 67) rfl rfl (fun z => ?_) (fun z => ?_)
    · refine e_aload_n rfl rfl ?_
      refine e_getP rfl f7_14 (by assumption) rfl (by assumption) ?_
      refine e_iload_n rfl rfl ?_
      refine e_iconst (v := nI 0) rfl ic_0N ?_
      refine e_max rfl v7_54 rfl ?_
      rw [hmax]
      refine e_putI rfl f7_20 (by assumption) rfl rfl ?_
      refine e_return rfl rfl ?_
      rw [tbk, if_neg z3, if_neg (by rw [z]; decide)]
      exact ⟨rfl, rfl⟩
    · have hin : inN n (U 1 m) = true := by assumption
      obtain ⟨w, hw, ew⟩ := inN_of (by omega) hin
      rw [tbk, if_neg z3, if_pos hin]
      rw [ew, nI_clamp (by omega)]
      refine e_aload_n rfl rfl ?_
      refine e_aload_n rfl rfl ?_
      refine e_iload_n rfl rfl ?_
      refine e_iload rfl rfl ?_
      refine e_callV (kd := 7) (M2 := m7_takeBackOfTin) rfl v7_50 ok7_takeBackOfTin (c7_takeBackOfTin hB hR hS hd h8n hw _) rfl (by assumption) rfl rfl rfl rfl (fun r1 h1 q1 => ?_)
      obtain ⟨rfl, rfl⟩ := q1
      refine e_aload_n rfl rfl ?_
      refine e_getP rfl f7_14 (by assumption) rfl (by assumption) ?_
      refine e_iload_n rfl rfl ?_
      refine e_iconst (v := nI 0) rfl ic_0N ?_
      refine e_max rfl v7_54 rfl ?_
      rw [hmax]
      refine e_putI rfl f7_20 (by assumption) rfl rfl ?_
      refine e_return rfl rfl ?_
      exact ⟨rfl, rfl⟩
  · have z3 : U 0 m = nI 3 := by assumption
    refine e_aload_n rfl rfl ?_
    refine e_dup rfl rfl ?_
    refine e_getI rfl f7_41 (by assumption) rfl ?_
    refine e_iload rfl rfl ?_
    first | refine e_isubN rfl (by omega) ?_ | refine e_isub rfl ?_
    refine e_putI rfl f7_41 (by assumption) rfl rfl ?_
    refine e_goto (tgt := 67) rfl rfl ?_
    refine e_aload_n rfl rfl ?_
    refine e_getP rfl f7_14 (by assumption) rfl (by assumption) ?_
    refine e_iload_n rfl rfl ?_
    refine e_iconst (v := nI 0) rfl ic_0N ?_
    refine e_max rfl v7_54 rfl ?_
    rw [hmax]
    refine e_putI rfl f7_20 (by assumption) rfl rfl ?_
    refine e_return rfl rfl ?_
    rw [tbk, if_pos z3]
    exact ⟨rfl, rfl⟩
end MSteps
end
section
/-! ===== days, as numbers: the plan P, the state S ===== -/
/-- v within bounds, wo for an ERROR -/
def wn (v : Int64) (lo hi wo : Int32) : Int32 := if v = MINL then wo else (if (if v < hi.toInt64 then v else hi.toInt64) < lo.toInt64 then lo.toInt64 else (if v < hi.toInt64 then v else hi.toInt64)).toInt32
abbrev SM : Type := Nat → Nat → Int32
/-- the NAMES of a TIN, with a WORTH -/
def nmS (P : Pl) (S : SM) (t : Nat) (wo : Int32) : Nat → Int32 := fun k => if k = 0 then S 1 t else if k = 1 then P.2 6 t else if k = 2 then P.2 1 (P.2 4 t).toNatClampNeg else if k = 3 then P.2 2 (P.2 4 t).toNatClampNeg else if k = 4 then wo else if k = 5 then S 4 t else S 8 0
def lawP (P : Pl) (w : Nat) (nm : Nat → Int32) : Int64 := lawV (P.2 16 0) (P.2 13) (P.2 14) (P.2 15) nm w
/-- CLOSED ones above t -/
def abS (S : SM) (t u : Nat) : Bool := decide (S 0 u = 0) && decide (S (100 + t) u = 1)
def topS (S : SM) (n t : Nat) : Bool := decide (S 0 t = 0) && decide (cnt (abS S t) n = 0)
def unsS (P : Pl) (S : SM) (t : Nat) : SM := u2 (u2 (u2 S 0 t (nI 1)) 9 0 (S 9 0 - nI 1)) 4 t (wn (lawP P 0 (nmS P S t 0)) (nI 1) (nI 9) (nI 3))
/-- one open told -/
def ot1 (P : Pl) (way sp : Int32) (n : Nat) (S : SM) (i : Nat) : SM :=
  if P.2 9 i = S 8 0 ∧ ¬ (way = nI 2 ∧ P.2 8 i = sp) then
    (if 0 < S 9 0 ∧ (if way = nI 3 then decide (S 0 (P.2 8 i).toNatClampNeg = 0) else topS S n (P.2 8 i).toNatClampNeg) = true then unsS P S (P.2 8 i).toNatClampNeg else u2 S 13 0 (S 13 0 + nI 1))
  else S
def otS (P : Pl) (way sp : Int32) (n : Nat) : Nat → Nat → SM → SM
  | _, 0, S => S
  | i, k + 1, S => otS P way sp n (i + 1) k (ot1 P way sp n S i)
/-- who serves: the first OPEN one of a KIND that isn't busy, from t on; -1 without -/
def srv (P : Pl) (S : SM) (kd busy : Int32) : Nat → Nat → Int32
  | _, 0 => -1
  | t, k + 1 => if S 0 t = nI 1 ∧ P.2 4 t = kd ∧ bitOf busy (nI t) = false then nI t else srv P S kd busy (t + 1) k
/-- one WANT of the day: who is busy then, the state then -/
def sv1 (P : Pl) (n : Nat) (busy : Int32) (S : SM) (w : Nat) : Int32 × SM :=
  if P.2 11 w = S 8 0 then
    (if srv P S (P.2 10 w) busy 0 n = -1 then (busy, u2 (u2 S 6 w (nI 2)) 12 0 (S 12 0 + nI 1))
    else (busy ||| nI 1 <<< (srv P S (P.2 10 w) busy 0 n &&& 31), u2 (u2 (u2 (u2 S 6 w (nI 1)) 11 0 (S 11 0 + nI 1)) 5 (srv P S (P.2 10 w) busy 0 n).toNatClampNeg (S 5 (srv P S (P.2 10 w) busy 0 n).toNatClampNeg + nI 1)) 10 0 (S 10 0 + wn (lawP P 1 (nmS P S (srv P S (P.2 10 w) busy 0 n).toNatClampNeg (P.2 12 w))) (nI 0) (nI 999) (P.2 12 w))))
  else (busy, S)
def svS (P : Pl) (n : Nat) : Nat → Nat → Int32 → SM → SM
  | _, 0, _, S => S
  | w, k + 1, busy, S => svS P n (w + 1) k (sv1 P n busy S w).1 (sv1 P n busy S w).2
def go1 (S : SM) (t : Nat) : SM := if S 0 t = nI 1 then (if 0 < S 4 t - nI 1 then u2 S 4 t (S 4 t - nI 1) else u2 (u2 S 4 t (nI 0)) 0 t (nI 2)) else S
def goS : Nat → Nat → SM → SM
  | _, 0, S => S
  | t, k + 1, S => goS (t + 1) k (go1 S t)
def nx32 (x : Int32) : Int32 := (nxt x.toInt64).toInt32
/-- does it rust, by odds: and the number then -/
def rsB (dr : Bool) (S : SM) (o : Int32) : Bool × SM :=
  if dr = false then (decide (nI 50 ≤ o), S)
  else if o = 0 ∨ o = nI 100 then (decide (o = nI 100), S)
  else (decide ((nxt (S 14 0).toInt64 / 65536).toInt32 - (nxt (S 14 0).toInt64 / 65536).toInt32 / nI 100 * nI 100 < o), u2 S 14 0 (nx32 (S 14 0)))
def odds (P : Pl) (S : SM) (t : Nat) : Int32 := wn (lawP P 2 (nmS P S t 0)) (nI 0) (nI 100) (P.2 20 1)
def ru1 (P : Pl) (dr : Bool) (S : SM) (t : Nat) : SM :=
  if S 0 t = 0 then (if (rsB dr S (odds P S t)).1 = true then u2 (rsB dr S (odds P S t)).2 1 t (if S 1 t + nI 1 < nI 10 then S 1 t + nI 1 else nI 10) else (rsB dr S (odds P S t)).2) else S
def ruS (P : Pl) (dr : Bool) : Nat → Nat → SM → SM
  | _, 0, S => S
  | t, k + 1, S => ruS P dr (t + 1) k (ru1 P dr S t)
def bl1 (P : Pl) (S : SM) (t : Nat) : SM := if S 0 t = 0 ∧ (P.2 6 t ≤ S 8 0 ∨ nI 10 ≤ S 1 t) then u2 S 0 t (nI 3) else S
def blS (P : Pl) : Nat → Nat → SM → SM
  | _, 0, S => S
  | t, k + 1, S => blS P (t + 1) k (bl1 P S t)
/-- a DAY -/
def paS (P : Pl) (dr : Bool) (way sp : Int32) (n : Nat) (S : SM) : SM :=
  let S1 := otS P way sp n 0 (P.1 2) S
  let S2 := svS P n 0 (P.1 3) 0 S1
  let S3 := if way = nI 5 then S2 else goS 0 n S2
  let S4 := if way = nI 1 then S3 else ruS P dr 0 n S3
  let S5 := blS P 0 n S4
  u2 S5 8 0 (S5 8 0 + nI 1)
/-- a plan that is in order -/
def wfP (P : Pl) : Prop := (∀ t, t < P.1 1 → ∃ j, j < P.1 0 ∧ P.2 4 t = nI j) ∧ (∀ i, i < P.1 2 → ∃ j, j < P.1 1 ∧ P.2 8 i = nI j) ∧ (∀ w, w < P.1 3 → ∃ j, j < P.1 0 ∧ P.2 10 w = nI j) ∧
  (∀ w, w < 3 → bitOf (P.2 16 0) (nI w) = true → ∃ f u, P.2 14 w = nI f ∧ P.2 15 w = nI u ∧ f ≤ u ∧ u ≤ 64) ∧ (∀ i, i < P.1 2 → P.2 9 i ≤ P.2 20 3) ∧ (∀ w, w < P.1 3 → P.2 11 w ≤ P.2 20 4) ∧ (∃ j, j ≤ 100 ∧ P.2 20 1 = nI j)
section SRC
variable {I : IM} {J : JM} {s n : Nat} {S : SM}

theorem RC.up0 (h : RC I J s n S) {t : Nat} (ht : t < n) (v : Int32) : RC (u2 I (s + 1) t v) J s n (u2 S 0 t v) := by
  obtain ⟨h1, h2, h3, h4, h5, ⟨k1, k2, k3, k4, k5, k6⟩, h7⟩ := h
  refine ⟨?_, h2, fun t' ht' => ?_, fun t' ht' u hu => ?_, fun w hw => ?_, ⟨?_, ?_, ?_, ?_, ?_, ?_⟩, ?_⟩
  · rw [u2_ne _ _ (by omega)]; exact h1
  · obtain ⟨e1, e2, e3, e4, e5⟩ := h3 t' ht'
    by_cases e : t' = t
    · subst e
      simp (disch := omega) only [u2_at, u2_ne]
      simp [*]
    · simp (disch := omega) only [u2_nk, u2_ne]
      exact ⟨e1, e2, e3, e4, e5⟩
  · simp (disch := omega) only [u2_ne]
    exact h4 t' ht' u hu
  · simp (disch := omega) only [u2_ne]
    exact h5 w hw
  · simp (disch := omega) only [u2_ne]; exact k1
  · simp (disch := omega) only [u2_ne]; exact k2
  · simp (disch := omega) only [u2_ne]; exact k3
  · simp (disch := omega) only [u2_ne]; exact k4
  · simp (disch := omega) only [u2_ne]; exact k5
  · simp (disch := omega) only [u2_ne]; exact k6
  · simp (disch := omega) only [u2_ne]; exact h7
theorem RC.up1 (h : RC I J s n S) {t : Nat} (ht : t < n) (v : Int32) : RC (u2 I (s + 2) t v) J s n (u2 S 1 t v) := by
  obtain ⟨h1, h2, h3, h4, h5, ⟨k1, k2, k3, k4, k5, k6⟩, h7⟩ := h
  refine ⟨?_, h2, fun t' ht' => ?_, fun t' ht' u hu => ?_, fun w hw => ?_, ⟨?_, ?_, ?_, ?_, ?_, ?_⟩, ?_⟩
  · rw [u2_ne _ _ (by omega)]; exact h1
  · obtain ⟨e1, e2, e3, e4, e5⟩ := h3 t' ht'
    by_cases e : t' = t
    · subst e
      simp (disch := omega) only [u2_at, u2_ne]
      simp [*]
    · simp (disch := omega) only [u2_nk, u2_ne]
      exact ⟨e1, e2, e3, e4, e5⟩
  · simp (disch := omega) only [u2_ne]
    exact h4 t' ht' u hu
  · simp (disch := omega) only [u2_ne]
    exact h5 w hw
  · simp (disch := omega) only [u2_ne]; exact k1
  · simp (disch := omega) only [u2_ne]; exact k2
  · simp (disch := omega) only [u2_ne]; exact k3
  · simp (disch := omega) only [u2_ne]; exact k4
  · simp (disch := omega) only [u2_ne]; exact k5
  · simp (disch := omega) only [u2_ne]; exact k6
  · simp (disch := omega) only [u2_ne]; exact h7
theorem RC.up4 (h : RC I J s n S) {t : Nat} (ht : t < n) (v : Int32) : RC (u2 I (s + 5) t v) J s n (u2 S 4 t v) := by
  obtain ⟨h1, h2, h3, h4, h5, ⟨k1, k2, k3, k4, k5, k6⟩, h7⟩ := h
  refine ⟨?_, h2, fun t' ht' => ?_, fun t' ht' u hu => ?_, fun w hw => ?_, ⟨?_, ?_, ?_, ?_, ?_, ?_⟩, ?_⟩
  · rw [u2_ne _ _ (by omega)]; exact h1
  · obtain ⟨e1, e2, e3, e4, e5⟩ := h3 t' ht'
    by_cases e : t' = t
    · subst e
      simp (disch := omega) only [u2_at, u2_ne]
      simp [*]
    · simp (disch := omega) only [u2_nk, u2_ne]
      exact ⟨e1, e2, e3, e4, e5⟩
  · simp (disch := omega) only [u2_ne]
    exact h4 t' ht' u hu
  · simp (disch := omega) only [u2_ne]
    exact h5 w hw
  · simp (disch := omega) only [u2_ne]; exact k1
  · simp (disch := omega) only [u2_ne]; exact k2
  · simp (disch := omega) only [u2_ne]; exact k3
  · simp (disch := omega) only [u2_ne]; exact k4
  · simp (disch := omega) only [u2_ne]; exact k5
  · simp (disch := omega) only [u2_ne]; exact k6
  · simp (disch := omega) only [u2_ne]; exact h7
theorem RC.up5 (h : RC I J s n S) {t : Nat} (ht : t < n) (v : Int32) : RC (u2 I (s + 6) t v) J s n (u2 S 5 t v) := by
  obtain ⟨h1, h2, h3, h4, h5, ⟨k1, k2, k3, k4, k5, k6⟩, h7⟩ := h
  refine ⟨?_, h2, fun t' ht' => ?_, fun t' ht' u hu => ?_, fun w hw => ?_, ⟨?_, ?_, ?_, ?_, ?_, ?_⟩, ?_⟩
  · rw [u2_ne _ _ (by omega)]; exact h1
  · obtain ⟨e1, e2, e3, e4, e5⟩ := h3 t' ht'
    by_cases e : t' = t
    · subst e
      simp (disch := omega) only [u2_at, u2_ne]
      simp [*]
    · simp (disch := omega) only [u2_nk, u2_ne]
      exact ⟨e1, e2, e3, e4, e5⟩
  · simp (disch := omega) only [u2_ne]
    exact h4 t' ht' u hu
  · simp (disch := omega) only [u2_ne]
    exact h5 w hw
  · simp (disch := omega) only [u2_ne]; exact k1
  · simp (disch := omega) only [u2_ne]; exact k2
  · simp (disch := omega) only [u2_ne]; exact k3
  · simp (disch := omega) only [u2_ne]; exact k4
  · simp (disch := omega) only [u2_ne]; exact k5
  · simp (disch := omega) only [u2_ne]; exact k6
  · simp (disch := omega) only [u2_ne]; exact h7
theorem RC.up6 (h : RC I J s n S) {w : Nat} (hw : w < 8) (v : Int32) : RC (u2 I (s + 7) w v) J s n (u2 S 6 w v) := by
  obtain ⟨h1, h2, h3, h4, h5, ⟨k1, k2, k3, k4, k5, k6⟩, h7⟩ := h
  refine ⟨?_, h2, fun t' ht' => ?_, fun t' ht' u hu => ?_, fun w' hw' => ?_, ⟨?_, ?_, ?_, ?_, ?_, ?_⟩, ?_⟩
  · rw [u2_ne _ _ (by omega)]; exact h1
  · simp (disch := omega) only [u2_ne]
    exact h3 t' ht'
  · simp (disch := omega) only [u2_ne]
    exact h4 t' ht' u hu
  · by_cases e : w' = w
    · subst e
      rw [u2_at, u2_at]
    · rw [u2_nk _ _ e, u2_nk _ _ e]
      exact h5 w' hw'
  · simp (disch := omega) only [u2_ne]; exact k1
  · simp (disch := omega) only [u2_ne]; exact k2
  · simp (disch := omega) only [u2_ne]; exact k3
  · simp (disch := omega) only [u2_ne]; exact k4
  · simp (disch := omega) only [u2_ne]; exact k5
  · simp (disch := omega) only [u2_ne]; exact k6
  · simp (disch := omega) only [u2_ne]; exact h7
theorem RC.up8 (h : RC I J s n S) (v : Int32) : RC (u2 I s 8 v) J s n (u2 S 8 0 v) := by
  obtain ⟨h1, h2, h3, h4, h5, ⟨k1, k2, k3, k4, k5, k6⟩, h7⟩ := h
  refine ⟨?_, h2, fun t' ht' => ?_, fun t' ht' u hu => ?_, fun w' hw' => ?_, ⟨?_, ?_, ?_, ?_, ?_, ?_⟩, ?_⟩
  · rw [u2_nk _ _ (by omega)]; exact h1
  · simp (disch := omega) only [u2_ne]
    exact h3 t' ht'
  · simp (disch := omega) only [u2_ne]
    exact h4 t' ht' u hu
  · simp (disch := omega) only [u2_ne]
    exact h5 w' hw'
  · simp (disch := omega) only [u2_at, u2_nk, u2_ne]
  · simp (disch := omega) only [u2_at, u2_nk, u2_ne]; exact k2
  · simp (disch := omega) only [u2_at, u2_nk, u2_ne]; exact k3
  · simp (disch := omega) only [u2_at, u2_nk, u2_ne]; exact k4
  · simp (disch := omega) only [u2_at, u2_nk, u2_ne]; exact k5
  · simp (disch := omega) only [u2_at, u2_nk, u2_ne]; exact k6
  · simp (disch := omega) only [u2_ne]; exact h7
theorem RC.up9 (h : RC I J s n S) (v : Int32) : RC (u2 I s 9 v) J s n (u2 S 9 0 v) := by
  obtain ⟨h1, h2, h3, h4, h5, ⟨k1, k2, k3, k4, k5, k6⟩, h7⟩ := h
  refine ⟨?_, h2, fun t' ht' => ?_, fun t' ht' u hu => ?_, fun w' hw' => ?_, ⟨?_, ?_, ?_, ?_, ?_, ?_⟩, ?_⟩
  · rw [u2_nk _ _ (by omega)]; exact h1
  · simp (disch := omega) only [u2_ne]
    exact h3 t' ht'
  · simp (disch := omega) only [u2_ne]
    exact h4 t' ht' u hu
  · simp (disch := omega) only [u2_ne]
    exact h5 w' hw'
  · simp (disch := omega) only [u2_at, u2_nk, u2_ne]; exact k1
  · simp (disch := omega) only [u2_at, u2_nk, u2_ne]
  · simp (disch := omega) only [u2_at, u2_nk, u2_ne]; exact k3
  · simp (disch := omega) only [u2_at, u2_nk, u2_ne]; exact k4
  · simp (disch := omega) only [u2_at, u2_nk, u2_ne]; exact k5
  · simp (disch := omega) only [u2_at, u2_nk, u2_ne]; exact k6
  · simp (disch := omega) only [u2_ne]; exact h7
theorem RC.up10 (h : RC I J s n S) (v : Int32) : RC (u2 I s 10 v) J s n (u2 S 10 0 v) := by
  obtain ⟨h1, h2, h3, h4, h5, ⟨k1, k2, k3, k4, k5, k6⟩, h7⟩ := h
  refine ⟨?_, h2, fun t' ht' => ?_, fun t' ht' u hu => ?_, fun w' hw' => ?_, ⟨?_, ?_, ?_, ?_, ?_, ?_⟩, ?_⟩
  · rw [u2_nk _ _ (by omega)]; exact h1
  · simp (disch := omega) only [u2_ne]
    exact h3 t' ht'
  · simp (disch := omega) only [u2_ne]
    exact h4 t' ht' u hu
  · simp (disch := omega) only [u2_ne]
    exact h5 w' hw'
  · simp (disch := omega) only [u2_at, u2_nk, u2_ne]; exact k1
  · simp (disch := omega) only [u2_at, u2_nk, u2_ne]; exact k2
  · simp (disch := omega) only [u2_at, u2_nk, u2_ne]
  · simp (disch := omega) only [u2_at, u2_nk, u2_ne]; exact k4
  · simp (disch := omega) only [u2_at, u2_nk, u2_ne]; exact k5
  · simp (disch := omega) only [u2_at, u2_nk, u2_ne]; exact k6
  · simp (disch := omega) only [u2_ne]; exact h7
theorem RC.up11 (h : RC I J s n S) (v : Int32) : RC (u2 I s 11 v) J s n (u2 S 11 0 v) := by
  obtain ⟨h1, h2, h3, h4, h5, ⟨k1, k2, k3, k4, k5, k6⟩, h7⟩ := h
  refine ⟨?_, h2, fun t' ht' => ?_, fun t' ht' u hu => ?_, fun w' hw' => ?_, ⟨?_, ?_, ?_, ?_, ?_, ?_⟩, ?_⟩
  · rw [u2_nk _ _ (by omega)]; exact h1
  · simp (disch := omega) only [u2_ne]
    exact h3 t' ht'
  · simp (disch := omega) only [u2_ne]
    exact h4 t' ht' u hu
  · simp (disch := omega) only [u2_ne]
    exact h5 w' hw'
  · simp (disch := omega) only [u2_at, u2_nk, u2_ne]; exact k1
  · simp (disch := omega) only [u2_at, u2_nk, u2_ne]; exact k2
  · simp (disch := omega) only [u2_at, u2_nk, u2_ne]; exact k3
  · simp (disch := omega) only [u2_at, u2_nk, u2_ne]
  · simp (disch := omega) only [u2_at, u2_nk, u2_ne]; exact k5
  · simp (disch := omega) only [u2_at, u2_nk, u2_ne]; exact k6
  · simp (disch := omega) only [u2_ne]; exact h7
theorem RC.up12 (h : RC I J s n S) (v : Int32) : RC (u2 I s 12 v) J s n (u2 S 12 0 v) := by
  obtain ⟨h1, h2, h3, h4, h5, ⟨k1, k2, k3, k4, k5, k6⟩, h7⟩ := h
  refine ⟨?_, h2, fun t' ht' => ?_, fun t' ht' u hu => ?_, fun w' hw' => ?_, ⟨?_, ?_, ?_, ?_, ?_, ?_⟩, ?_⟩
  · rw [u2_nk _ _ (by omega)]; exact h1
  · simp (disch := omega) only [u2_ne]
    exact h3 t' ht'
  · simp (disch := omega) only [u2_ne]
    exact h4 t' ht' u hu
  · simp (disch := omega) only [u2_ne]
    exact h5 w' hw'
  · simp (disch := omega) only [u2_at, u2_nk, u2_ne]; exact k1
  · simp (disch := omega) only [u2_at, u2_nk, u2_ne]; exact k2
  · simp (disch := omega) only [u2_at, u2_nk, u2_ne]; exact k3
  · simp (disch := omega) only [u2_at, u2_nk, u2_ne]; exact k4
  · simp (disch := omega) only [u2_at, u2_nk, u2_ne]
  · simp (disch := omega) only [u2_at, u2_nk, u2_ne]; exact k6
  · simp (disch := omega) only [u2_ne]; exact h7
theorem RC.up13 (h : RC I J s n S) (v : Int32) : RC (u2 I s 13 v) J s n (u2 S 13 0 v) := by
  obtain ⟨h1, h2, h3, h4, h5, ⟨k1, k2, k3, k4, k5, k6⟩, h7⟩ := h
  refine ⟨?_, h2, fun t' ht' => ?_, fun t' ht' u hu => ?_, fun w' hw' => ?_, ⟨?_, ?_, ?_, ?_, ?_, ?_⟩, ?_⟩
  · rw [u2_nk _ _ (by omega)]; exact h1
  · simp (disch := omega) only [u2_ne]
    exact h3 t' ht'
  · simp (disch := omega) only [u2_ne]
    exact h4 t' ht' u hu
  · simp (disch := omega) only [u2_ne]
    exact h5 w' hw'
  · simp (disch := omega) only [u2_at, u2_nk, u2_ne]; exact k1
  · simp (disch := omega) only [u2_at, u2_nk, u2_ne]; exact k2
  · simp (disch := omega) only [u2_at, u2_nk, u2_ne]; exact k3
  · simp (disch := omega) only [u2_at, u2_nk, u2_ne]; exact k4
  · simp (disch := omega) only [u2_at, u2_nk, u2_ne]; exact k5
  · simp (disch := omega) only [u2_at, u2_nk, u2_ne]
  · simp (disch := omega) only [u2_ne]; exact h7
theorem RC.up14 (h : RC I J s n S) {v : Int64} {x : Int32} (hv : v = x.toInt64) : RC I (u2 J s 14 v) s n (u2 S 14 0 x) := by
  obtain ⟨h1, h2, h3, h4, h5, ⟨k1, k2, k3, k4, k5, k6⟩, h7⟩ := h
  refine ⟨h1, h2, fun t' ht' => ?_, fun t' ht' u hu => ?_, fun w' hw' => ?_, ⟨?_, ?_, ?_, ?_, ?_, ?_⟩, ?_⟩
  · simp (disch := omega) only [u2_ne]
    exact h3 t' ht'
  · simp (disch := omega) only [u2_ne]
    exact h4 t' ht' u hu
  · simp (disch := omega) only [u2_ne]
    exact h5 w' hw'
  · simp (disch := omega) only [u2_ne]; exact k1
  · simp (disch := omega) only [u2_ne]; exact k2
  · simp (disch := omega) only [u2_ne]; exact k3
  · simp (disch := omega) only [u2_ne]; exact k4
  · simp (disch := omega) only [u2_ne]; exact k5
  · simp (disch := omega) only [u2_ne]; exact k6
  · rw [u2_at, u2_at]; exact hv
/-- other cells may change -/
theorem RC.frame {I' : IM} {J' : JM} (h : RC I J s n S) (hf : ∀ c, s ≤ c → c ≤ s + 7 → I' c = I c) (hj : J' s 14 = J s 14) : RC I' J' s n S := by
  obtain ⟨h1, h2, h3, h4, h5, ⟨k1, k2, k3, k4, k5, k6⟩, h7⟩ := h
  have e0 := hf s (by omega) (by omega)
  have e1 := hf (s + 1) (by omega) (by omega)
  have e2 := hf (s + 2) (by omega) (by omega)
  have e3 := hf (s + 3) (by omega) (by omega)
  have e4 := hf (s + 4) (by omega) (by omega)
  have e5 := hf (s + 5) (by omega) (by omega)
  have e6 := hf (s + 6) (by omega) (by omega)
  have e7 := hf (s + 7) (by omega) (by omega)
  refine ⟨by rw [e0]; exact h1, h2, fun t ht => ?_, fun t ht u hu => ?_, fun w hw => ?_, ⟨by rw [e0]; exact k1, by rw [e0]; exact k2, by rw [e0]; exact k3, by rw [e0]; exact k4, by rw [e0]; exact k5, by rw [e0]; exact k6⟩, hj.trans h7⟩
  · rw [e1, e2, e3, e5, e6]; exact h3 t ht
  · rw [e3, e4]; exact h4 t ht u hu
  · rw [e7]; exact h5 w hw
theorem cF_congr {f g : Nat → Bool} : ∀ k i, (∀ j, i ≤ j → j < i + k → f j = g j) → cF f i k = cF g i k
  | 0, _, _ => rfl
  | k + 1, i, h => by
    rw [cF, cF, h i (by omega) (by omega), cF_congr k (i + 1) (fun j h1 h2 => h j (by omega) (by omega))]
theorem RC.cnt (h : RC I J s n S) {t : Nat} (ht : t < n) : cnt (abv I s t) n = cnt (abS S t) n := by
  refine cF_congr n 0 (fun u _ hu => ?_)
  obtain ⟨h1, h2, h3, h4, -⟩ := h
  have e1 := (h3 u (by omega)).1
  have e4 := h4 t ht u (by omega)
  unfold abv abS
  rw [e1, e4]
  congr 1
  rw [Bool.eq_iff_iff]
  simp only [Bool.and_eq_true, decide_eq_true_eq, bI]
  constructor
  · intro q
    rw [if_pos q]
  · intro q
    by_cases c : I (s + 3) u = I (s + 3) t ∧ I (s + 4) t < I (s + 4) u
    · exact c
    · rw [if_neg c] at q
      exact absurd q (by decide)
end SRC
/-- what an E looks at -/
theorem stW_nm {c : Int32} {nm nm' : Nat → Int32} {pl : List Int64} (h : ∀ j, j < 7 → nm j = nm' j) : stW c nm pl = stW c nm' pl := by
  unfold stW
  split
  · rfl
  · split
    · next q =>
      obtain ⟨j, hj, ej⟩ := nI12 q.1 q.2
      rw [ej, nI_clamp (by omega), h j hj]
    · rfl
theorem evW_congr {code code' nm nm' : Nat → Int32} (hn : ∀ j, j < 7 → nm j = nm' j) : ∀ k i pl, (∀ j, i ≤ j → j < i + k → code j = code' j) → evW code nm k i pl = evW code' nm' k i pl
  | 0, _, _, _ => rfl
  | k + 1, i, pl, h => by
    rw [evW, evW, h i (by omega) (by omega), stW_nm hn]
    cases stW (code' i) nm' pl with
    | none => rfl
    | some pl' => exact evW_congr hn k (i + 1) pl' (fun j h1 h2 => h j (by omega) (by omega))
end
section
/-! ===== Days ===== -/
def isDays (K : Kt) (D p : Nat) : Prop := (K.2.1 D).1 = 0 ∧ K.1 D 0 = some p ∧ K.1 D 1 = some (D + 1) ∧ K.2.1 (D + 1) = (20, 7)
def HD (K : Kt) (D p s : Nat) : Prop := isDays K D p ∧ isPlan K p ∧ isState K s ∧ p + 27 ≤ D ∧ D + 2 ≤ s
/-- what a DAY may change -/
def FD (I : IM) (J : JM) (I' : IM) (J' : JM) (D p s : Nat) : Prop := (∀ c, c ≠ D + 1 → (c < s ∨ s + 7 < c) → I' c = I c) ∧ (∀ c, c ≠ p + 26 → c ≠ s → J' c = J c) ∧ I' (s + 3) = I (s + 3) ∧ I' (s + 4) = I (s + 4)
theorem FD.rf {I : IM} {J : JM} {D p s : Nat} : FD I J I J D p s := ⟨fun _ _ _ => rfl, fun _ _ _ => rfl, rfl, rfl⟩
theorem FD.tr {I I1 I2 : IM} {J J1 J2 : JM} {D p s : Nat} (h1 : FD I J I1 J1 D p s) (h2 : FD I1 J1 I2 J2 D p s) : FD I J I2 J2 D p s := ⟨fun c a b => (h2.1 c a b).trans (h1.1 c a b), fun c a b => (h2.2.1 c a b).trans (h1.2.1 c a b), h2.2.2.1.trans h1.2.2.1, h2.2.2.2.trans h1.2.2.2⟩
theorem FD.rp {I I1 : IM} {J J1 : JM} {D p s : Nat} {P : Pl} (h : FD I J I1 J1 D p s) (hd : p + 27 ≤ D) (hs : D + 2 ≤ s) (hR : RP I p P) : RP I1 p P := hR.frame (fun c h1 h2 => h.1 c (by omega) (by omega))
theorem rAt_m1 {I : IM} {a s j : Nat} : rAt I a s j (-1) = 0 := if_neg (fun q => absurd q.1 (by decide))
section MDays
variable {l : Launch} {G : GG} {d : Nat} {I : IM} {J : JM} {K : Kt} {Q : Option Value → Hp → Prop} {D p s n : Nat} {P : Pl} {S : SM} {h : Hp}
theorem c0_within (v : Int64) (lo hi wo : Int32) : Cp l G (d + 1) m0_within [.long v, .int lo, .int hi, .int wo] h (.int (wn v lo hi wo)) := by
  refine Cp.of ok0_within rfl (rfl : argL _ _ = [.long v, .null, .int lo, .int hi, .int wo]) ?_
  refine e_lload_n rfl rfl ?_
  refine e_ldc2 rfl k0_153 ?_
  refine e_lcmp rfl ?_
  first | refine e_if_neC (tgt := 11) rfl rfl (fun z => ?_) (fun z => ?_) | refine e_if_neB (tgt := 11) rfl rfl (fun z => ?_) (fun z => ?_) | refine e_if_neN (tgt := 11) rfl rfl (by omega) (fun z => ?_) (fun z => ?_) | refine e_if_ne (tgt := 11) rfl rfl (fun z => ?_) (fun z => ?_)
  · refine e_iload_n rfl rfl ?_
    refine e_i2l rfl ?_
    refine e_iload_n rfl rfl ?_
    refine e_i2l rfl ?_
    refine e_lload_n rfl rfl ?_
    refine e_minl rfl v0_174 rfl ?_
    refine e_maxl rfl v0_177 rfl ?_
    refine e_l2i rfl ?_
    refine e_ireturn rfl rfl ?_
    rw [wn, if_neg (c := v = MINL) z]
    exact ⟨rfl, rfl⟩
  · refine e_iload rfl rfl ?_
    refine e_ireturn rfl rfl ?_
    rw [wn, if_pos (c := v = MINL) z]
    exact ⟨rfl, rfl⟩
theorem c1_work0 {a b w : Nat} (h1 : (K.2.1 a).1 = 1) (hw : w < 3) (hz : bitOf (I a 5) (nI w) = false) : Cp l G (d + 2) m1_work [.ref a, .int (nI w), .ref b] (I, J, K) (.long MINL) := by
  refine Cp.of ok1_work rfl (rfl : argL _ _ = [.ref a, .int (nI w), .ref b, .null, .null, .null]) ?_
  refine e_aload_n rfl rfl ?_
  refine e_iload_n rfl rfl ?_
  refine e_callVp (kd := 1) (M2 := m1_has) rfl v1_45 ok1_has (c1_has h1 (nI w)) rfl (by assumption) rfl rfl rfl rfl ?_
  first | refine e_if_neB (tgt := 12) rfl rfl (fun z => ?_) (fun z => ?_) | refine e_if_neN (tgt := 12) rfl rfl (by omega) (fun z => ?_) (fun z => ?_) | refine e_if_ne (tgt := 12) rfl rfl (fun z => ?_) (fun z => ?_)
  · rw [hz, Bool.and_false] at z
    cases z
  · refine e_ldc2 rfl k1_49 ?_
    refine e_lreturn rfl rfl ?_
    exact ⟨rfl, rfl⟩
theorem c1_workP {b w : Nat} {nm : Nat → Int32} (hP : isPlan K p) (hR : RP I p P) (hW : wfP P) (hw : w < 3) (hb : K.2.1 b = (20, 7)) (hnm : ∀ k, k < 7 → I b k = nm k) : Cw l G (d + 2) m1_work [.ref (p + 22), .int (nI w), .ref b] (I, J, K) (fun r h' => r = some (.long (lawP P w nm)) ∧ ∃ J', h' = (I, J', K) ∧ ∀ c, c ≠ p + 26 → J' c = J c) := by
  have r5 := hP.2.2.2.2.2.2.2.2.2.2
  obtain ⟨-, -, -, -, -, -, -, -, -, ⟨l1, l2, l3, l4, l5⟩, lc, lf, -⟩ := hR
  by_cases hz : bitOf (P.2 16 0) (nI w) = true
  · obtain ⟨f, u, ef, eu, hfu, hu⟩ := hW.2.2.2.1 w hw hz
    refine (c1_work r5 hb hw (f := f) (u := u) ((lf w hw).1.trans ef) ((lf w hw).2.trans eu) hfu hu).mono ?_
    rintro r h' ⟨e1, J', e2, e3⟩
    refine ⟨?_, J', e2, e3⟩
    rw [e1, lawP, lawV, lawV, l5, if_pos hz, if_pos hz, show p + 22 + 2 = p + 24 by omega, show p + 22 + 3 = p + 25 by omega, show p + 22 + 1 = p + 23 by omega, (lf w hw).1, (lf w hw).2, ef, eu, nI_clamp (by omega), nI_clamp (by omega)]
    rw [evW_congr hnm (u - f) f [] (fun j h1 h2 => lc j (by omega))]
  · have hz2 : bitOf (I (p + 22) 5) (nI w) = false := by rw [l5]; exact Bool.eq_false_iff.mpr hz
    refine ⟨_, _, c1_work0 (b := b) r5.1 hw hz2, ?_, J, rfl, fun _ _ => rfl⟩
    rw [lawP, lawV, if_neg hz]
set_option maxHeartbeats 1000000 in
theorem c0_namesOf (hH : HD K D p s) (hR : RP I p P) (hW : wfP P) (hC : RC I J s n S) (hn : P.1 1 = n) {t : Nat} (ht : t < n) {w wo : Int32} (hwo : rAt I (p + 17) (P.1 3) 2 w = wo) : Cw l G (d + 2) m0_namesOf [.ref D, .ref s, .int (nI t), .int w] (I, J, K) (fun r h' => r = some (.ref (D + 1)) ∧ ∃ I', h' = (I', J, K) ∧ (∀ c, c ≠ D + 1 → I' c = I c) ∧ ∀ k, k < 7 → I' (D + 1) k = nmS P S t wo k) := by
  obtain ⟨⟨h0, d0, d1, d7⟩, ⟨h3, q0, q1, q2, q3, q4, r1, r2, r3, r4, r5⟩, ⟨h6, p0, p1, p2, p3, p4, p5, p6, a1, a2, a3, a4, a5, a6, a7⟩, hdp, hds⟩ := hH
  have g1 := r1.1
  have g2 := r2.1
  have g4 := r4.1
  obtain ⟨-, ⟨s1, b1⟩, ⟨s2, b2⟩, -, ⟨s4, b4⟩, c1, c2, -, c4, -⟩ := hR
  obtain ⟨hn7, hn8, hc3, -, -, ⟨k8, -⟩, -⟩ := hC
  obtain ⟨j, hj, ej⟩ := hW.1 t (by omega)
  rw [hn] at s2
  have v4 : I (p + 6 + 2 + 1) t = nI j := (c2 1 (by omega) t (by omega)).trans ej
  have v6 : I (p + 6 + 2 + 3) t = P.2 6 t := c2 3 (by omega) t (by omega)
  have w1 : I (p + 1 + 2 + 1) j = P.2 1 j := c1 1 (by omega) j hj
  have w2 : I (p + 1 + 2 + 2) j = P.2 2 j := c1 2 (by omega) j hj
  refine Cw.of ok0_namesOf rfl (rfl : argL _ _ = [.ref D, .ref s, .int (nI t), .int w, .null, .null]) ?_
  refine e_aload_n rfl rfl ?_
  refine e_getP rfl f0_15 (by assumption) rfl (by assumption) ?_
  refine e_getP rfl f0_141 (by assumption) rfl (by assumption) ?_
  refine e_iload_n rfl rfl ?_
  refine e_iconst (v := nI 1) rfl ic_1N ?_
  refine e_callVp (kd := 4) (M2 := m4_at) rfl v0_72 ok4_at (c4_at r2 s2 (by omega) (by omega) _) rfl (by assumption) rfl rfl rfl rfl ?_
  rw [rAt_nI ht (by omega), v4]
  refine e_ist4 rfl rfl rfl ?_
  refine e_aload_n rfl rfl ?_
  refine e_iload_n rfl rfl ?_
  refine e_callVp (kd := 6) (M2 := m6_has) rfl v0_93 ok6_has (c6_has h6 hn7 (nI t)) rfl (by assumption) rfl rfl rfl rfl ?_
  rw [inN_nI (by omega) (by omega), decide_eq_true ht]
  refine e_ist5 rfl rfl rfl ?_
  refine e_aload_n rfl rfl ?_
  refine e_getP rfl f0_11 (by assumption) rfl (by assumption) ?_
  refine e_iconst (v := nI 0) rfl ic_0N ?_
  refine e_iload rfl rfl ?_
  first | refine e_if_eqB (tgt := 40) rfl rfl (fun z => ?_) (fun z => ?_) | refine e_if_eqN (tgt := 40) rfl rfl (by omega) (fun z => ?_) (fun z => ?_) | refine e_if_eq (tgt := 40) rfl rfl (fun z => ?_) (fun z => ?_)
  · cases z
  · refine e_aload_n rfl rfl ?_
    refine e_getP rfl f0_159 (by assumption) rfl (by assumption) ?_
    refine e_iload_n rfl rfl ?_
    first | refine e_ialoadN rfl (by assumption) (by omega) (by omega) ?_ | (refine e_iaload rfl (by assumption) ?_ ?_; rotate_left)
    refine e_goto (tgt := 41) rfl rfl ?_
    first | refine e_iastoreN rfl (by assumption) (by omega) (by omega) ?_ | (refine e_iastore rfl (by assumption) ?_ ?_; rotate_left)
    refine e_aload_n rfl rfl ?_
    refine e_getP rfl f0_11 (by assumption) rfl (by assumption) ?_
    refine e_iconst (v := nI 1) rfl ic_1N ?_
    refine e_aload_n rfl rfl ?_
    refine e_getP rfl f0_15 (by assumption) rfl (by assumption) ?_
    refine e_getP rfl f0_141 (by assumption) rfl (by assumption) ?_
    refine e_iload_n rfl rfl ?_
    refine e_iconst (v := nI 3) rfl ic_3N ?_
    refine e_callVp (kd := 4) (M2 := m4_at) rfl v0_72 ok4_at (c4_at r2 (s := n) (by simp (disch := omega) only [u2_ne]; exact s2) (by omega) (by omega) _) rfl (by assumption) rfl rfl rfl rfl ?_
    rw [rAt_nI ht (by omega)]
    simp (disch := omega) only [u2_ne]
    rw [v6]
    first | refine e_iastoreN rfl (by assumption) (by omega) (by omega) ?_ | (refine e_iastore rfl (by assumption) ?_ ?_; rotate_left)
    refine e_aload_n rfl rfl ?_
    refine e_getP rfl f0_11 (by assumption) rfl (by assumption) ?_
    refine e_iconst (v := nI 2) rfl ic_2N ?_
    refine e_aload_n rfl rfl ?_
    refine e_getP rfl f0_15 (by assumption) rfl (by assumption) ?_
    refine e_getP rfl f0_171 (by assumption) rfl (by assumption) ?_
    refine e_iload rfl rfl ?_
    refine e_iconst (v := nI 1) rfl ic_1N ?_
    refine e_callVp (kd := 4) (M2 := m4_at) rfl v0_72 ok4_at (c4_at r1 (s := P.1 0) (by simp (disch := omega) only [u2_ne]; exact s1) (by omega) (by omega) _) rfl (by assumption) rfl rfl rfl rfl ?_
    rw [rAt_nI hj (by omega)]
    simp (disch := omega) only [u2_ne]
    rw [w1]
    first | refine e_iastoreN rfl (by assumption) (by omega) (by omega) ?_ | (refine e_iastore rfl (by assumption) ?_ ?_; rotate_left)
    refine e_aload_n rfl rfl ?_
    refine e_getP rfl f0_11 (by assumption) rfl (by assumption) ?_
    refine e_iconst (v := nI 3) rfl ic_3N ?_
    refine e_aload_n rfl rfl ?_
    refine e_getP rfl f0_15 (by assumption) rfl (by assumption) ?_
    refine e_getP rfl f0_171 (by assumption) rfl (by assumption) ?_
    refine e_iload rfl rfl ?_
    refine e_iconst (v := nI 2) rfl ic_2N ?_
    refine e_callVp (kd := 4) (M2 := m4_at) rfl v0_72 ok4_at (c4_at r1 (s := P.1 0) (by simp (disch := omega) only [u2_ne]; exact s1) (by omega) (by omega) _) rfl (by assumption) rfl rfl rfl rfl ?_
    rw [rAt_nI hj (by omega)]
    simp (disch := omega) only [u2_ne]
    rw [w2]
    first | refine e_iastoreN rfl (by assumption) (by omega) (by omega) ?_ | (refine e_iastore rfl (by assumption) ?_ ?_; rotate_left)
    refine e_aload_n rfl rfl ?_
    refine e_getP rfl f0_11 (by assumption) rfl (by assumption) ?_
    refine e_iconst (v := nI 4) rfl ic_4N ?_
    refine e_aload_n rfl rfl ?_
    refine e_getP rfl f0_15 (by assumption) rfl (by assumption) ?_
    refine e_getP rfl f0_120 (by assumption) rfl (by assumption) ?_
    refine e_iload_n rfl rfl ?_
    refine e_iconst (v := nI 2) rfl ic_2N ?_
    refine e_callVp (kd := 4) (M2 := m4_at) rfl v0_72 ok4_at (c4_at r4 (s := P.1 3) (by simp (disch := omega) only [u2_ne]; exact s4) (by omega) (by omega) _) rfl (by assumption) rfl rfl rfl rfl ?_
    have hwo2 : ∀ I2 : IM, I2 (p + 17 + 2 + 2) = I (p + 17 + 2 + 2) → rAt I2 (p + 17) (P.1 3) 2 w = wo := by
      intro I2 e
      rw [← hwo, rAt, rAt, e]
    rw [hwo2 _ (by funext x; simp (disch := omega) only [u2_ne])]
    first | refine e_iastoreN rfl (by assumption) (by omega) (by omega) ?_ | (refine e_iastore rfl (by assumption) ?_ ?_; rotate_left)
    refine e_aload_n rfl rfl ?_
    refine e_getP rfl f0_11 (by assumption) rfl (by assumption) ?_
    refine e_iconst (v := nI 5) rfl ic_5N ?_
    refine e_iload rfl rfl ?_
    first | refine e_if_eqB (tgt := 135) rfl rfl (fun z => ?_) (fun z => ?_) | refine e_if_eqN (tgt := 135) rfl rfl (by omega) (fun z => ?_) (fun z => ?_) | refine e_if_eq (tgt := 135) rfl rfl (fun z => ?_) (fun z => ?_)
    · cases z
    · refine e_aload_n rfl rfl ?_
      refine e_getP rfl f0_99 (by assumption) rfl (by assumption) ?_
      refine e_iload_n rfl rfl ?_
      first | refine e_ialoadN rfl (by assumption) (by omega) (by omega) ?_ | (refine e_iaload rfl (by assumption) ?_ ?_; rotate_left)
      refine e_goto (tgt := 136) rfl rfl ?_
      first | refine e_iastoreN rfl (by assumption) (by omega) (by omega) ?_ | (refine e_iastore rfl (by assumption) ?_ ?_; rotate_left)
      refine e_aload_n rfl rfl ?_
      refine e_getP rfl f0_11 (by assumption) rfl (by assumption) ?_
      refine e_bipush (v := nI 6) rfl bp_6N ?_
      refine e_aload_n rfl rfl ?_
      refine e_getI rfl f0_30 (by assumption) rfl ?_
      first | refine e_iastoreN rfl (by assumption) (by omega) (by omega) ?_ | (refine e_iastore rfl (by assumption) ?_ ?_; rotate_left)
      refine e_aload_n rfl rfl ?_
      refine e_getP rfl f0_11 (by assumption) rfl (by assumption) ?_
      refine e_areturn rfl rfl (Or.inr ⟨_, rfl⟩) ?_
      refine ⟨rfl, _, rfl, ?_, ?_⟩
      · intro c hc
        funext x
        simp (disch := omega) only [u2_ne]
      · obtain ⟨m0, m1, m2, m4, m5⟩ := hc3 t ht
        intro k hk
        rcases (show k = 0 ∨ k = 1 ∨ k = 2 ∨ k = 3 ∨ k = 4 ∨ k = 5 ∨ k = 6 by omega) with rfl | rfl | rfl | rfl | rfl | rfl | rfl
        · simp (disch := omega) only [u2_at, u2_nk, u2_ne]; rw [m1]; rfl
        · simp (disch := omega) only [u2_at, u2_nk, u2_ne]; rfl
        · simp (disch := omega) only [u2_at, u2_nk, u2_ne]; rw [nmS, ej, nI_clamp (by omega)]; rfl
        · simp (disch := omega) only [u2_at, u2_nk, u2_ne]; rw [nmS, ej, nI_clamp (by omega)]; rfl
        · simp (disch := omega) only [u2_at, u2_nk, u2_ne]; rfl
        · simp (disch := omega) only [u2_at, u2_nk, u2_ne]; rw [m4]; rfl
        · simp (disch := omega) only [u2_at, u2_nk, u2_ne]; rw [k8]; rfl
theorem c0_unseal (hH : HD K D p s) (hR : RP I p P) (hW : wfP P) (hC : RC I J s n S) (hn : P.1 1 = n) {t : Nat} (ht : t < n) : Cw l G (d + 3) m0_unseal [.ref D, .ref s, .int (nI t)] (I, J, K) (fun r h' => r = none ∧ ∃ I' J', h' = (I', J', K) ∧ FD I J I' J' D p s ∧ RC I' J' s n (unsS P S t)) := by
  have hH2 := hH
  obtain ⟨⟨h0, d0, d1, d7⟩, hP, ⟨h6, p0, p1, p2, p3, p4, p5, p6, a1, a2, a3, a4, a5, a6, a7⟩, hdp, hds⟩ := hH2
  have hP2 := hP
  obtain ⟨h3, q0, q1, q2, q3, q4, r1, r2, r3, r4, r5⟩ := hP2
  have g5 := r5.1
  have hn7 := hC.1
  have hn8 := hC.2.1
  have k9 : I s 9 = S 9 0 := hC.2.2.2.2.2.1.2.1
  refine Cw.of ok0_unseal rfl (rfl : argL _ _ = [.ref D, .ref s, .int (nI t)]) ?_
  refine e_aload_n rfl rfl ?_
  refine e_iload_n rfl rfl ?_
  refine e_callVp (kd := 6) (M2 := m6_has) rfl v0_93 ok6_has (c6_has h6 hn7 (nI t)) rfl (by assumption) rfl rfl rfl rfl ?_
  first | refine e_if_eqB (tgt := 56) rfl rfl (fun z => ?_) (fun z => ?_) | refine e_if_eqN (tgt := 56) rfl rfl (by omega) (fun z => ?_) (fun z => ?_) | refine e_if_eq (tgt := 56) rfl rfl (fun z => ?_) (fun z => ?_)
  · rw [inN_nI (by omega) (by omega), decide_eq_true ht] at z
    cases z
  · refine e_aload_n rfl rfl ?_
    refine e_getP rfl f0_96 (by assumption) rfl (by assumption) ?_
    refine e_iload_n rfl rfl ?_
    refine e_iconst (v := nI 1) rfl ic_1N ?_
    first | refine e_iastoreN rfl (by assumption) (by omega) (by omega) ?_ | (refine e_iastore rfl (by assumption) ?_ ?_; rotate_left)
    refine e_aload_n rfl rfl ?_
    refine e_dup rfl rfl ?_
    refine e_getI rfl f0_76 (by assumption) rfl ?_
    simp (disch := omega) only [u2_ne]
    rw [k9]
    have hC1 : RC (u2 (u2 I (s + 1) t (nI 1)) s 9 (S 9 0 - nI 1)) J s n (u2 (u2 S 0 t (nI 1)) 9 0 (S 9 0 - nI 1)) := (hC.up0 ht _).up9 _
    have hR1 : RP (u2 (u2 I (s + 1) t (nI 1)) s 9 (S 9 0 - nI 1)) p P := hR.frame (fun c h1 h2 => by funext x; simp (disch := omega) only [u2_ne])
    generalize hI1 : u2 (u2 I (s + 1) t (nI 1)) s 9 (S 9 0 - nI 1) = I1 at hC1 hR1
    have step : ∀ v, v = S 9 0 - nI 1 → Gw l G (d + 3) m0_unseal 22 [.ref D, .ref s, .int (nI t)] [.int v, .ref s] (u2 I (s + 1) t (nI 1), J, K) (fun r h' => r = none ∧ ∃ I' J', h' = (I', J', K) ∧ FD I J I' J' D p s ∧ RC I' J' s n (unsS P S t)) := by
      intro v hv
      subst hv
      refine e_putI rfl f0_76 (by assumption) rfl rfl ?_
      rw [hI1]
      refine e_aload_n rfl rfl ?_
      refine e_getP rfl f0_99 (by assumption) rfl (by assumption) ?_
      refine e_iload_n rfl rfl ?_
      refine e_aload_n rfl rfl ?_
      refine e_getP rfl f0_15 (by assumption) rfl (by assumption) ?_
      refine e_getP rfl f0_102 (by assumption) rfl (by assumption) ?_
      refine e_iconst (v := nI 0) rfl ic_0N ?_
      refine e_aload_n rfl rfl ?_
      refine e_aload_n rfl rfl ?_
      refine e_iload_n rfl rfl ?_
      refine e_iconst rfl ic_m1 ?_
      refine e_callV (kd := 0) (M2 := m0_namesOf) rfl v0_106 ok0_namesOf (c0_namesOf hH hR1 hW hC1 hn ht (wo := 0) rAt_m1) rfl (by assumption) rfl rfl rfl rfl (fun r1 h1 q1 => ?_)
      obtain ⟨rfl, I2, rfl, f2, n2⟩ := q1
      have hR2 : RP I2 p P := hR1.frame (fun c h1 h2 => f2 c (by omega))
      refine e_callV (kd := 1) (M2 := m1_work) rfl v0_110 ok1_work (c1_workP hP hR2 hW (by omega) d7 n2) rfl (by assumption) rfl rfl rfl rfl (fun r1 h1 q1 => ?_)
      obtain ⟨rfl, J2, rfl, fj⟩ := q1
      refine e_iconst (v := nI 1) rfl ic_1N ?_
      refine e_bipush (v := nI 9) rfl bp_9N ?_
      refine e_iconst (v := nI 3) rfl ic_3N ?_
      refine e_callSp (M2 := m0_within) rfl v0_116 ok0_within (c0_within _ _ _ _) rfl rfl rfl ?_
      first | refine e_iastoreN rfl (by assumption) (by omega) (by omega) ?_ | (refine e_iastore rfl (by assumption) ?_ ?_; rotate_left)
      refine e_return rfl rfl ?_
      have e : nmS P (u2 (u2 S 0 t (nI 1)) 9 0 (S 9 0 - nI 1)) t 0 = nmS P S t 0 := by
        funext k
        unfold nmS
        simp (disch := omega) only [u2_ne]
      rw [e]
      have hC2 : RC I2 J2 s n (u2 (u2 S 0 t (nI 1)) 9 0 (S 9 0 - nI 1)) := hC1.frame (fun c h1 h2 => f2 c (by omega)) (by rw [fj s (by omega)])
      refine ⟨rfl, _, _, rfl, ⟨?_, ?_, ?_, ?_⟩, hC2.up4 ht _⟩
      · intro c h1 h2
        rw [u2_row _ _ (by omega), f2 c h1, ← hI1]
        funext x
        simp (disch := omega) only [u2_ne]
      · intro c h1 h2
        exact fj c h1
      · rw [u2_row _ _ (by omega), f2 _ (by omega), ← hI1]
        funext x
        simp (disch := omega) only [u2_ne]
      · rw [u2_row _ _ (by omega), f2 _ (by omega), ← hI1]
        funext x
        simp (disch := omega) only [u2_ne]
    refine e_iconst (v := nI 1) rfl ic_1N ?_
    refine e_isub rfl ?_
    exact step _ rfl
theorem c0_unsealAnyway (hH : HD K D p s) (hR : RP I p P) (hW : wfP P) (hC : RC I J s n S) (hn : P.1 1 = n) {t : Nat} (ht : t < n) : Cw l G (d + 4) m0_unsealAnyway [.ref D, .ref s, .int (nI t)] (I, J, K) (fun r h' => r = none ∧ ∃ I' J', h' = (I', J', K) ∧ FD I J I' J' D p s ∧ RC I' J' s n (if S 0 t = 0 ∧ 0 < S 9 0 then unsS P S t else S)) := by
  have h0 := hH.1.1
  have h6 := hH.2.2.1.1
  have hn7 := hC.1
  have hn8 := hC.2.1
  have k9 : I s 9 = S 9 0 := hC.2.2.2.2.2.1.2.1
  have e0 : I (s + 1) t = S 0 t := (hC.2.2.1 t ht).1
  refine Cw.of ok0_unsealAnyway rfl (rfl : argL _ _ = [.ref D, .ref s, .int (nI t)]) ?_
  refine e_aload_n rfl rfl ?_
  refine e_iload_n rfl rfl ?_
  refine e_callVp (kd := 6) (M2 := m6_isClosed) rfl v0_79 ok6_isClosed (c6_isClosed hH.2.2.1 hn7 hn8 (nI t)) rfl (by assumption) rfl rfl rfl rfl ?_
  first | refine e_if_eqB (tgt := 21) rfl rfl (fun z => ?_) (fun z => ?_) | refine e_if_eqN (tgt := 21) rfl rfl (by omega) (fun z => ?_) (fun z => ?_) | refine e_if_eq (tgt := 21) rfl rfl (fun z => ?_) (fun z => ?_)
  · rw [inN_nI (by omega) (by omega), decide_eq_true ht, Bool.true_and, nI_clamp (by omega), e0] at z
    refine e_return rfl rfl ?_
    rw [if_neg (fun q => absurd q.1 (of_decide_eq_false z))]
    exact ⟨rfl, I, J, rfl, FD.rf, hC⟩
  · rw [inN_nI (by omega) (by omega), decide_eq_true ht, Bool.true_and, nI_clamp (by omega), e0] at z
    have z0 := of_decide_eq_true z
    refine e_aload_n rfl rfl ?_
    refine e_getI rfl f0_76 (by assumption) rfl ?_
    rw [k9]
    first | refine e_if_leN (tgt := 21) rfl rfl (by omega) (fun z => ?_) (fun z => ?_) | refine e_if_le (tgt := 21) rfl rfl (fun z => ?_) (fun z => ?_)
    · have zz : S 9 0 ≤ 0 := by assumption
      refine e_return rfl rfl ?_
      rw [if_neg (fun q => absurd q.2 (Int32.not_lt.mpr zz))]
      exact ⟨rfl, I, J, rfl, FD.rf, hC⟩
    · have zz : ¬ S 9 0 ≤ 0 := by assumption
      rw [if_pos ⟨z0, Int32.not_le.mp zz⟩]
      refine e_aload_n rfl rfl ?_
      refine e_aload_n rfl rfl ?_
      refine e_iload_n rfl rfl ?_
      refine e_callV (kd := 0) (M2 := m0_unseal) rfl v0_86 ok0_unseal (c0_unseal hH hR hW hC hn ht) rfl (by assumption) rfl rfl rfl rfl (fun r1 h1 q1 => ?_)
      obtain ⟨rfl, I1, J1, rfl, f1, C1⟩ := q1
      refine e_return rfl rfl ?_
      exact ⟨rfl, I1, J1, rfl, f1, C1⟩
theorem ot1_none {way sp : Int32} {i : Nat} (h : ¬ (P.2 9 i = S 8 0 ∧ ¬ (way = nI 2 ∧ P.2 8 i = sp))) : ot1 P way sp n S i = S := if_neg h
set_option maxHeartbeats 1000000 in
theorem openTold_loop (hH : HD K D p s) (hW : wfP P) (hn : P.1 1 = n) (way sp : Int32) : ∀ k i I J S v4 v5, i + k = P.1 2 → RP I p P → RC I J s n S → I D 3 = way → I D 4 = sp → (∀ I' J', FD I J I' J' D p s → RC I' J' s n (otS P way sp n i k S) → Q none (I', J', K)) → Gw l G (d + 4) m0_openTold 14 [.ref D, .ref s, .ref (p + 16), .int (nI i), v4, v5] [] (I, J, K) Q := by
  have hH2 := hH
  obtain ⟨⟨h0, d0, d1, d7⟩, hP, hS, hdp, hds⟩ := hH2
  have hP2 := hP
  obtain ⟨h3, q0, q1, q2, q3, q4, r1, r2, r3, r4, r5⟩ := hP2
  have h6 := hS.1
  have g3 := r3.1
  have a16 : K.2.1 (p + 16) = (20, 10) := r3.2.2.2.2.1 1 (by omega)
  intro k
  induction k with
  | zero =>
    intro i I J S v4 v5 hi hR hC hw hs hq
    have z3 : I (p + 13) 2 = nI (P.1 2) := hR.2.2.2.1.1
    have b3 : P.1 2 ≤ 10 := hR.2.2.2.1.2
    refine e_iload_n rfl rfl ?_
    refine e_aload_n rfl rfl ?_
    refine e_getP rfl f0_15 (by assumption) rfl (by assumption) ?_
    refine e_getP rfl f0_59 (by assumption) rfl (by assumption) ?_
    refine e_getI rfl f0_69 (by assumption) rfl ?_
    rw [z3]
    first | refine e_icmp_geN (tgt := 143) rfl rfl (by omega) (by omega) (fun z => ?_) (fun z => ?_) | refine e_icmp_ge (tgt := 143) rfl rfl (fun z => ?_) (fun z => ?_)
    · refine e_return rfl rfl ?_
      exact hq I J FD.rf hC
    · omega
  | succ k ih =>
    intro i I J S v4 v5 hi hR hC hw hs hq
    have z3 : I (p + 13) 2 = nI (P.1 2) := hR.2.2.2.1.1
    have b3 : P.1 2 ≤ 10 := hR.2.2.2.1.2
    have hn7 := hC.1
    have hn8 := hC.2.1
    have k8 : I s 8 = S 8 0 := hC.2.2.2.2.2.1.1
    have k9 : I s 9 = S 9 0 := hC.2.2.2.2.2.1.2.1
    have k13 : I s 13 = S 13 0 := hC.2.2.2.2.2.1.2.2.2.2.2
    obtain ⟨t, ht, et⟩ := hW.2.1 i (by omega)
    rw [hn] at ht
    have e0 : I (s + 1) t = S 0 t := (hC.2.2.1 t ht).1
    have o8 : I (p + 13 + 2 + 0) i = nI t := (hR.2.2.2.2.2.2.2.1 0 (by omega) i (by omega)).trans et
    have o9 : I (p + 16) i = P.2 9 i := hR.2.2.2.2.2.2.2.1 1 (by omega) i (by omega)
    have skip : ∀ v5, ot1 P way sp n S i = S → Gw l G (d + 4) m0_openTold 137 [.ref D, .ref s, .ref (p + 16), .int (nI i), .int (nI t), v5] [] (I, J, K) Q := by
      intro v5 e
      rw [otS, e] at hq
      first | refine e_inc3 rfl rfl rfl (incN1 _) ?_ | refine e_inc3 rfl rfl rfl rfl ?_
      refine e_goto (tgt := 14) rfl rfl ?_
      exact ih (i + 1) I J S _ _ (by omega) hR hC hw hs hq
    have goon : ∀ I1 J1 v5, FD I J I1 J1 D p s → RC I1 J1 s n (ot1 P way sp n S i) → Gw l G (d + 4) m0_openTold 137 [.ref D, .ref s, .ref (p + 16), .int (nI i), .int (nI t), v5] [] (I1, J1, K) Q := by
      intro I1 J1 v5 hf hC1
      rw [otS] at hq
      first | refine e_inc3 rfl rfl rfl (incN1 _) ?_ | refine e_inc3 rfl rfl rfl rfl ?_
      refine e_goto (tgt := 14) rfl rfl ?_
      exact ih (i + 1) I1 J1 _ _ _ (by omega) (hf.rp hdp hds hR) hC1 (by rw [hf.1 D (by omega) (by omega)]; exact hw) (by rw [hf.1 D (by omega) (by omega)]; exact hs) (fun I' J' f2 c2 => hq I' J' (hf.tr f2) c2)
    have main : ∀ spd : Bool, (spd = true ↔ (way = nI 2 ∧ P.2 8 i = sp)) → Gw l G (d + 4) m0_openTold 64 [.ref D, .ref s, .ref (p + 16), .int (nI i), .int (nI t), v5] [.int (bI spd)] (I, J, K) Q := by
      intro spd hspd
      refine e_ist5 rfl rfl rfl ?_
      refine e_aload_n rfl rfl ?_
      refine e_iload_n rfl rfl ?_
      first | refine e_ialoadN rfl (by assumption) (by omega) (by omega) ?_ | (refine e_iaload rfl (by assumption) ?_ ?_; rotate_left)
      refine e_aload_n rfl rfl ?_
      refine e_getI rfl f0_30 (by assumption) rfl ?_
      rw [o9, k8]
      first | refine e_icmp_neN (tgt := 137) rfl rfl (by omega) (by omega) (fun z => ?_) (fun z => ?_) | refine e_icmp_ne (tgt := 137) rfl rfl (fun z => ?_) (fun z => ?_)
      · exact skip _ (ot1_none (fun q => absurd q.1 (by assumption)))
      · have hday : P.2 9 i = S 8 0 := by assumption
        refine e_iload rfl rfl ?_
        first | refine e_if_neB (tgt := 137) rfl rfl (fun z => ?_) (fun z => ?_) | refine e_if_neN (tgt := 137) rfl rfl (by omega) (fun z => ?_) (fun z => ?_) | refine e_if_ne (tgt := 137) rfl rfl (fun z => ?_) (fun z => ?_)
        · exact skip _ (ot1_none (fun q => q.2 (hspd.mp (by assumption))))
        · have hsp : spd = false := by assumption
          have hc1 : P.2 9 i = S 8 0 ∧ ¬ (way = nI 2 ∧ P.2 8 i = sp) := ⟨hday, fun q => absurd (hspd.mpr q) (by rw [hsp]; decide)⟩
          have refuse : ¬ (0 < S 9 0 ∧ (if way = nI 3 then decide (S 0 t = 0) else topS S n t) = true) → Gw l G (d + 4) m0_openTold 127 [.ref D, .ref s, .ref (p + 16), .int (nI i), .int (nI t), .int (bI spd)] [] (I, J, K) Q := by
            intro hno
            refine e_aload_n rfl rfl ?_
            refine e_dup rfl rfl ?_
            refine e_getI rfl f0_90 (by assumption) rfl ?_
            rw [k13]
            refine e_iconst (v := nI 1) rfl ic_1N ?_
            refine e_iadd rfl ?_
            refine e_putI rfl f0_90 (by assumption) rfl rfl ?_
            refine goon _ _ _ ⟨fun c h1 h2 => u2_row _ _ (by omega), fun _ _ _ => rfl, u2_row _ _ (by omega), u2_row _ _ (by omega)⟩ ?_
            rw [ot1, if_pos hc1, et, nI_clamp (by omega), if_neg hno]
            exact hC.up13 _
          have doIt : (0 < S 9 0 ∧ (if way = nI 3 then decide (S 0 t = 0) else topS S n t) = true) → Gw l G (d + 4) m0_openTold 117 [.ref D, .ref s, .ref (p + 16), .int (nI i), .int (nI t), .int (bI spd)] [] (I, J, K) Q := by
            intro hyes
            refine e_aload_n rfl rfl ?_
            refine e_aload_n rfl rfl ?_
            refine e_iload rfl rfl ?_
            refine e_callV (kd := 0) (M2 := m0_unseal) rfl v0_86 ok0_unseal (c0_unseal hH hR hW hC hn ht) rfl (by assumption) rfl rfl rfl rfl (fun r1 h1 q1 => ?_)
            obtain ⟨rfl, I1, J1, rfl, f1, C1⟩ := q1
            refine e_goto (tgt := 137) rfl rfl ?_
            refine goon _ _ _ f1 ?_
            rw [ot1, if_pos hc1, et, nI_clamp (by omega), if_pos hyes]
            exact C1
          refine e_aload_n rfl rfl ?_
          refine e_getI rfl f0_76 (by assumption) rfl ?_
          rw [k9]
          first | refine e_if_leN (tgt := 127) rfl rfl (by omega) (fun z => ?_) (fun z => ?_) | refine e_if_le (tgt := 127) rfl rfl (fun z => ?_) (fun z => ?_)
          · exact refuse (fun q => absurd q.1 (Int32.not_lt.mpr (by assumption)))
          · have hk : 0 < S 9 0 := Int32.not_le.mp (by assumption)
            refine e_aload_n rfl rfl ?_
            refine e_getI rfl f0_23 (by assumption) rfl ?_
            rw [hw]
            refine e_iconst (v := nI 3) rfl ic_3N ?_
            first | refine e_icmp_neN (tgt := 108) rfl rfl (by omega) (by omega) (fun z => ?_) (fun z => ?_) | refine e_icmp_ne (tgt := 108) rfl rfl (fun z => ?_) (fun z => ?_)
            · have hw3 : ¬ way = nI 3 := by assumption
              have ets : decide (cnt (abv I s t) n = 0) = decide (cnt (abS S t) n = 0) := by rw [hC.cnt ht]
              refine e_aload_n rfl rfl ?_
              refine e_iload rfl rfl ?_
              refine e_callVp (kd := 6) (M2 := m6_isOnTop) rfl v0_83 ok6_isOnTop (c6_isOnTop hS hn7 hn8 (nI t)) rfl (by assumption) rfl rfl rfl rfl ?_
              first | refine e_if_eqB (tgt := 127) rfl rfl (fun z => ?_) (fun z => ?_) | refine e_if_eqN (tgt := 127) rfl rfl (by omega) (fun z => ?_) (fun z => ?_) | refine e_if_eq (tgt := 127) rfl rfl (fun z => ?_) (fun z => ?_)
              · rw [inN_nI (by omega) (by omega), decide_eq_true ht, Bool.true_and, nI_clamp (by omega), e0, ets] at z
                exact refuse (fun q => absurd q.2 (by rw [if_neg hw3, topS, z]; decide))
              · rw [inN_nI (by omega) (by omega), decide_eq_true ht, Bool.true_and, nI_clamp (by omega), e0, ets] at z
                exact doIt ⟨hk, by rw [if_neg hw3, topS, z]⟩
            · have hw3 : way = nI 3 := by assumption
              refine e_aload_n rfl rfl ?_
              refine e_iload rfl rfl ?_
              refine e_callVp (kd := 6) (M2 := m6_isClosed) rfl v0_79 ok6_isClosed (c6_isClosed hS hn7 hn8 (nI t)) rfl (by assumption) rfl rfl rfl rfl ?_
              first | refine e_if_eqB (tgt := 127) rfl rfl (fun z => ?_) (fun z => ?_) | refine e_if_eqN (tgt := 127) rfl rfl (by omega) (fun z => ?_) (fun z => ?_) | refine e_if_eq (tgt := 127) rfl rfl (fun z => ?_) (fun z => ?_)
              · rw [inN_nI (by omega) (by omega), decide_eq_true ht, Bool.true_and, nI_clamp (by omega), e0] at z
                exact refuse (fun q => absurd q.2 (by rw [if_pos hw3, z]; decide))
              · rw [inN_nI (by omega) (by omega), decide_eq_true ht, Bool.true_and, nI_clamp (by omega), e0] at z
                refine e_goto (tgt := 117) rfl rfl ?_
                exact doIt ⟨hk, by rw [if_pos hw3, z]⟩
    refine e_iload_n rfl rfl ?_
    refine e_aload_n rfl rfl ?_
    refine e_getP rfl f0_15 (by assumption) rfl (by assumption) ?_
    refine e_getP rfl f0_59 (by assumption) rfl (by assumption) ?_
    refine e_getI rfl f0_69 (by assumption) rfl ?_
    rw [z3]
    first | refine e_icmp_geN (tgt := 143) rfl rfl (by omega) (by omega) (fun z => ?_) (fun z => ?_) | refine e_icmp_ge (tgt := 143) rfl rfl (fun z => ?_) (fun z => ?_)
    · omega
    · refine e_aload_n rfl rfl ?_
      refine e_getP rfl f0_15 (by assumption) rfl (by assumption) ?_
      refine e_getP rfl f0_59 (by assumption) rfl (by assumption) ?_
      refine e_iload_n rfl rfl ?_
      refine e_iconst (v := nI 0) rfl ic_0N ?_
      refine e_callVp (kd := 4) (M2 := m4_at) rfl v0_72 ok4_at (c4_at r3 z3 b3 (by omega) _) rfl (by assumption) rfl rfl rfl rfl ?_
      rw [rAt_nI (by omega) (by omega), o8]
      refine e_ist4 rfl rfl rfl ?_
      refine e_aload_n rfl rfl ?_
      refine e_getI rfl f0_23 (by assumption) rfl ?_
      rw [hw]
      refine e_iconst (v := nI 2) rfl ic_2N ?_
      first | refine e_icmp_neN (tgt := 63) rfl rfl (by omega) (by omega) (fun z => ?_) (fun z => ?_) | refine e_icmp_ne (tgt := 63) rfl rfl (fun z => ?_) (fun z => ?_)
      · refine e_iconst (v := nI 0) rfl ic_0N ?_
        exact main false ⟨fun q => (by cases q), fun q => absurd q.1 (by assumption)⟩
      · have hw2 : way = nI 2 := by assumption
        refine e_iload rfl rfl ?_
        refine e_aload_n rfl rfl ?_
        refine e_getI rfl f0_27 (by assumption) rfl ?_
        rw [hs]
        first | refine e_icmp_neN (tgt := 63) rfl rfl (by omega) (by omega) (fun z => ?_) (fun z => ?_) | refine e_icmp_ne (tgt := 63) rfl rfl (fun z => ?_) (fun z => ?_)
        · refine e_iconst (v := nI 0) rfl ic_0N ?_
          exact main false ⟨fun q => (by cases q), fun q => absurd (et.symm.trans q.2) (by assumption)⟩
        · refine e_iconst (v := nI 1) rfl ic_1N ?_
          refine e_goto (tgt := 64) rfl rfl ?_
          exact main true ⟨fun _ => ⟨hw2, et.trans (by assumption)⟩, fun _ => rfl⟩
theorem c0_openTold (hH : HD K D p s) (hR : RP I p P) (hW : wfP P) (hC : RC I J s n S) (hn : P.1 1 = n) {way sp : Int32} (hw : I D 3 = way) (hs : I D 4 = sp) : Cw l G (d + 4) m0_openTold [.ref D, .ref s] (I, J, K) (fun r h' => r = none ∧ ∃ I' J', h' = (I', J', K) ∧ FD I J I' J' D p s ∧ RC I' J' s n (otS P way sp n 0 (P.1 2) S)) := by
  have h0 := hH.1.1
  have d0 := hH.1.2.1
  have hP2 := hH.2.1
  obtain ⟨h3, q0, q1, q2, q3, q4, r1, r2, r3, r4, r5⟩ := hP2
  have g3 := r3.1
  refine Cw.of ok0_openTold rfl (rfl : argL _ _ = [.ref D, .ref s, .null, .null, .null, .null]) ?_
  refine e_aload_n rfl rfl ?_
  refine e_getP rfl f0_15 (by assumption) rfl (by assumption) ?_
  refine e_getP rfl f0_59 (by assumption) rfl (by assumption) ?_
  refine e_iconst (v := nI 1) rfl ic_1N ?_
  refine e_callVp (kd := 4) (M2 := m4_column) rfl v0_63 ok4_column (c4_column r3 (by omega)) rfl (by assumption) rfl rfl rfl rfl ?_
  refine e_ast2 rfl rfl rfl ?_
  refine e_iconst (v := nI 0) rfl ic_0N ?_
  refine e_ist3 rfl rfl rfl ?_
  exact openTold_loop hH hW hn way sp (P.1 2) 0 I J S _ _ (by omega) hR hC hw hs (fun I' J' f c => ⟨rfl, I', J', rfl, f, c⟩)
theorem server_loop (hS : isState K s) (a9 : K.2.1 (p + 9) = (20, 8)) (hR : RP I p P) (hC : RC I J s n S) (hn : P.1 1 = n) (kd busy : Int32) : ∀ k i, i + k = n → Q (some (.int (srv P S kd busy i k))) (I, J, K) → Gw l G (d + 1) m0_server 16 [.ref D, .ref s, .int kd, .int busy, .ref (p + 9), .int (nI i)] [] (I, J, K) Q := by
  obtain ⟨h6, p0, p1, p2, p3, p4, p5, p6, a1, a2, a3, a4, a5, a6, a7⟩ := hS
  have hn7 := hC.1
  have hn8 := hC.2.1
  intro k
  induction k with
  | zero =>
    intro i hi hq
    refine e_iload rfl rfl ?_
    refine e_aload_n rfl rfl ?_
    refine e_getI rfl f0_144 (by assumption) rfl ?_
    rw [hn7]
    first | refine e_icmp_geN (tgt := 63) rfl rfl (by omega) (by omega) (fun z => ?_) (fun z => ?_) | refine e_icmp_ge (tgt := 63) rfl rfl (fun z => ?_) (fun z => ?_)
    · refine e_iconst rfl ic_m1 ?_
      refine e_ireturn rfl rfl ?_
      exact hq
    · omega
  | succ k ih =>
    intro i hi hq
    have e0 : I (s + 1) i = S 0 i := (hC.2.2.1 i (by omega)).1
    have e4 : I (p + 9) i = P.2 4 i := hR.2.2.2.2.2.2.1 1 (by omega) i (by omega)
    have next : ¬ (S 0 i = nI 1 ∧ P.2 4 i = kd ∧ bitOf busy (nI i) = false) → Gw l G (d + 1) m0_server 57 [.ref D, .ref s, .int kd, .int busy, .ref (p + 9), .int (nI i)] [] (I, J, K) Q := by
      intro hno
      rw [srv, if_neg hno] at hq
      first | refine e_inc5 rfl rfl rfl (incN1 _) ?_ | refine e_inc5 rfl rfl rfl rfl ?_
      refine e_goto (tgt := 16) rfl rfl ?_
      exact ih (i + 1) (by omega) hq
    refine e_iload rfl rfl ?_
    refine e_aload_n rfl rfl ?_
    refine e_getI rfl f0_144 (by assumption) rfl ?_
    rw [hn7]
    first | refine e_icmp_geN (tgt := 63) rfl rfl (by omega) (by omega) (fun z => ?_) (fun z => ?_) | refine e_icmp_ge (tgt := 63) rfl rfl (fun z => ?_) (fun z => ?_)
    · omega
    · refine e_aload_n rfl rfl ?_
      refine e_getP rfl f0_96 (by assumption) rfl (by assumption) ?_
      refine e_iload rfl rfl ?_
      first | refine e_ialoadN rfl (by assumption) (by omega) (by omega) ?_ | (refine e_iaload rfl (by assumption) ?_ ?_; rotate_left)
      rw [e0]
      refine e_iconst (v := nI 1) rfl ic_1N ?_
      first | refine e_icmp_neN (tgt := 57) rfl rfl (by omega) (by omega) (fun z => ?_) (fun z => ?_) | refine e_icmp_ne (tgt := 57) rfl rfl (fun z => ?_) (fun z => ?_)
      · exact next (fun q => absurd q.1 (by assumption))
      · have y1 : S 0 i = nI 1 := by assumption
        refine e_aload rfl rfl ?_
        refine e_iload rfl rfl ?_
        first | refine e_ialoadN rfl (by assumption) (by omega) (by omega) ?_ | (refine e_iaload rfl (by assumption) ?_ ?_; rotate_left)
        rw [e4]
        refine e_iload_n rfl rfl ?_
        first | refine e_icmp_neN (tgt := 57) rfl rfl (by omega) (by omega) (fun z => ?_) (fun z => ?_) | refine e_icmp_ne (tgt := 57) rfl rfl (fun z => ?_) (fun z => ?_)
        · exact next (fun q => absurd q.2.1 (by assumption))
        · have y2 : P.2 4 i = kd := by assumption
          refine e_iload_n rfl rfl ?_
          refine e_iload rfl rfl ?_
          refine e_callSNp (M2 := m9_isBit) rfl v0_146 ok9_isBit (c9_isBit busy (nI i)) rfl rfl rfl ?_
          first | refine e_if_neB (tgt := 57) rfl rfl (fun z => ?_) (fun z => ?_) | refine e_if_neN (tgt := 57) rfl rfl (by omega) (fun z => ?_) (fun z => ?_) | refine e_if_ne (tgt := 57) rfl rfl (fun z => ?_) (fun z => ?_)
          · exact next (fun q => absurd q.2.2 (by rw [z]; decide))
          · have y3 : bitOf busy (nI i) = false := by assumption
            rw [srv, if_pos ⟨y1, y2, y3⟩] at hq
            refine e_iload rfl rfl ?_
            refine e_ireturn rfl rfl ?_
            exact hq
theorem c0_server (hH : HD K D p s) (hR : RP I p P) (hC : RC I J s n S) (hn : P.1 1 = n) (kd busy : Int32) : Cp l G (d + 1) m0_server [.ref D, .ref s, .int kd, .int busy] (I, J, K) (.int (srv P S kd busy 0 n)) := by
  have h0 := hH.1.1
  have d0 := hH.1.2.1
  have hP2 := hH.2.1
  obtain ⟨h3, q0, q1, q2, q3, q4, r1, r2, r3, r4, r5⟩ := hP2
  have g2 := r2.1
  refine Cp.of ok0_server rfl (rfl : argL _ _ = [.ref D, .ref s, .int kd, .int busy, .null, .null]) ?_
  refine e_aload_n rfl rfl ?_
  refine e_getP rfl f0_15 (by assumption) rfl (by assumption) ?_
  refine e_getP rfl f0_141 (by assumption) rfl (by assumption) ?_
  refine e_iconst (v := nI 1) rfl ic_1N ?_
  refine e_callVp (kd := 4) (M2 := m4_column) rfl v0_63 ok4_column (c4_column r2 (by omega)) rfl (by assumption) rfl rfl rfl rfl ?_
  refine e_ast4 rfl rfl rfl ?_
  refine e_iconst (v := nI 0) rfl ic_0N ?_
  refine e_ist5 rfl rfl rfl ?_
  exact server_loop hH.2.2.1 (r2.2.2.2.2.1 1 (by omega)) hR hC hn kd busy n 0 (by omega) ⟨rfl, rfl⟩
theorem srv_in {kd busy : Int32} : ∀ k i, i + k < 2 ^ 31 → srv P S kd busy i k = -1 ∨ ∃ t, i ≤ t ∧ t < i + k ∧ srv P S kd busy i k = nI t
  | 0, _, _ => Or.inl rfl
  | k + 1, i, hb => by
    rw [srv]
    split
    · exact Or.inr ⟨i, by omega, by omega, rfl⟩
    · rcases srv_in k (i + 1) (by omega) with h | ⟨t, h1, h2, h3⟩
      · exact Or.inl h
      · exact Or.inr ⟨t, by omega, by omega, h3⟩
set_option maxHeartbeats 2000000 in
theorem serve_loop (hH : HD K D p s) (hW : wfP P) (hn : P.1 1 = n) : ∀ k i I J S busy v5 v6 v7, i + k = P.1 3 → RP I p P → RC I J s n S → (∀ I' J', FD I J I' J' D p s → RC I' J' s n (svS P n i k busy S) → Q none (I', J', K)) → Gw l G (d + 3) m0_serve 17 [.ref D, .ref s, .ref (p + 20), .int busy, .int (nI i), v5, v6, v7] [] (I, J, K) Q := by
  have hH2 := hH
  obtain ⟨⟨h0, d0, d1, d7⟩, hP, hS, hdp, hds⟩ := hH2
  have hP2 := hP
  obtain ⟨h3, q0, q1, q2, q3, q4, r1, r2, r3, r4, r5⟩ := hP2
  have hS2 := hS
  obtain ⟨h6, p0, p1, p2, p3, p4, p5, p6, a1, a2, a3, a4, a5, a6, a7⟩ := hS2
  have g4 := r4.1
  have g5 := r5.1
  have a20 : K.2.1 (p + 20) = (20, 8) := r4.2.2.2.2.1 1 (by omega)
  intro k
  induction k with
  | zero =>
    intro i I J S busy v5 v6 v7 hi hR hC hq
    have z4 : I (p + 17) 2 = nI (P.1 3) := hR.2.2.2.2.1.1
    have b4 : P.1 3 ≤ 8 := hR.2.2.2.2.1.2
    refine e_iload rfl rfl ?_
    refine e_aload_n rfl rfl ?_
    refine e_getP rfl f0_15 (by assumption) rfl (by assumption) ?_
    refine e_getP rfl f0_120 (by assumption) rfl (by assumption) ?_
    refine e_getI rfl f0_69 (by assumption) rfl ?_
    rw [z4]
    first | refine e_icmp_geN (tgt := 186) rfl rfl (by omega) (by omega) (fun z => ?_) (fun z => ?_) | refine e_icmp_ge (tgt := 186) rfl rfl (fun z => ?_) (fun z => ?_)
    · refine e_return rfl rfl ?_
      exact hq I J FD.rf hC
    · omega
  | succ k ih =>
    intro i I J S busy v5 v6 v7 hi hR hC hq
    have z4 : I (p + 17) 2 = nI (P.1 3) := hR.2.2.2.2.1.1
    have b4 : P.1 3 ≤ 8 := hR.2.2.2.2.1.2
    have hn7 := hC.1
    have hn8 := hC.2.1
    have k8 : I s 8 = S 8 0 := hC.2.2.2.2.2.1.1
    have k10 : I s 10 = S 10 0 := hC.2.2.2.2.2.1.2.2.1
    have k11 : I s 11 = S 11 0 := hC.2.2.2.2.2.1.2.2.2.1
    have k12 : I s 12 = S 12 0 := hC.2.2.2.2.2.1.2.2.2.2.1
    have w10 : I (p + 17 + 2 + 0) i = P.2 10 i := hR.2.2.2.2.2.2.2.2.1 0 (by omega) i (by omega)
    have w11 : I (p + 20) i = P.2 11 i := hR.2.2.2.2.2.2.2.2.1 1 (by omega) i (by omega)
    have w12 : I (p + 17 + 2 + 2) i = P.2 12 i := hR.2.2.2.2.2.2.2.2.1 2 (by omega) i (by omega)
    have goon : ∀ I1 J1 b1 v5 v6 v7, FD I J I1 J1 D p s → RC I1 J1 s n (sv1 P n busy S i).2 → b1 = (sv1 P n busy S i).1 → Gw l G (d + 3) m0_serve 180 [.ref D, .ref s, .ref (p + 20), .int b1, .int (nI i), v5, v6, v7] [] (I1, J1, K) Q := by
      intro I1 J1 b1 v5 v6 v7 hf hC1 hb1
      subst hb1
      rw [svS] at hq
      first | refine e_inc4 rfl rfl rfl (incN1 _) ?_ | refine e_inc4 rfl rfl rfl rfl ?_
      refine e_goto (tgt := 17) rfl rfl ?_
      exact ih (i + 1) I1 J1 _ _ _ _ _ (by omega) (hf.rp hdp hds hR) hC1 (fun I' J' f2 c2 => hq I' J' (hf.tr f2) c2)
    refine e_iload rfl rfl ?_
    refine e_aload_n rfl rfl ?_
    refine e_getP rfl f0_15 (by assumption) rfl (by assumption) ?_
    refine e_getP rfl f0_120 (by assumption) rfl (by assumption) ?_
    refine e_getI rfl f0_69 (by assumption) rfl ?_
    rw [z4]
    first | refine e_icmp_geN (tgt := 186) rfl rfl (by omega) (by omega) (fun z => ?_) (fun z => ?_) | refine e_icmp_ge (tgt := 186) rfl rfl (fun z => ?_) (fun z => ?_)
    · omega
    · refine e_aload_n rfl rfl ?_
      refine e_iload rfl rfl ?_
      first | refine e_ialoadN rfl (by assumption) (by omega) (by omega) ?_ | (refine e_iaload rfl (by assumption) ?_ ?_; rotate_left)
      refine e_aload_n rfl rfl ?_
      refine e_getI rfl f0_30 (by assumption) rfl ?_
      rw [w11, k8]
      first | refine e_icmp_neN (tgt := 180) rfl rfl (by omega) (by omega) (fun z => ?_) (fun z => ?_) | refine e_icmp_ne (tgt := 180) rfl rfl (fun z => ?_) (fun z => ?_)
      · have hno : ¬ P.2 11 i = S 8 0 := by assumption
        have e : sv1 P n busy S i = (busy, S) := if_neg hno
        exact goon I J busy _ _ _ FD.rf (by rw [e]; exact hC) (by rw [e])
      · have hyes : P.2 11 i = S 8 0 := by assumption
        refine e_aload_n rfl rfl ?_
        refine e_aload_n rfl rfl ?_
        refine e_aload_n rfl rfl ?_
        refine e_getP rfl f0_15 (by assumption) rfl (by assumption) ?_
        refine e_getP rfl f0_120 (by assumption) rfl (by assumption) ?_
        refine e_iload rfl rfl ?_
        refine e_iconst (v := nI 0) rfl ic_0N ?_
        refine e_callVp (kd := 4) (M2 := m4_at) rfl v0_72 ok4_at (c4_at r4 z4 b4 (by omega) _) rfl (by assumption) rfl rfl rfl rfl ?_
        rw [rAt_nI (by omega) (by omega), w10]
        refine e_iload_n rfl rfl ?_
        refine e_callVp (kd := 0) (M2 := m0_server) rfl v0_123 ok0_server (c0_server hH hR hC hn _ _) rfl (by assumption) rfl rfl rfl rfl ?_
        obtain ⟨x, ex⟩ : ∃ x, x = srv P S (P.2 10 i) busy 0 n := ⟨_, rfl⟩
        rw [← ex]
        refine e_ist5 rfl rfl rfl ?_
        refine e_iload rfl rfl ?_
        refine e_iconst rfl ic_m1 ?_
        first | refine e_icmp_neN (tgt := 91) rfl rfl (by omega) (by omega) (fun z => ?_) (fun z => ?_) | refine e_icmp_ne (tgt := 91) rfl rfl (fun z => ?_) (fun z => ?_)
        · have hx : ¬ x = -1 := by assumption
          obtain ⟨t, -, ht, et⟩ := (srv_in (P := P) (S := S) (kd := P.2 10 i) (busy := busy) n 0 (by omega)).resolve_left (by rw [← ex]; exact hx)
          rw [← ex] at et
          subst et
          rw [Nat.zero_add] at ht
          have e5 : I (s + 6) t = S 5 t := (hC.2.2.1 t ht).2.2.2.2
          refine e_iload_n rfl rfl ?_
          refine e_iconst (v := nI 1) rfl ic_1N ?_
          refine e_iload rfl rfl ?_
          refine e_ishl rfl ?_
          refine e_ior rfl ?_
          refine e_ist3 rfl rfl rfl ?_
          refine e_aload_n rfl rfl ?_
          refine e_getP rfl f0_127 (by assumption) rfl (by assumption) ?_
          refine e_iload rfl rfl ?_
          refine e_iconst (v := nI 1) rfl ic_1N ?_
          first | refine e_iastoreN rfl (by assumption) (by omega) (by omega) ?_ | (refine e_iastore rfl (by assumption) ?_ ?_; rotate_left)
          refine e_aload_n rfl rfl ?_
          refine e_dup rfl rfl ?_
          refine e_getI rfl f0_132 (by assumption) rfl ?_
          simp (disch := omega) only [u2_ne]
          rw [k11]
          refine e_iconst (v := nI 1) rfl ic_1N ?_
          refine e_iadd rfl ?_
          refine e_putI rfl f0_132 (by assumption) rfl rfl ?_
          refine e_aload_n rfl rfl ?_
          refine e_getP rfl f0_135 (by assumption) rfl (by assumption) ?_
          refine e_iload rfl rfl ?_
          refine e_dup2 rfl rfl rfl ?_
          first | refine e_ialoadN rfl (by assumption) (by omega) (by omega) ?_ | (refine e_iaload rfl (by assumption) ?_ ?_; rotate_left)
          simp (disch := omega) only [u2_ne]
          rw [e5]
          refine e_iconst (v := nI 1) rfl ic_1N ?_
          refine e_iadd rfl ?_
          first | refine e_iastoreN rfl (by assumption) (by omega) (by omega) ?_ | (refine e_iastore rfl (by assumption) ?_ ?_; rotate_left)
          have hC1 : RC (u2 (u2 (u2 I (s + 7) i (nI 1)) s 11 (S 11 0 + nI 1)) (s + 6) t (S 5 t + nI 1)) J s n (u2 (u2 (u2 S 6 i (nI 1)) 11 0 (S 11 0 + nI 1)) 5 t (S 5 t + nI 1)) := ((hC.up6 (by omega) _).up11 _).up5 ht _
          have hR1 : RP (u2 (u2 (u2 I (s + 7) i (nI 1)) s 11 (S 11 0 + nI 1)) (s + 6) t (S 5 t + nI 1)) p P := hR.frame (fun c h1 h2 => by funext y; simp (disch := omega) only [u2_ne])
          have f1 : FD I J (u2 (u2 (u2 I (s + 7) i (nI 1)) s 11 (S 11 0 + nI 1)) (s + 6) t (S 5 t + nI 1)) J D p s := ⟨fun c h1 h2 => by funext y; simp (disch := omega) only [u2_ne], fun _ _ _ => rfl, by funext y; simp (disch := omega) only [u2_ne], by funext y; simp (disch := omega) only [u2_ne]⟩
          generalize u2 (u2 (u2 I (s + 7) i (nI 1)) s 11 (S 11 0 + nI 1)) (s + 6) t (S 5 t + nI 1) = I1 at hC1 hR1 f1
          have z41 : I1 (p + 17) 2 = nI (P.1 3) := hR1.2.2.2.2.1.1
          have w121 : I1 (p + 17 + 2 + 2) i = P.2 12 i := hR1.2.2.2.2.2.2.2.2.1 2 (by omega) i (by omega)
          have k101 : I1 s 10 = S 10 0 := by
            have := hC1.2.2.2.2.2.1.2.2.1
            simp (disch := omega) only [u2_ne] at this
            exact this
          refine e_aload_n rfl rfl ?_
          refine e_getP rfl f0_15 (by assumption) rfl (by assumption) ?_
          refine e_getP rfl f0_102 (by assumption) rfl (by assumption) ?_
          refine e_iconst (v := nI 1) rfl ic_1N ?_
          refine e_aload_n rfl rfl ?_
          refine e_aload_n rfl rfl ?_
          refine e_iload rfl rfl ?_
          refine e_iload rfl rfl ?_
          refine e_callV (kd := 0) (M2 := m0_namesOf) rfl v0_106 ok0_namesOf (c0_namesOf hH hR1 hW hC1 hn ht (wo := P.2 12 i) (by rw [rAt_nI (by omega) (by omega)]; exact w121)) rfl (by assumption) rfl rfl rfl rfl (fun r1 h1 q1 => ?_)
          obtain ⟨rfl, I2, rfl, f2, n2⟩ := q1
          have hR2 : RP I2 p P := hR1.frame (fun c h1 h2 => f2 c (by omega))
          have e : nmS P (u2 (u2 (u2 S 6 i (nI 1)) 11 0 (S 11 0 + nI 1)) 5 t (S 5 t + nI 1)) t (P.2 12 i) = nmS P S t (P.2 12 i) := by
            funext y
            unfold nmS
            simp (disch := omega) only [u2_ne]
          refine e_callV (kd := 1) (M2 := m1_work) rfl v0_110 ok1_work (c1_workP hP hR2 hW (by omega) d7 n2) rfl (by assumption) rfl rfl rfl rfl (fun r1 h1 q1 => ?_)
          obtain ⟨rfl, J2, rfl, fj⟩ := q1
          refine e_lst6 rfl rfl rfl ?_
          refine e_aload_n rfl rfl ?_
          refine e_dup rfl rfl ?_
          have k102 : I2 s 10 = S 10 0 := by rw [f2 s (by omega)]; exact k101
          refine e_getI rfl f0_138 (by assumption) rfl ?_
          rw [k102]
          have z42 : I2 (p + 17) 2 = nI (P.1 3) := hR2.2.2.2.2.1.1
          have w122 : I2 (p + 17 + 2 + 2) i = P.2 12 i := hR2.2.2.2.2.2.2.2.2.1 2 (by omega) i (by omega)
          refine e_lload rfl rfl ?_
          refine e_iconst (v := nI 0) rfl ic_0N ?_
          refine e_sipush (v := nI 999) rfl sp_999N ?_
          refine e_aload_n rfl rfl ?_
          refine e_getP rfl f0_15 (by assumption) rfl (by assumption) ?_
          refine e_getP rfl f0_120 (by assumption) rfl (by assumption) ?_
          refine e_iload rfl rfl ?_
          refine e_iconst (v := nI 2) rfl ic_2N ?_
          refine e_callVp (kd := 4) (M2 := m4_at) rfl v0_72 ok4_at (c4_at r4 z42 b4 (by omega) _) rfl (by assumption) rfl rfl rfl rfl ?_
          rw [rAt_nI (by omega) (by omega), w122]
          refine e_callSp (M2 := m0_within) rfl v0_116 ok0_within (c0_within _ _ _ _) rfl rfl rfl ?_
          refine e_iadd rfl ?_
          refine e_putI rfl f0_138 (by assumption) rfl rfl ?_
          have hC2 : RC I2 J2 s n (u2 (u2 (u2 S 6 i (nI 1)) 11 0 (S 11 0 + nI 1)) 5 t (S 5 t + nI 1)) := hC1.frame (fun c h1 h2 => f2 c (by omega)) (by rw [fj s (by omega)])
          have hs1 : sv1 P n busy S i = (busy ||| nI 1 <<< (nI t &&& 31), u2 (u2 (u2 (u2 S 6 i (nI 1)) 11 0 (S 11 0 + nI 1)) 5 t (S 5 t + nI 1)) 10 0 (S 10 0 + wn (lawP P 1 (nmS P S t (P.2 12 i))) (nI 0) (nI 999) (P.2 12 i))) := by
            rw [sv1, if_pos hyes, ← ex, if_neg hx, nI_clamp (by omega)]
          refine goon _ _ _ _ _ _ (f1.tr ⟨?_, ?_, ?_, ?_⟩) ?_ ?_
          · intro c h1 h2
            rw [u2_row _ _ (by omega), f2 c h1]
          · intro c h1 h2
            exact fj c h1
          · rw [u2_row _ _ (by omega), f2 _ (by omega)]
          · rw [u2_row _ _ (by omega), f2 _ (by omega)]
          · rw [hs1, ← e]
            exact hC2.up10 _
          · rw [hs1]
        · have hx : x = -1 := by assumption
          refine e_aload_n rfl rfl ?_
          refine e_getP rfl f0_127 (by assumption) rfl (by assumption) ?_
          refine e_iload rfl rfl ?_
          refine e_iconst (v := nI 2) rfl ic_2N ?_
          first | refine e_iastoreN rfl (by assumption) (by omega) (by omega) ?_ | (refine e_iastore rfl (by assumption) ?_ ?_; rotate_left)
          refine e_aload_n rfl rfl ?_
          refine e_dup rfl rfl ?_
          refine e_getI rfl f0_129 (by assumption) rfl ?_
          simp (disch := omega) only [u2_ne]
          rw [k12]
          refine e_iconst (v := nI 1) rfl ic_1N ?_
          refine e_iadd rfl ?_
          refine e_putI rfl f0_129 (by assumption) rfl rfl ?_
          refine e_goto (tgt := 180) rfl rfl ?_
          have hs1 : sv1 P n busy S i = (busy, u2 (u2 S 6 i (nI 2)) 12 0 (S 12 0 + nI 1)) := by
            rw [sv1, if_pos hyes, ← ex, if_pos hx]
          refine goon _ _ _ _ _ _ ⟨fun c h1 h2 => by funext y; simp (disch := omega) only [u2_ne], fun _ _ _ => rfl, by funext y; simp (disch := omega) only [u2_ne], by funext y; simp (disch := omega) only [u2_ne]⟩ ?_ ?_
          · rw [hs1]
            exact (hC.up6 (by omega) _).up12 _
          · rw [hs1]
theorem c0_serve (hH : HD K D p s) (hR : RP I p P) (hW : wfP P) (hC : RC I J s n S) (hn : P.1 1 = n) : Cw l G (d + 3) m0_serve [.ref D, .ref s] (I, J, K) (fun r h' => r = none ∧ ∃ I' J', h' = (I', J', K) ∧ FD I J I' J' D p s ∧ RC I' J' s n (svS P n 0 (P.1 3) 0 S)) := by
  have h0 := hH.1.1
  have d0 := hH.1.2.1
  have hP2 := hH.2.1
  obtain ⟨h3, q0, q1, q2, q3, q4, r1, r2, r3, r4, r5⟩ := hP2
  have g4 := r4.1
  refine Cw.of ok0_serve rfl (rfl : argL _ _ = [.ref D, .ref s, .null, .null, .null, .null, .null, .null]) ?_
  refine e_aload_n rfl rfl ?_
  refine e_getP rfl f0_15 (by assumption) rfl (by assumption) ?_
  refine e_getP rfl f0_120 (by assumption) rfl (by assumption) ?_
  refine e_iconst (v := nI 1) rfl ic_1N ?_
  refine e_callVp (kd := 4) (M2 := m4_column) rfl v0_63 ok4_column (c4_column r4 (by omega)) rfl (by assumption) rfl rfl rfl rfl ?_
  refine e_ast2 rfl rfl rfl ?_
  refine e_iconst (v := nI 0) rfl ic_0N ?_
  refine e_ist3 rfl rfl rfl ?_
  refine e_iconst (v := nI 0) rfl ic_0N ?_
  refine e_ist4 rfl rfl rfl ?_
  exact serve_loop hH hW hn (P.1 3) 0 I J S _ _ _ _ (by omega) hR hC (fun I' J' f c => ⟨rfl, I', J', rfl, f, c⟩)
end MDays
end
section
/-! ===== Days: what goes off, rusts, blows; a DAY ===== -/
section MDays2
variable {l : Launch} {G : GG} {d : Nat} {I : IM} {J : JM} {K : Kt} {Q : Option Value → Hp → Prop} {D p s n : Nat} {P : Pl} {S : SM} {h : Hp}
theorem u2_u2 {α : Type} (I : Nat → Nat → α) (a k : Nat) (v w : α) : u2 (u2 I a k v) a k w = u2 I a k w := by
  funext a' k'
  simp only [u2]
  split <;> rfl
theorem goOff_loop (hS : isState K s) : ∀ k i I S, i + k = n → RC I J s n S → (∀ I', (∀ c, (c < s ∨ s + 7 < c) → I' c = I c) → I' (s + 3) = I (s + 3) → I' (s + 4) = I (s + 4) → RC I' J s n (goS i k S) → Q none (I', J, K)) → Gw l G d m0_goOff 2 [.ref D, .ref s, .int (nI i)] [] (I, J, K) Q := by
  obtain ⟨h6, p0, p1, p2, p3, p4, p5, p6, a1, a2, a3, a4, a5, a6, a7⟩ := hS
  intro k
  induction k with
  | zero =>
    intro i I S hi hC hq
    have hn7 := hC.1
    have hn8 := hC.2.1
    refine e_iload_n rfl rfl ?_
    refine e_aload_n rfl rfl ?_
    refine e_getI rfl f0_144 (by assumption) rfl ?_
    rw [hn7]
    first | refine e_icmp_geN (tgt := 59) rfl rfl (by omega) (by omega) (fun z => ?_) (fun z => ?_) | refine e_icmp_ge (tgt := 59) rfl rfl (fun z => ?_) (fun z => ?_)
    · refine e_return rfl rfl ?_
      exact hq I (fun _ _ => rfl) rfl rfl hC
    · omega
  | succ k ih =>
    intro i I S hi hC hq
    have hn7 := hC.1
    have hn8 := hC.2.1
    have e0 : I (s + 1) i = S 0 i := (hC.2.2.1 i (by omega)).1
    have e4 : I (s + 5) i = S 4 i := (hC.2.2.1 i (by omega)).2.2.2.1
    have goon : ∀ I1, (∀ c, (c < s ∨ s + 7 < c) → I1 c = I c) → I1 (s + 3) = I (s + 3) → I1 (s + 4) = I (s + 4) → RC I1 J s n (go1 S i) → Gw l G d m0_goOff 53 [.ref D, .ref s, .int (nI i)] [] (I1, J, K) Q := by
      intro I1 f1 f2 f3 hC1
      rw [goS] at hq
      first | refine e_inc2 rfl rfl rfl (incN1 _) ?_ | refine e_inc2 rfl rfl rfl rfl ?_
      refine e_goto (tgt := 2) rfl rfl ?_
      exact ih (i + 1) I1 _ (by omega) hC1 (fun I' g1 g2 g3 c => hq I' (fun c' hc => (g1 c' hc).trans (f1 c' hc)) (g2.trans f2) (g3.trans f3) c)
    refine e_iload_n rfl rfl ?_
    refine e_aload_n rfl rfl ?_
    refine e_getI rfl f0_144 (by assumption) rfl ?_
    rw [hn7]
    first | refine e_icmp_geN (tgt := 59) rfl rfl (by omega) (by omega) (fun z => ?_) (fun z => ?_) | refine e_icmp_ge (tgt := 59) rfl rfl (fun z => ?_) (fun z => ?_)
    · omega
    · refine e_aload_n rfl rfl ?_
      refine e_getP rfl f0_96 (by assumption) rfl (by assumption) ?_
      refine e_iload_n rfl rfl ?_
      first | refine e_ialoadN rfl (by assumption) (by omega) (by omega) ?_ | (refine e_iaload rfl (by assumption) ?_ ?_; rotate_left)
      rw [e0]
      refine e_iconst (v := nI 1) rfl ic_1N ?_
      first | refine e_icmp_neN (tgt := 53) rfl rfl (by omega) (by omega) (fun z => ?_) (fun z => ?_) | refine e_icmp_ne (tgt := 53) rfl rfl (fun z => ?_) (fun z => ?_)
      · have hno : ¬ S 0 i = nI 1 := by assumption
        exact goon I (fun _ _ => rfl) rfl rfl (by rw [go1, if_neg hno]; exact hC)
      · have hyes : S 0 i = nI 1 := by assumption
        refine e_aload_n rfl rfl ?_
        refine e_getP rfl f0_99 (by assumption) rfl (by assumption) ?_
        refine e_iload_n rfl rfl ?_
        refine e_dup2 rfl rfl rfl ?_
        first | refine e_ialoadN rfl (by assumption) (by omega) (by omega) ?_ | (refine e_iaload rfl (by assumption) ?_ ?_; rotate_left)
        rw [e4]
        refine e_iconst (v := nI 1) rfl ic_1N ?_
        refine e_isub rfl ?_
        first | refine e_iastoreN rfl (by assumption) (by omega) (by omega) ?_ | (refine e_iastore rfl (by assumption) ?_ ?_; rotate_left)
        refine e_aload_n rfl rfl ?_
        refine e_getP rfl f0_99 (by assumption) rfl (by assumption) ?_
        refine e_iload_n rfl rfl ?_
        first | refine e_ialoadN rfl (by assumption) (by omega) (by omega) ?_ | (refine e_iaload rfl (by assumption) ?_ ?_; rotate_left)
        rw [u2_at]
        first | refine e_if_gtN (tgt := 53) rfl rfl (by omega) (fun z => ?_) (fun z => ?_) | refine e_if_gt (tgt := 53) rfl rfl (fun z => ?_) (fun z => ?_)
        · have hpos : 0 < S 4 i - nI 1 := by assumption
          refine goon _ (fun c hc => u2_row _ _ (by omega)) (u2_row _ _ (by omega)) (u2_row _ _ (by omega)) ?_
          rw [go1, if_pos hyes, if_pos hpos]
          exact hC.up4 (by omega) _
        · have hpos : ¬ 0 < S 4 i - nI 1 := by assumption
          refine e_aload_n rfl rfl ?_
          refine e_getP rfl f0_99 (by assumption) rfl (by assumption) ?_
          refine e_iload_n rfl rfl ?_
          refine e_iconst (v := nI 0) rfl ic_0N ?_
          first | refine e_iastoreN rfl (by assumption) (by omega) (by omega) ?_ | (refine e_iastore rfl (by assumption) ?_ ?_; rotate_left)
          refine e_aload_n rfl rfl ?_
          refine e_getP rfl f0_96 (by assumption) rfl (by assumption) ?_
          refine e_iload_n rfl rfl ?_
          refine e_iconst (v := nI 2) rfl ic_2N ?_
          first | refine e_iastoreN rfl (by assumption) (by omega) (by omega) ?_ | (refine e_iastore rfl (by assumption) ?_ ?_; rotate_left)
          rw [u2_u2]
          refine goon _ (fun c hc => by funext y; simp (disch := omega) only [u2_ne]) (by funext y; simp (disch := omega) only [u2_ne]) (by funext y; simp (disch := omega) only [u2_ne]) ?_
          rw [go1, if_pos hyes, if_neg hpos]
          exact (hC.up4 (by omega) _).up0 (by omega) _
theorem c0_goOff (hS : isState K s) (hC : RC I J s n S) : Cw l G d m0_goOff [.ref D, .ref s] (I, J, K) (fun r h' => r = none ∧ ∃ I', h' = (I', J, K) ∧ FD I J I' J D p s ∧ RC I' J s n (goS 0 n S)) := by
  refine Cw.of ok0_goOff rfl (rfl : argL _ _ = [.ref D, .ref s, .null]) ?_
  refine e_iconst (v := nI 0) rfl ic_0N ?_
  refine e_ist2 rfl rfl rfl ?_
  exact goOff_loop hS n 0 I S (by omega) hC (fun I' f1 f2 f3 c => ⟨rfl, I', rfl, ⟨fun c' _ hc => f1 c' hc, fun _ _ _ => rfl, f2, f3⟩, c⟩)
theorem blow_loop (hS : isState K s) (a11 : K.2.1 (p + 11) = (20, 8)) (hps : p + 27 ≤ s) (hn : P.1 1 = n) : ∀ k i I S, i + k = n → RP I p P → RC I J s n S → (∀ I', (∀ c, (c < s ∨ s + 7 < c) → I' c = I c) → I' (s + 3) = I (s + 3) → I' (s + 4) = I (s + 4) → RC I' J s n (blS P i k S) → Q none (I', J, K)) → Gw l G d m0_blow 14 [.ref D, .ref s, .ref (p + 11), .int (nI i)] [] (I, J, K) Q := by
  obtain ⟨h6, p0, p1, p2, p3, p4, p5, p6, a1, a2, a3, a4, a5, a6, a7⟩ := hS
  intro k
  induction k with
  | zero =>
    intro i I S hi hR hC hq
    have hn7 := hC.1
    have hn8 := hC.2.1
    refine e_iload_n rfl rfl ?_
    refine e_aload_n rfl rfl ?_
    refine e_getI rfl f0_144 (by assumption) rfl ?_
    rw [hn7]
    first | refine e_icmp_geN (tgt := 65) rfl rfl (by omega) (by omega) (fun z => ?_) (fun z => ?_) | refine e_icmp_ge (tgt := 65) rfl rfl (fun z => ?_) (fun z => ?_)
    · refine e_return rfl rfl ?_
      exact hq I (fun _ _ => rfl) rfl rfl hC
    · omega
  | succ k ih =>
    intro i I S hi hR hC hq
    have hn7 := hC.1
    have hn8 := hC.2.1
    have e0 : I (s + 1) i = S 0 i := (hC.2.2.1 i (by omega)).1
    have e1 : I (s + 2) i = S 1 i := (hC.2.2.1 i (by omega)).2.1
    have k8 : I s 8 = S 8 0 := hC.2.2.2.2.2.1.1
    have e6 : I (p + 11) i = P.2 6 i := hR.2.2.2.2.2.2.1 3 (by omega) i (by omega)
    have goon : ∀ I1, (∀ c, (c < s ∨ s + 7 < c) → I1 c = I c) → I1 (s + 3) = I (s + 3) → I1 (s + 4) = I (s + 4) → RC I1 J s n (bl1 P S i) → Gw l G d m0_blow 59 [.ref D, .ref s, .ref (p + 11), .int (nI i)] [] (I1, J, K) Q := by
      intro I1 f1 f2 f3 hC1
      rw [blS] at hq
      first | refine e_inc3 rfl rfl rfl (incN1 _) ?_ | refine e_inc3 rfl rfl rfl rfl ?_
      refine e_goto (tgt := 14) rfl rfl ?_
      exact ih (i + 1) I1 _ (by omega) (hR.frame (fun c h1 h2 => f1 c (by omega))) hC1 (fun I' g1 g2 g3 c => hq I' (fun c' hc => (g1 c' hc).trans (f1 c' hc)) (g2.trans f2) (g3.trans f3) c)
    have hit : S 0 i = 0 ∧ (P.2 6 i ≤ S 8 0 ∨ nI 10 ≤ S 1 i) → Gw l G d m0_blow 52 [.ref D, .ref s, .ref (p + 11), .int (nI i)] [] (I, J, K) Q := by
      intro hy
      refine e_aload_n rfl rfl ?_
      refine e_getP rfl f0_96 (by assumption) rfl (by assumption) ?_
      refine e_iload_n rfl rfl ?_
      refine e_iconst (v := nI 3) rfl ic_3N ?_
      first | refine e_iastoreN rfl (by assumption) (by omega) (by omega) ?_ | (refine e_iastore rfl (by assumption) ?_ ?_; rotate_left)
      refine goon _ (fun c hc => u2_row _ _ (by omega)) (u2_row _ _ (by omega)) (u2_row _ _ (by omega)) ?_
      rw [bl1, if_pos hy]
      exact hC.up0 (by omega) _
    have mis : ¬ (S 0 i = 0 ∧ (P.2 6 i ≤ S 8 0 ∨ nI 10 ≤ S 1 i)) → Gw l G d m0_blow 59 [.ref D, .ref s, .ref (p + 11), .int (nI i)] [] (I, J, K) Q := fun hno => goon I (fun _ _ => rfl) rfl rfl (by rw [bl1, if_neg hno]; exact hC)
    refine e_iload_n rfl rfl ?_
    refine e_aload_n rfl rfl ?_
    refine e_getI rfl f0_144 (by assumption) rfl ?_
    rw [hn7]
    first | refine e_icmp_geN (tgt := 65) rfl rfl (by omega) (by omega) (fun z => ?_) (fun z => ?_) | refine e_icmp_ge (tgt := 65) rfl rfl (fun z => ?_) (fun z => ?_)
    · omega
    · refine e_aload_n rfl rfl ?_
      refine e_getP rfl f0_96 (by assumption) rfl (by assumption) ?_
      refine e_iload_n rfl rfl ?_
      first | refine e_ialoadN rfl (by assumption) (by omega) (by omega) ?_ | (refine e_iaload rfl (by assumption) ?_ ?_; rotate_left)
      rw [e0]
      first | refine e_if_neB (tgt := 59) rfl rfl (fun z => ?_) (fun z => ?_) | refine e_if_neN (tgt := 59) rfl rfl (by omega) (fun z => ?_) (fun z => ?_) | refine e_if_ne (tgt := 59) rfl rfl (fun z => ?_) (fun z => ?_)
      · exact mis (fun q => absurd q.1 (by assumption))
      · have y0 : S 0 i = 0 := by assumption
        refine e_aload_n rfl rfl ?_
        refine e_iload_n rfl rfl ?_
        first | refine e_ialoadN rfl (by assumption) (by omega) (by omega) ?_ | (refine e_iaload rfl (by assumption) ?_ ?_; rotate_left)
        refine e_aload_n rfl rfl ?_
        refine e_getI rfl f0_30 (by assumption) rfl ?_
        rw [e6, k8]
        first | refine e_icmp_leN (tgt := 52) rfl rfl (by omega) (by omega) (fun z => ?_) (fun z => ?_) | refine e_icmp_le (tgt := 52) rfl rfl (fun z => ?_) (fun z => ?_)
        · exact hit ⟨y0, Or.inl (by assumption)⟩
        · have y1 : ¬ P.2 6 i ≤ S 8 0 := by assumption
          refine e_aload_n rfl rfl ?_
          refine e_getP rfl f0_159 (by assumption) rfl (by assumption) ?_
          refine e_iload_n rfl rfl ?_
          first | refine e_ialoadN rfl (by assumption) (by omega) (by omega) ?_ | (refine e_iaload rfl (by assumption) ?_ ?_; rotate_left)
          rw [e1]
          refine e_bipush (v := nI 10) rfl bp_10N ?_
          first | refine e_icmp_ltN (tgt := 59) rfl rfl (by omega) (by omega) (fun z => ?_) (fun z => ?_) | refine e_icmp_lt (tgt := 59) rfl rfl (fun z => ?_) (fun z => ?_)
          · exact mis (fun q => q.2.elim y1 (fun q => absurd q (Int32.not_le.mpr (by assumption))))
          · exact hit ⟨y0, Or.inr (Int32.not_lt.mp (by assumption))⟩
theorem c0_blow (hH : HD K D p s) (hR : RP I p P) (hC : RC I J s n S) (hn : P.1 1 = n) : Cw l G (d + 1) m0_blow [.ref D, .ref s] (I, J, K) (fun r h' => r = none ∧ ∃ I', h' = (I', J, K) ∧ FD I J I' J D p s ∧ RC I' J s n (blS P 0 n S)) := by
  have h0 := hH.1.1
  have d0 := hH.1.2.1
  have hdp := hH.2.2.2.1
  have hds := hH.2.2.2.2
  have hP2 := hH.2.1
  obtain ⟨h3, q0, q1, q2, q3, q4, r1, r2, r3, r4, r5⟩ := hP2
  have g2 := r2.1
  refine Cw.of ok0_blow rfl (rfl : argL _ _ = [.ref D, .ref s, .null, .null]) ?_
  refine e_aload_n rfl rfl ?_
  refine e_getP rfl f0_15 (by assumption) rfl (by assumption) ?_
  refine e_getP rfl f0_141 (by assumption) rfl (by assumption) ?_
  refine e_iconst (v := nI 3) rfl ic_3N ?_
  refine e_callVp (kd := 4) (M2 := m4_column) rfl v0_63 ok4_column (c4_column r2 (by omega)) rfl (by assumption) rfl rfl rfl rfl ?_
  refine e_ast2 rfl rfl rfl ?_
  refine e_iconst (v := nI 0) rfl ic_0N ?_
  refine e_ist3 rfl rfl rfl ?_
  exact blow_loop hH.2.2.1 (r2.2.2.2.2.1 3 (by omega)) (by omega) hn n 0 I S (by omega) hR hC (fun I' f1 f2 f3 c => ⟨rfl, I', rfl, ⟨fun c' _ hc => f1 c' hc, fun _ _ _ => rfl, f2, f3⟩, c⟩)
theorem c0_rusts (h0 : (K.2.1 D).1 = 0) (h6 : (K.2.1 s).1 = 6) {dr : Bool} (hdr : I D 2 = bI dr) (hJ : J s 14 = (S 14 0).toInt64) (o : Int32) : Cw l G (d + 1) m0_rusts [.ref D, .ref s, .int o] (I, J, K) (fun r h' => r = some (.int (bI (rsB dr S o).1)) ∧ h' = (I, if dr = false ∨ (o = 0 ∨ o = nI 100) then J else u2 J s 14 (nxt (S 14 0).toInt64), K)) := by
  refine Cw.of ok0_rusts rfl (rfl : argL _ _ = [.ref D, .ref s, .int o]) ?_
  refine e_aload_n rfl rfl ?_
  refine e_getI rfl f0_19 (by assumption) rfl ?_
  rw [hdr]
  first | refine e_if_neB (tgt := 19) rfl rfl (fun z => ?_) (fun z => ?_) | refine e_if_neN (tgt := 19) rfl rfl (by omega) (fun z => ?_) (fun z => ?_) | refine e_if_ne (tgt := 19) rfl rfl (fun z => ?_) (fun z => ?_)
  · have yd : dr = true := by assumption
    subst yd
    have big : (o = 0 ∨ o = nI 100) → Gw l G (d + 1) m0_rusts 29 [.ref D, .ref s, .int o] [] (I, J, K) (fun r h' => r = some (.int (bI (rsB true S o).1)) ∧ h' = (I, if true = false ∨ (o = 0 ∨ o = nI 100) then J else u2 J s 14 (nxt (S 14 0).toInt64), K)) := by
      intro ho
      have e : rsB true S o = (decide (o = nI 100), S) := by rw [rsB, if_neg (by decide), if_pos ho]
      rw [e, if_pos (Or.inr ho)]
      refine e_iload_n rfl rfl ?_
      refine e_bipush (v := nI 100) rfl bp_100N ?_
      first | refine e_icmp_neN (tgt := 39) rfl rfl (by omega) (by omega) (fun z => ?_) (fun z => ?_) | refine e_icmp_ne (tgt := 39) rfl rfl (fun z => ?_) (fun z => ?_)
      · refine e_iconst (v := nI 0) rfl ic_0N ?_
        refine e_zreturn rfl rfl ?_ ?_
        · exact Or.inl rfl
        · rw [decide_eq_false (by assumption)]; exact ⟨rfl, rfl⟩
      · refine e_iconst (v := nI 1) rfl ic_1N ?_
        refine e_goto (tgt := 40) rfl rfl ?_
        refine e_zreturn rfl rfl ?_ ?_
        · exact Or.inr rfl
        · rw [decide_eq_true (by assumption)]; exact ⟨rfl, rfl⟩
    refine e_iload_n rfl rfl ?_
    first | refine e_if_eqB (tgt := 29) rfl rfl (fun z => ?_) (fun z => ?_) | refine e_if_eqN (tgt := 29) rfl rfl (by omega) (fun z => ?_) (fun z => ?_) | refine e_if_eq (tgt := 29) rfl rfl (fun z => ?_) (fun z => ?_)
    · exact big (Or.inl (by assumption))
    · have y0 : ¬ o = 0 := by assumption
      refine e_iload_n rfl rfl ?_
      refine e_bipush (v := nI 100) rfl bp_100N ?_
      first | refine e_icmp_neN (tgt := 41) rfl rfl (by omega) (by omega) (fun z => ?_) (fun z => ?_) | refine e_icmp_ne (tgt := 41) rfl rfl (fun z => ?_) (fun z => ?_)
      · have y1 : ¬ o = nI 100 := by assumption
        have ho : ¬ (o = 0 ∨ o = nI 100) := fun q => q.elim y0 y1
        have e : rsB true S o = (decide ((nxt (S 14 0).toInt64 / 65536).toInt32 - (nxt (S 14 0).toInt64 / 65536).toInt32 / nI 100 * nI 100 < o), u2 S 14 0 (nx32 (S 14 0))) := by rw [rsB, if_neg (by decide), if_neg ho]
        rw [e, if_neg (fun q => q.elim (by decide) ho)]
        refine e_aload_n rfl rfl ?_
        refine e_callV (kd := 6) (M2 := m6_drawn) rfl v0_167 ok6_drawn (c6_drawn h6) rfl (by assumption) rfl rfl rfl rfl (fun r1 h1 q1 => ?_)
        obtain ⟨rfl, rfl⟩ := q1
        rw [hJ]
        refine e_bipush (v := nI 100) rfl bp_100N ?_
        refine e_irem rfl (by first | assumption | decide) ?_
        refine e_iload_n rfl rfl ?_
        first | refine e_icmp_geN (tgt := 56) rfl rfl (by omega) (by omega) (fun z => ?_) (fun z => ?_) | refine e_icmp_ge (tgt := 56) rfl rfl (fun z => ?_) (fun z => ?_)
        · refine e_iconst (v := nI 0) rfl ic_0N ?_
          refine e_zreturn rfl rfl ?_ ?_
          · exact Or.inl rfl
          · rw [decide_eq_false (Int32.not_lt.mpr (by assumption))]; exact ⟨rfl, rfl⟩
        · refine e_iconst (v := nI 1) rfl ic_1N ?_
          refine e_goto (tgt := 57) rfl rfl ?_
          refine e_zreturn rfl rfl ?_ ?_
          · exact Or.inr rfl
          · rw [decide_eq_true (Int32.not_le.mp (by assumption))]; exact ⟨rfl, rfl⟩
      · exact big (Or.inr (by assumption))
  · have yd : dr = false := by assumption
    subst yd
    have e : rsB false S o = (decide (nI 50 ≤ o), S) := by rw [rsB, if_pos rfl]
    rw [e, if_pos (Or.inl rfl)]
    refine e_iload_n rfl rfl ?_
    refine e_bipush (v := nI 50) rfl bp_50N ?_
    first | refine e_icmp_ltN (tgt := 17) rfl rfl (by omega) (by omega) (fun z => ?_) (fun z => ?_) | refine e_icmp_lt (tgt := 17) rfl rfl (fun z => ?_) (fun z => ?_)
    · refine e_iconst (v := nI 0) rfl ic_0N ?_
      refine e_zreturn rfl rfl ?_ ?_
      · exact Or.inl rfl
      · rw [decide_eq_false (Int32.not_le.mpr (by assumption))]; exact ⟨rfl, rfl⟩
    · refine e_iconst (v := nI 1) rfl ic_1N ?_
      refine e_goto (tgt := 18) rfl rfl ?_
      refine e_zreturn rfl rfl ?_ ?_
      · exact Or.inr rfl
      · rw [decide_eq_true (Int32.not_lt.mp (by assumption))]; exact ⟨rfl, rfl⟩
end MDays2
end
