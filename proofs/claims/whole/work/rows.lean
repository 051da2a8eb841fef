section
-- ===== PART A: goes FIRST, ahead of the names: the tables' words, and 'selects' of the private methods out of them =====
/-- a private method of a class that the tables say can be made, by its rows of tables_1 -/
def lw_okq (q : MethodName × Nat) : Prop := (q.1.cls ≠ "java/lang/invoke/MethodHandle" ∧ q.1.cls ≠ "java/lang/invoke/VarHandle") ∧ Cond.instantiable q.1.cls q.2 ∈ tables_1 ∧ Cond.privateMethod q.1 ∈ tables_1 ∧ Cond.instanceMethod q.1 ∈ tables_1
theorem lw_p0 : lw_okq (⟨"TinNation", "tapeNumber", "(I)V"⟩, 13) := ⟨⟨by decide +kernel, by decide +kernel⟩, List.mem_of_getElem? (i := 26) (by decide +kernel), List.mem_of_getElem? (i := 458) (by decide +kernel), List.mem_of_getElem? (i := 459) (by decide +kernel)⟩
theorem lw_p1 : lw_okq (⟨"TinNation$Scanner", "takeWord", "()V"⟩, 7) := ⟨⟨by decide +kernel, by decide +kernel⟩, List.mem_of_getElem? (i := 160) (by decide +kernel), List.mem_of_getElem? (i := 487) (by decide +kernel), List.mem_of_getElem? (i := 488) (by decide +kernel)⟩
theorem lw_p2 : lw_okq (⟨"TinNation$Scanner", "takeNumber", "()V"⟩, 7) := ⟨⟨by decide +kernel, by decide +kernel⟩, List.mem_of_getElem? (i := 160) (by decide +kernel), List.mem_of_getElem? (i := 491) (by decide +kernel), List.mem_of_getElem? (i := 492) (by decide +kernel)⟩
theorem lw_p3 : lw_okq (⟨"TinNation$Scanner", "takeSign", "()V"⟩, 7) := ⟨⟨by decide +kernel, by decide +kernel⟩, List.mem_of_getElem? (i := 160) (by decide +kernel), List.mem_of_getElem? (i := 496) (by decide +kernel), List.mem_of_getElem? (i := 497) (by decide +kernel)⟩
theorem lw_p4 : lw_okq (⟨"TinNation$Parser", "line", "()V"⟩, 6) := ⟨⟨by decide +kernel, by decide +kernel⟩, List.mem_of_getElem? (i := 34) (by decide +kernel), List.mem_of_getElem? (i := 565) (by decide +kernel), List.mem_of_getElem? (i := 566) (by decide +kernel)⟩
theorem lw_p5 : lw_okq (⟨"TinNation$Parser", "kindLine", "()V"⟩, 6) := ⟨⟨by decide +kernel, by decide +kernel⟩, List.mem_of_getElem? (i := 34) (by decide +kernel), List.mem_of_getElem? (i := 569) (by decide +kernel), List.mem_of_getElem? (i := 570) (by decide +kernel)⟩
theorem lw_p6 : lw_okq (⟨"TinNation$Parser", "room", "(LTinNation$Rows;)V"⟩, 6) := ⟨⟨by decide +kernel, by decide +kernel⟩, List.mem_of_getElem? (i := 34) (by decide +kernel), List.mem_of_getElem? (i := 573) (by decide +kernel), List.mem_of_getElem? (i := 574) (by decide +kernel)⟩
theorem lw_p7 : lw_okq (⟨"TinNation$Parser", "fail", "(I)V"⟩, 6) := ⟨⟨by decide +kernel, by decide +kernel⟩, List.mem_of_getElem? (i := 34) (by decide +kernel), List.mem_of_getElem? (i := 581) (by decide +kernel), List.mem_of_getElem? (i := 582) (by decide +kernel)⟩
theorem lw_p8 : lw_okq (⟨"TinNation$Parser", "newName", "(LTinNation$Rows;)I"⟩, 6) := ⟨⟨by decide +kernel, by decide +kernel⟩, List.mem_of_getElem? (i := 34) (by decide +kernel), List.mem_of_getElem? (i := 585) (by decide +kernel), List.mem_of_getElem? (i := 586) (by decide +kernel)⟩
theorem lw_p9 : lw_okq (⟨"TinNation$Parser", "number", "(II)I"⟩, 6) := ⟨⟨by decide +kernel, by decide +kernel⟩, List.mem_of_getElem? (i := 34) (by decide +kernel), List.mem_of_getElem? (i := 593) (by decide +kernel), List.mem_of_getElem? (i := 594) (by decide +kernel)⟩
theorem lw_p10 : lw_okq (⟨"TinNation$Parser", "tinLine", "()V"⟩, 6) := ⟨⟨by decide +kernel, by decide +kernel⟩, List.mem_of_getElem? (i := 34) (by decide +kernel), List.mem_of_getElem? (i := 606) (by decide +kernel), List.mem_of_getElem? (i := 607) (by decide +kernel)⟩
theorem lw_p11 : lw_okq (⟨"TinNation$Parser", "toldName", "(LTinNation$Rows;)I"⟩, 6) := ⟨⟨by decide +kernel, by decide +kernel⟩, List.mem_of_getElem? (i := 34) (by decide +kernel), List.mem_of_getElem? (i := 610) (by decide +kernel), List.mem_of_getElem? (i := 611) (by decide +kernel)⟩
theorem lw_p12 : lw_okq (⟨"TinNation$Parser", "openLine", "()V"⟩, 6) := ⟨⟨by decide +kernel, by decide +kernel⟩, List.mem_of_getElem? (i := 34) (by decide +kernel), List.mem_of_getElem? (i := 615) (by decide +kernel), List.mem_of_getElem? (i := 616) (by decide +kernel)⟩
theorem lw_p13 : lw_okq (⟨"TinNation$Parser", "wantLine", "()V"⟩, 6) := ⟨⟨by decide +kernel, by decide +kernel⟩, List.mem_of_getElem? (i := 34) (by decide +kernel), List.mem_of_getElem? (i := 619) (by decide +kernel), List.mem_of_getElem? (i := 620) (by decide +kernel)⟩
theorem lw_p14 : lw_okq (⟨"TinNation$Parser", "onceLine", "(I)I"⟩, 6) := ⟨⟨by decide +kernel, by decide +kernel⟩, List.mem_of_getElem? (i := 34) (by decide +kernel), List.mem_of_getElem? (i := 623) (by decide +kernel), List.mem_of_getElem? (i := 624) (by decide +kernel)⟩
theorem lw_p15 : lw_okq (⟨"TinNation$Parser", "lawLine", "()V"⟩, 6) := ⟨⟨by decide +kernel, by decide +kernel⟩, List.mem_of_getElem? (i := 34) (by decide +kernel), List.mem_of_getElem? (i := 628) (by decide +kernel), List.mem_of_getElem? (i := 629) (by decide +kernel)⟩
def lw_privs_1 : List (MethodName × Nat) := [(⟨"TinNation", "tapeNumber", "(I)V"⟩, 13), (⟨"TinNation$Scanner", "takeWord", "()V"⟩, 7), (⟨"TinNation$Scanner", "takeNumber", "()V"⟩, 7), (⟨"TinNation$Scanner", "takeSign", "()V"⟩, 7), (⟨"TinNation$Parser", "line", "()V"⟩, 6), (⟨"TinNation$Parser", "kindLine", "()V"⟩, 6), (⟨"TinNation$Parser", "room", "(LTinNation$Rows;)V"⟩, 6), (⟨"TinNation$Parser", "fail", "(I)V"⟩, 6), (⟨"TinNation$Parser", "newName", "(LTinNation$Rows;)I"⟩, 6), (⟨"TinNation$Parser", "number", "(II)I"⟩, 6), (⟨"TinNation$Parser", "tinLine", "()V"⟩, 6), (⟨"TinNation$Parser", "toldName", "(LTinNation$Rows;)I"⟩, 6), (⟨"TinNation$Parser", "openLine", "()V"⟩, 6), (⟨"TinNation$Parser", "wantLine", "()V"⟩, 6), (⟨"TinNation$Parser", "onceLine", "(I)I"⟩, 6), (⟨"TinNation$Parser", "lawLine", "()V"⟩, 6)]
theorem lw_r1 : ∀ q ∈ lw_privs_1, lw_okq q := List.forall_mem_cons.mpr ⟨lw_p0, List.forall_mem_cons.mpr ⟨lw_p1, List.forall_mem_cons.mpr ⟨lw_p2, List.forall_mem_cons.mpr ⟨lw_p3, List.forall_mem_cons.mpr ⟨lw_p4, List.forall_mem_cons.mpr ⟨lw_p5, List.forall_mem_cons.mpr ⟨lw_p6, List.forall_mem_cons.mpr ⟨lw_p7, List.forall_mem_cons.mpr ⟨lw_p8, List.forall_mem_cons.mpr ⟨lw_p9, List.forall_mem_cons.mpr ⟨lw_p10, List.forall_mem_cons.mpr ⟨lw_p11, List.forall_mem_cons.mpr ⟨lw_p12, List.forall_mem_cons.mpr ⟨lw_p13, List.forall_mem_cons.mpr ⟨lw_p14, List.forall_mem_cons.mpr ⟨lw_p15, fun _ h => absurd h List.not_mem_nil⟩⟩⟩⟩⟩⟩⟩⟩⟩⟩⟩⟩⟩⟩⟩⟩
theorem lw_p16 : lw_okq (⟨"TinNation$Parser", "either", "(I)V"⟩, 6) := ⟨⟨by decide +kernel, by decide +kernel⟩, List.mem_of_getElem? (i := 34) (by decide +kernel), List.mem_of_getElem? (i := 643) (by decide +kernel), List.mem_of_getElem? (i := 644) (by decide +kernel)⟩
theorem lw_p17 : lw_okq (⟨"TinNation$Parser", "both", "(I)V"⟩, 6) := ⟨⟨by decide +kernel, by decide +kernel⟩, List.mem_of_getElem? (i := 34) (by decide +kernel), List.mem_of_getElem? (i := 647) (by decide +kernel), List.mem_of_getElem? (i := 648) (by decide +kernel)⟩
theorem lw_p18 : lw_okq (⟨"TinNation$Parser", "denied", "(I)V"⟩, 6) := ⟨⟨by decide +kernel, by decide +kernel⟩, List.mem_of_getElem? (i := 34) (by decide +kernel), List.mem_of_getElem? (i := 651) (by decide +kernel), List.mem_of_getElem? (i := 652) (by decide +kernel)⟩
theorem lw_p19 : lw_okq (⟨"TinNation$Parser", "knot", "()V"⟩, 6) := ⟨⟨by decide +kernel, by decide +kernel⟩, List.mem_of_getElem? (i := 34) (by decide +kernel), List.mem_of_getElem? (i := 655) (by decide +kernel), List.mem_of_getElem? (i := 656) (by decide +kernel)⟩
theorem lw_p20 : lw_okq (⟨"TinNation$Parser", "compared", "(I)V"⟩, 6) := ⟨⟨by decide +kernel, by decide +kernel⟩, List.mem_of_getElem? (i := 34) (by decide +kernel), List.mem_of_getElem? (i := 659) (by decide +kernel), List.mem_of_getElem? (i := 660) (by decide +kernel)⟩
theorem lw_p21 : lw_okq (⟨"TinNation$Parser", "sum", "(I)V"⟩, 6) := ⟨⟨by decide +kernel, by decide +kernel⟩, List.mem_of_getElem? (i := 34) (by decide +kernel), List.mem_of_getElem? (i := 663) (by decide +kernel), List.mem_of_getElem? (i := 664) (by decide +kernel)⟩
theorem lw_p22 : lw_okq (⟨"TinNation$Parser", "product", "(I)V"⟩, 6) := ⟨⟨by decide +kernel, by decide +kernel⟩, List.mem_of_getElem? (i := 34) (by decide +kernel), List.mem_of_getElem? (i := 667) (by decide +kernel), List.mem_of_getElem? (i := 668) (by decide +kernel)⟩
theorem lw_p23 : lw_okq (⟨"TinNation$Parser", "part", "(I)V"⟩, 6) := ⟨⟨by decide +kernel, by decide +kernel⟩, List.mem_of_getElem? (i := 34) (by decide +kernel), List.mem_of_getElem? (i := 671) (by decide +kernel), List.mem_of_getElem? (i := 672) (by decide +kernel)⟩
theorem lw_p24 : lw_okq (⟨"TinNation$Parser", "emit", "(I)V"⟩, 6) := ⟨⟨by decide +kernel, by decide +kernel⟩, List.mem_of_getElem? (i := 34) (by decide +kernel), List.mem_of_getElem? (i := 675) (by decide +kernel), List.mem_of_getElem? (i := 676) (by decide +kernel)⟩
theorem lw_p25 : lw_okq (⟨"TinNation$Parser", "bracket", "(I)V"⟩, 6) := ⟨⟨by decide +kernel, by decide +kernel⟩, List.mem_of_getElem? (i := 34) (by decide +kernel), List.mem_of_getElem? (i := 683) (by decide +kernel), List.mem_of_getElem? (i := 684) (by decide +kernel)⟩
theorem lw_p26 : lw_okq (⟨"TinNation$Parser", "expect", "(I)V"⟩, 6) := ⟨⟨by decide +kernel, by decide +kernel⟩, List.mem_of_getElem? (i := 34) (by decide +kernel), List.mem_of_getElem? (i := 687) (by decide +kernel), List.mem_of_getElem? (i := 688) (by decide +kernel)⟩
theorem lw_p27 : lw_okq (⟨"TinNation", "tinsOf", "(II)I"⟩, 13) := ⟨⟨by decide +kernel, by decide +kernel⟩, List.mem_of_getElem? (i := 26) (by decide +kernel), List.mem_of_getElem? (i := 738) (by decide +kernel), List.mem_of_getElem? (i := 739) (by decide +kernel)⟩
theorem lw_p28 : lw_okq (⟨"TinNation$Days", "openTold", "(LTinNation$State;)V"⟩, 5) := ⟨⟨by decide +kernel, by decide +kernel⟩, List.mem_of_getElem? (i := 257) (by decide +kernel), List.mem_of_getElem? (i := 850) (by decide +kernel), List.mem_of_getElem? (i := 851) (by decide +kernel)⟩
theorem lw_p29 : lw_okq (⟨"TinNation$Days", "serve", "(LTinNation$State;)V"⟩, 5) := ⟨⟨by decide +kernel, by decide +kernel⟩, List.mem_of_getElem? (i := 257) (by decide +kernel), List.mem_of_getElem? (i := 858) (by decide +kernel), List.mem_of_getElem? (i := 859) (by decide +kernel)⟩
theorem lw_p30 : lw_okq (⟨"TinNation$Days", "server", "(LTinNation$State;II)I"⟩, 5) := ⟨⟨by decide +kernel, by decide +kernel⟩, List.mem_of_getElem? (i := 257) (by decide +kernel), List.mem_of_getElem? (i := 862) (by decide +kernel), List.mem_of_getElem? (i := 863) (by decide +kernel)⟩
theorem lw_p31 : lw_okq (⟨"TinNation$Days", "goOff", "(LTinNation$State;)V"⟩, 5) := ⟨⟨by decide +kernel, by decide +kernel⟩, List.mem_of_getElem? (i := 257) (by decide +kernel), List.mem_of_getElem? (i := 867) (by decide +kernel), List.mem_of_getElem? (i := 868) (by decide +kernel)⟩
def lw_privs_2 : List (MethodName × Nat) := [(⟨"TinNation$Parser", "either", "(I)V"⟩, 6), (⟨"TinNation$Parser", "both", "(I)V"⟩, 6), (⟨"TinNation$Parser", "denied", "(I)V"⟩, 6), (⟨"TinNation$Parser", "knot", "()V"⟩, 6), (⟨"TinNation$Parser", "compared", "(I)V"⟩, 6), (⟨"TinNation$Parser", "sum", "(I)V"⟩, 6), (⟨"TinNation$Parser", "product", "(I)V"⟩, 6), (⟨"TinNation$Parser", "part", "(I)V"⟩, 6), (⟨"TinNation$Parser", "emit", "(I)V"⟩, 6), (⟨"TinNation$Parser", "bracket", "(I)V"⟩, 6), (⟨"TinNation$Parser", "expect", "(I)V"⟩, 6), (⟨"TinNation", "tinsOf", "(II)I"⟩, 13), (⟨"TinNation$Days", "openTold", "(LTinNation$State;)V"⟩, 5), (⟨"TinNation$Days", "serve", "(LTinNation$State;)V"⟩, 5), (⟨"TinNation$Days", "server", "(LTinNation$State;II)I"⟩, 5), (⟨"TinNation$Days", "goOff", "(LTinNation$State;)V"⟩, 5)]
theorem lw_r2 : ∀ q ∈ lw_privs_2, lw_okq q := List.forall_mem_cons.mpr ⟨lw_p16, List.forall_mem_cons.mpr ⟨lw_p17, List.forall_mem_cons.mpr ⟨lw_p18, List.forall_mem_cons.mpr ⟨lw_p19, List.forall_mem_cons.mpr ⟨lw_p20, List.forall_mem_cons.mpr ⟨lw_p21, List.forall_mem_cons.mpr ⟨lw_p22, List.forall_mem_cons.mpr ⟨lw_p23, List.forall_mem_cons.mpr ⟨lw_p24, List.forall_mem_cons.mpr ⟨lw_p25, List.forall_mem_cons.mpr ⟨lw_p26, List.forall_mem_cons.mpr ⟨lw_p27, List.forall_mem_cons.mpr ⟨lw_p28, List.forall_mem_cons.mpr ⟨lw_p29, List.forall_mem_cons.mpr ⟨lw_p30, List.forall_mem_cons.mpr ⟨lw_p31, fun _ h => absurd h List.not_mem_nil⟩⟩⟩⟩⟩⟩⟩⟩⟩⟩⟩⟩⟩⟩⟩⟩
theorem lw_p32 : lw_okq (⟨"TinNation$Days", "rust", "(LTinNation$State;)V"⟩, 5) := ⟨⟨by decide +kernel, by decide +kernel⟩, List.mem_of_getElem? (i := 257) (by decide +kernel), List.mem_of_getElem? (i := 871) (by decide +kernel), List.mem_of_getElem? (i := 872) (by decide +kernel)⟩
theorem lw_p33 : lw_okq (⟨"TinNation$Days", "rusts", "(LTinNation$State;I)Z"⟩, 5) := ⟨⟨by decide +kernel, by decide +kernel⟩, List.mem_of_getElem? (i := 257) (by decide +kernel), List.mem_of_getElem? (i := 876) (by decide +kernel), List.mem_of_getElem? (i := 877) (by decide +kernel)⟩
theorem lw_p34 : lw_okq (⟨"TinNation$Days", "blow", "(LTinNation$State;)V"⟩, 5) := ⟨⟨by decide +kernel, by decide +kernel⟩, List.mem_of_getElem? (i := 257) (by decide +kernel), List.mem_of_getElem? (i := 889) (by decide +kernel), List.mem_of_getElem? (i := 890) (by decide +kernel)⟩
theorem lw_p35 : lw_okq (⟨"TinNation", "firstClosed", "()I"⟩, 13) := ⟨⟨by decide +kernel, by decide +kernel⟩, List.mem_of_getElem? (i := 26) (by decide +kernel), List.mem_of_getElem? (i := 919) (by decide +kernel), List.mem_of_getElem? (i := 920) (by decide +kernel)⟩
theorem lw_p36 : lw_okq (⟨"TinNation", "gainedInRow", "(I)I"⟩, 13) := ⟨⟨by decide +kernel, by decide +kernel⟩, List.mem_of_getElem? (i := 26) (by decide +kernel), List.mem_of_getElem? (i := 923) (by decide +kernel), List.mem_of_getElem? (i := 924) (by decide +kernel)⟩
theorem lw_p37 : lw_okq (⟨"TinNation", "nextRow", "(I)Z"⟩, 13) := ⟨⟨by decide +kernel, by decide +kernel⟩, List.mem_of_getElem? (i := 26) (by decide +kernel), List.mem_of_getElem? (i := 936) (by decide +kernel), List.mem_of_getElem? (i := 937) (by decide +kernel)⟩
theorem lw_p38 : lw_okq (⟨"TinNation", "swapInRow", "(II)V"⟩, 13) := ⟨⟨by decide +kernel, by decide +kernel⟩, List.mem_of_getElem? (i := 26) (by decide +kernel), List.mem_of_getElem? (i := 941) (by decide +kernel), List.mem_of_getElem? (i := 942) (by decide +kernel)⟩
theorem lw_p39 : lw_okq (⟨"TinNation", "gainedByOpening", "(II)I"⟩, 13) := ⟨⟨by decide +kernel, by decide +kernel⟩, List.mem_of_getElem? (i := 26) (by decide +kernel), List.mem_of_getElem? (i := 949) (by decide +kernel), List.mem_of_getElem? (i := 950) (by decide +kernel)⟩
theorem lw_p40 : lw_okq (⟨"TinNation", "takenOut", "(II)I"⟩, 13) := ⟨⟨by decide +kernel, by decide +kernel⟩, List.mem_of_getElem? (i := 26) (by decide +kernel), List.mem_of_getElem? (i := 957) (by decide +kernel), List.mem_of_getElem? (i := 958) (by decide +kernel)⟩
theorem lw_p41 : lw_okq (⟨"TinNation", "isBelowLonger", "(I)Z"⟩, 13) := ⟨⟨by decide +kernel, by decide +kernel⟩, List.mem_of_getElem? (i := 26) (by decide +kernel), List.mem_of_getElem? (i := 961) (by decide +kernel), List.mem_of_getElem? (i := 962) (by decide +kernel)⟩
theorem lw_p42 : lw_okq (⟨"TinNation", "isSeenSo", "(I)Z"⟩, 13) := ⟨⟨by decide +kernel, by decide +kernel⟩, List.mem_of_getElem? (i := 26) (by decide +kernel), List.mem_of_getElem? (i := 1057) (by decide +kernel), List.mem_of_getElem? (i := 1058) (by decide +kernel)⟩
theorem lw_p43 : lw_okq (⟨"TinNation$Steps", "takeBackOfTin", "(LTinNation$State;II)V"⟩, 1) := ⟨⟨by decide +kernel, by decide +kernel⟩, List.mem_of_getElem? (i := 382) (by decide +kernel), List.mem_of_getElem? (i := 1093) (by decide +kernel), List.mem_of_getElem? (i := 1094) (by decide +kernel)⟩
theorem lw_p44 : lw_okq (⟨"java/lang/Throwable", "fillInStackTrace", "(I)Ljava/lang/Throwable;"⟩, 6) := ⟨⟨by decide +kernel, by decide +kernel⟩, List.mem_of_getElem? (i := 1157) (by decide +kernel), List.mem_of_getElem? (i := 1155) (by decide +kernel), List.mem_of_getElem? (i := 1156) (by decide +kernel)⟩
theorem lw_p45 : lw_okq (⟨"TinNationModel", "begins", "()V"⟩, 66) := ⟨⟨by decide +kernel, by decide +kernel⟩, List.mem_of_getElem? (i := 1202) (by decide +kernel), List.mem_of_getElem? (i := 1208) (by decide +kernel), List.mem_of_getElem? (i := 1209) (by decide +kernel)⟩
theorem lw_p46 : lw_okq (⟨"TinNationModel", "starts", "(I)V"⟩, 66) := ⟨⟨by decide +kernel, by decide +kernel⟩, List.mem_of_getElem? (i := 1202) (by decide +kernel), List.mem_of_getElem? (i := 1212) (by decide +kernel), List.mem_of_getElem? (i := 1213) (by decide +kernel)⟩
theorem lw_p47 : lw_okq (⟨"TinNationModel", "reads", "(II)V"⟩, 66) := ⟨⟨by decide +kernel, by decide +kernel⟩, List.mem_of_getElem? (i := 1202) (by decide +kernel), List.mem_of_getElem? (i := 1428) (by decide +kernel), List.mem_of_getElem? (i := 1429) (by decide +kernel)⟩
def lw_privs_3 : List (MethodName × Nat) := [(⟨"TinNation$Days", "rust", "(LTinNation$State;)V"⟩, 5), (⟨"TinNation$Days", "rusts", "(LTinNation$State;I)Z"⟩, 5), (⟨"TinNation$Days", "blow", "(LTinNation$State;)V"⟩, 5), (⟨"TinNation", "firstClosed", "()I"⟩, 13), (⟨"TinNation", "gainedInRow", "(I)I"⟩, 13), (⟨"TinNation", "nextRow", "(I)Z"⟩, 13), (⟨"TinNation", "swapInRow", "(II)V"⟩, 13), (⟨"TinNation", "gainedByOpening", "(II)I"⟩, 13), (⟨"TinNation", "takenOut", "(II)I"⟩, 13), (⟨"TinNation", "isBelowLonger", "(I)Z"⟩, 13), (⟨"TinNation", "isSeenSo", "(I)Z"⟩, 13), (⟨"TinNation$Steps", "takeBackOfTin", "(LTinNation$State;II)V"⟩, 1), (⟨"java/lang/Throwable", "fillInStackTrace", "(I)Ljava/lang/Throwable;"⟩, 6), (⟨"TinNationModel", "begins", "()V"⟩, 66), (⟨"TinNationModel", "starts", "(I)V"⟩, 66), (⟨"TinNationModel", "reads", "(II)V"⟩, 66)]
theorem lw_r3 : ∀ q ∈ lw_privs_3, lw_okq q := List.forall_mem_cons.mpr ⟨lw_p32, List.forall_mem_cons.mpr ⟨lw_p33, List.forall_mem_cons.mpr ⟨lw_p34, List.forall_mem_cons.mpr ⟨lw_p35, List.forall_mem_cons.mpr ⟨lw_p36, List.forall_mem_cons.mpr ⟨lw_p37, List.forall_mem_cons.mpr ⟨lw_p38, List.forall_mem_cons.mpr ⟨lw_p39, List.forall_mem_cons.mpr ⟨lw_p40, List.forall_mem_cons.mpr ⟨lw_p41, List.forall_mem_cons.mpr ⟨lw_p42, List.forall_mem_cons.mpr ⟨lw_p43, List.forall_mem_cons.mpr ⟨lw_p44, List.forall_mem_cons.mpr ⟨lw_p45, List.forall_mem_cons.mpr ⟨lw_p46, List.forall_mem_cons.mpr ⟨lw_p47, fun _ h => absurd h List.not_mem_nil⟩⟩⟩⟩⟩⟩⟩⟩⟩⟩⟩⟩⟩⟩⟩⟩
theorem lw_p48 : lw_okq (⟨"TinNationModel", "token", "()V"⟩, 66) := ⟨⟨by decide +kernel, by decide +kernel⟩, List.mem_of_getElem? (i := 1202) (by decide +kernel), List.mem_of_getElem? (i := 1432) (by decide +kernel), List.mem_of_getElem? (i := 1433) (by decide +kernel)⟩
theorem lw_p49 : lw_okq (⟨"TinNationModel", "here", "()I"⟩, 66) := ⟨⟨by decide +kernel, by decide +kernel⟩, List.mem_of_getElem? (i := 1202) (by decide +kernel), List.mem_of_getElem? (i := 1436) (by decide +kernel), List.mem_of_getElem? (i := 1437) (by decide +kernel)⟩
theorem lw_p50 : lw_okq (⟨"TinNationModel", "word", "()I"⟩, 66) := ⟨⟨by decide +kernel, by decide +kernel⟩, List.mem_of_getElem? (i := 1202) (by decide +kernel), List.mem_of_getElem? (i := 1443) (by decide +kernel), List.mem_of_getElem? (i := 1444) (by decide +kernel)⟩
theorem lw_p51 : lw_okq (⟨"TinNationModel", "name", "()V"⟩, 66) := ⟨⟨by decide +kernel, by decide +kernel⟩, List.mem_of_getElem? (i := 1202) (by decide +kernel), List.mem_of_getElem? (i := 1450) (by decide +kernel), List.mem_of_getElem? (i := 1451) (by decide +kernel)⟩
theorem lw_p52 : lw_okq (⟨"TinNationModel", "sign", "(I)V"⟩, 66) := ⟨⟨by decide +kernel, by decide +kernel⟩, List.mem_of_getElem? (i := 1202) (by decide +kernel), List.mem_of_getElem? (i := 1458) (by decide +kernel), List.mem_of_getElem? (i := 1459) (by decide +kernel)⟩
theorem lw_p53 : lw_okq (⟨"TinNationModel", "line", "()V"⟩, 66) := ⟨⟨by decide +kernel, by decide +kernel⟩, List.mem_of_getElem? (i := 1202) (by decide +kernel), List.mem_of_getElem? (i := 1462) (by decide +kernel), List.mem_of_getElem? (i := 1463) (by decide +kernel)⟩
theorem lw_p54 : lw_okq (⟨"TinNationModel", "wrong", "(I)V"⟩, 66) := ⟨⟨by decide +kernel, by decide +kernel⟩, List.mem_of_getElem? (i := 1202) (by decide +kernel), List.mem_of_getElem? (i := 1466) (by decide +kernel), List.mem_of_getElem? (i := 1467) (by decide +kernel)⟩
theorem lw_p55 : lw_okq (⟨"TinNationModel", "isFull", "(I)Z"⟩, 66) := ⟨⟨by decide +kernel, by decide +kernel⟩, List.mem_of_getElem? (i := 1202) (by decide +kernel), List.mem_of_getElem? (i := 1470) (by decide +kernel), List.mem_of_getElem? (i := 1471) (by decide +kernel)⟩
theorem lw_p56 : lw_okq (⟨"TinNationModel", "fresher", "(I)I"⟩, 66) := ⟨⟨by decide +kernel, by decide +kernel⟩, List.mem_of_getElem? (i := 1202) (by decide +kernel), List.mem_of_getElem? (i := 1474) (by decide +kernel), List.mem_of_getElem? (i := 1475) (by decide +kernel)⟩
theorem lw_p57 : lw_okq (⟨"TinNationModel", "fresh", "([III)I"⟩, 66) := ⟨⟨by decide +kernel, by decide +kernel⟩, List.mem_of_getElem? (i := 1202) (by decide +kernel), List.mem_of_getElem? (i := 1478) (by decide +kernel), List.mem_of_getElem? (i := 1479) (by decide +kernel)⟩
theorem lw_p58 : lw_okq (⟨"TinNationModel", "numeral", "(II)I"⟩, 66) := ⟨⟨by decide +kernel, by decide +kernel⟩, List.mem_of_getElem? (i := 1202) (by decide +kernel), List.mem_of_getElem? (i := 1485) (by decide +kernel), List.mem_of_getElem? (i := 1486) (by decide +kernel)⟩
theorem lw_p59 : lw_okq (⟨"TinNationModel", "toldAhead", "([III)I"⟩, 66) := ⟨⟨by decide +kernel, by decide +kernel⟩, List.mem_of_getElem? (i := 1202) (by decide +kernel), List.mem_of_getElem? (i := 1489) (by decide +kernel), List.mem_of_getElem? (i := 1490) (by decide +kernel)⟩
theorem lw_p60 : lw_okq (⟨"TinNationModel", "goOn", "()V"⟩, 66) := ⟨⟨by decide +kernel, by decide +kernel⟩, List.mem_of_getElem? (i := 1202) (by decide +kernel), List.mem_of_getElem? (i := 1493) (by decide +kernel), List.mem_of_getElem? (i := 1494) (by decide +kernel)⟩
theorem lw_p61 : lw_okq (⟨"TinNationModel", "lawLine", "()V"⟩, 66) := ⟨⟨by decide +kernel, by decide +kernel⟩, List.mem_of_getElem? (i := 1202) (by decide +kernel), List.mem_of_getElem? (i := 1497) (by decide +kernel), List.mem_of_getElem? (i := 1498) (by decide +kernel)⟩
theorem lw_p62 : lw_okq (⟨"TinNationModel", "expression", "()V"⟩, 66) := ⟨⟨by decide +kernel, by decide +kernel⟩, List.mem_of_getElem? (i := 1202) (by decide +kernel), List.mem_of_getElem? (i := 1501) (by decide +kernel), List.mem_of_getElem? (i := 1502) (by decide +kernel)⟩
theorem lw_p63 : lw_okq (⟨"TinNationModel", "conjunction", "()V"⟩, 66) := ⟨⟨by decide +kernel, by decide +kernel⟩, List.mem_of_getElem? (i := 1202) (by decide +kernel), List.mem_of_getElem? (i := 1505) (by decide +kernel), List.mem_of_getElem? (i := 1506) (by decide +kernel)⟩
def lw_privs_4 : List (MethodName × Nat) := [(⟨"TinNationModel", "token", "()V"⟩, 66), (⟨"TinNationModel", "here", "()I"⟩, 66), (⟨"TinNationModel", "word", "()I"⟩, 66), (⟨"TinNationModel", "name", "()V"⟩, 66), (⟨"TinNationModel", "sign", "(I)V"⟩, 66), (⟨"TinNationModel", "line", "()V"⟩, 66), (⟨"TinNationModel", "wrong", "(I)V"⟩, 66), (⟨"TinNationModel", "isFull", "(I)Z"⟩, 66), (⟨"TinNationModel", "fresher", "(I)I"⟩, 66), (⟨"TinNationModel", "fresh", "([III)I"⟩, 66), (⟨"TinNationModel", "numeral", "(II)I"⟩, 66), (⟨"TinNationModel", "toldAhead", "([III)I"⟩, 66), (⟨"TinNationModel", "goOn", "()V"⟩, 66), (⟨"TinNationModel", "lawLine", "()V"⟩, 66), (⟨"TinNationModel", "expression", "()V"⟩, 66), (⟨"TinNationModel", "conjunction", "()V"⟩, 66)]
theorem lw_r4 : ∀ q ∈ lw_privs_4, lw_okq q := List.forall_mem_cons.mpr ⟨lw_p48, List.forall_mem_cons.mpr ⟨lw_p49, List.forall_mem_cons.mpr ⟨lw_p50, List.forall_mem_cons.mpr ⟨lw_p51, List.forall_mem_cons.mpr ⟨lw_p52, List.forall_mem_cons.mpr ⟨lw_p53, List.forall_mem_cons.mpr ⟨lw_p54, List.forall_mem_cons.mpr ⟨lw_p55, List.forall_mem_cons.mpr ⟨lw_p56, List.forall_mem_cons.mpr ⟨lw_p57, List.forall_mem_cons.mpr ⟨lw_p58, List.forall_mem_cons.mpr ⟨lw_p59, List.forall_mem_cons.mpr ⟨lw_p60, List.forall_mem_cons.mpr ⟨lw_p61, List.forall_mem_cons.mpr ⟨lw_p62, List.forall_mem_cons.mpr ⟨lw_p63, fun _ h => absurd h List.not_mem_nil⟩⟩⟩⟩⟩⟩⟩⟩⟩⟩⟩⟩⟩⟩⟩⟩
theorem lw_p64 : lw_okq (⟨"TinNationModel", "negation", "()V"⟩, 66) := ⟨⟨by decide +kernel, by decide +kernel⟩, List.mem_of_getElem? (i := 1202) (by decide +kernel), List.mem_of_getElem? (i := 1509) (by decide +kernel), List.mem_of_getElem? (i := 1510) (by decide +kernel)⟩
theorem lw_p65 : lw_okq (⟨"TinNationModel", "isWord", "(I)Z"⟩, 66) := ⟨⟨by decide +kernel, by decide +kernel⟩, List.mem_of_getElem? (i := 1202) (by decide +kernel), List.mem_of_getElem? (i := 1513) (by decide +kernel), List.mem_of_getElem? (i := 1514) (by decide +kernel)⟩
theorem lw_p66 : lw_okq (⟨"TinNationModel", "knot", "()V"⟩, 66) := ⟨⟨by decide +kernel, by decide +kernel⟩, List.mem_of_getElem? (i := 1202) (by decide +kernel), List.mem_of_getElem? (i := 1517) (by decide +kernel), List.mem_of_getElem? (i := 1518) (by decide +kernel)⟩
theorem lw_p67 : lw_okq (⟨"TinNationModel", "puts", "(II)V"⟩, 66) := ⟨⟨by decide +kernel, by decide +kernel⟩, List.mem_of_getElem? (i := 1202) (by decide +kernel), List.mem_of_getElem? (i := 1521) (by decide +kernel), List.mem_of_getElem? (i := 1522) (by decide +kernel)⟩
theorem lw_p68 : lw_okq (⟨"TinNationModel", "sum", "()V"⟩, 66) := ⟨⟨by decide +kernel, by decide +kernel⟩, List.mem_of_getElem? (i := 1202) (by decide +kernel), List.mem_of_getElem? (i := 1525) (by decide +kernel), List.mem_of_getElem? (i := 1526) (by decide +kernel)⟩
theorem lw_p69 : lw_okq (⟨"TinNationModel", "product", "()V"⟩, 66) := ⟨⟨by decide +kernel, by decide +kernel⟩, List.mem_of_getElem? (i := 1202) (by decide +kernel), List.mem_of_getElem? (i := 1529) (by decide +kernel), List.mem_of_getElem? (i := 1530) (by decide +kernel)⟩
theorem lw_p70 : lw_okq (⟨"TinNationModel", "primary", "()V"⟩, 66) := ⟨⟨by decide +kernel, by decide +kernel⟩, List.mem_of_getElem? (i := 1202) (by decide +kernel), List.mem_of_getElem? (i := 1533) (by decide +kernel), List.mem_of_getElem? (i := 1534) (by decide +kernel)⟩
theorem lw_p71 : lw_okq (⟨"TinNationModel", "isSign", "(I)Z"⟩, 66) := ⟨⟨by decide +kernel, by decide +kernel⟩, List.mem_of_getElem? (i := 1202) (by decide +kernel), List.mem_of_getElem? (i := 1537) (by decide +kernel), List.mem_of_getElem? (i := 1538) (by decide +kernel)⟩
theorem lw_p72 : lw_okq (⟨"TinNationModel", "isTin", "(I)Z"⟩, 66) := ⟨⟨by decide +kernel, by decide +kernel⟩, List.mem_of_getElem? (i := 1202) (by decide +kernel), List.mem_of_getElem? (i := 1556) (by decide +kernel), List.mem_of_getElem? (i := 1557) (by decide +kernel)⟩
theorem lw_p73 : lw_okq (⟨"TinNationModel", "isKind", "(I)Z"⟩, 66) := ⟨⟨by decide +kernel, by decide +kernel⟩, List.mem_of_getElem? (i := 1202) (by decide +kernel), List.mem_of_getElem? (i := 1564) (by decide +kernel), List.mem_of_getElem? (i := 1565) (by decide +kernel)⟩
theorem lw_p74 : lw_okq (⟨"TinNationModel", "setOf", "(II)I"⟩, 66) := ⟨⟨by decide +kernel, by decide +kernel⟩, List.mem_of_getElem? (i := 1202) (by decide +kernel), List.mem_of_getElem? (i := 1568) (by decide +kernel), List.mem_of_getElem? (i := 1569) (by decide +kernel)⟩
theorem lw_p75 : lw_okq (⟨"TinNationModel", "isOnTop", "(II)Z"⟩, 66) := ⟨⟨by decide +kernel, by decide +kernel⟩, List.mem_of_getElem? (i := 1202) (by decide +kernel), List.mem_of_getElem? (i := 1583) (by decide +kernel), List.mem_of_getElem? (i := 1584) (by decide +kernel)⟩
theorem lw_p76 : lw_okq (⟨"TinNationModel", "isClosed", "(II)Z"⟩, 66) := ⟨⟨by decide +kernel, by decide +kernel⟩, List.mem_of_getElem? (i := 1202) (by decide +kernel), List.mem_of_getElem? (i := 1587) (by decide +kernel), List.mem_of_getElem? (i := 1588) (by decide +kernel)⟩
theorem lw_p77 : lw_okq (⟨"TinNationModel", "aboveOf", "(II)I"⟩, 66) := ⟨⟨by decide +kernel, by decide +kernel⟩, List.mem_of_getElem? (i := 1202) (by decide +kernel), List.mem_of_getElem? (i := 1591) (by decide +kernel), List.mem_of_getElem? (i := 1592) (by decide +kernel)⟩
theorem lw_p78 : lw_okq (⟨"TinNationModel", "hasLaw", "(I)Z"⟩, 66) := ⟨⟨by decide +kernel, by decide +kernel⟩, List.mem_of_getElem? (i := 1202) (by decide +kernel), List.mem_of_getElem? (i := 1599) (by decide +kernel), List.mem_of_getElem? (i := 1600) (by decide +kernel)⟩
theorem lw_p79 : lw_okq (⟨"TinNationModel", "calls", "(III)V"⟩, 66) := ⟨⟨by decide +kernel, by decide +kernel⟩, List.mem_of_getElem? (i := 1202) (by decide +kernel), List.mem_of_getElem? (i := 1604) (by decide +kernel), List.mem_of_getElem? (i := 1605) (by decide +kernel)⟩
def lw_privs_5 : List (MethodName × Nat) := [(⟨"TinNationModel", "negation", "()V"⟩, 66), (⟨"TinNationModel", "isWord", "(I)Z"⟩, 66), (⟨"TinNationModel", "knot", "()V"⟩, 66), (⟨"TinNationModel", "puts", "(II)V"⟩, 66), (⟨"TinNationModel", "sum", "()V"⟩, 66), (⟨"TinNationModel", "product", "()V"⟩, 66), (⟨"TinNationModel", "primary", "()V"⟩, 66), (⟨"TinNationModel", "isSign", "(I)Z"⟩, 66), (⟨"TinNationModel", "isTin", "(I)Z"⟩, 66), (⟨"TinNationModel", "isKind", "(I)Z"⟩, 66), (⟨"TinNationModel", "setOf", "(II)I"⟩, 66), (⟨"TinNationModel", "isOnTop", "(II)Z"⟩, 66), (⟨"TinNationModel", "isClosed", "(II)Z"⟩, 66), (⟨"TinNationModel", "aboveOf", "(II)I"⟩, 66), (⟨"TinNationModel", "hasLaw", "(I)Z"⟩, 66), (⟨"TinNationModel", "calls", "(III)V"⟩, 66)]
theorem lw_r5 : ∀ q ∈ lw_privs_5, lw_okq q := List.forall_mem_cons.mpr ⟨lw_p64, List.forall_mem_cons.mpr ⟨lw_p65, List.forall_mem_cons.mpr ⟨lw_p66, List.forall_mem_cons.mpr ⟨lw_p67, List.forall_mem_cons.mpr ⟨lw_p68, List.forall_mem_cons.mpr ⟨lw_p69, List.forall_mem_cons.mpr ⟨lw_p70, List.forall_mem_cons.mpr ⟨lw_p71, List.forall_mem_cons.mpr ⟨lw_p72, List.forall_mem_cons.mpr ⟨lw_p73, List.forall_mem_cons.mpr ⟨lw_p74, List.forall_mem_cons.mpr ⟨lw_p75, List.forall_mem_cons.mpr ⟨lw_p76, List.forall_mem_cons.mpr ⟨lw_p77, List.forall_mem_cons.mpr ⟨lw_p78, List.forall_mem_cons.mpr ⟨lw_p79, fun _ h => absurd h List.not_mem_nil⟩⟩⟩⟩⟩⟩⟩⟩⟩⟩⟩⟩⟩⟩⟩⟩
theorem lw_p80 : lw_okq (⟨"TinNationModel", "goes", "(I)Z"⟩, 66) := ⟨⟨by decide +kernel, by decide +kernel⟩, List.mem_of_getElem? (i := 1202) (by decide +kernel), List.mem_of_getElem? (i := 1608) (by decide +kernel), List.mem_of_getElem? (i := 1609) (by decide +kernel)⟩
theorem lw_p81 : lw_okq (⟨"TinNationModel", "works", "(I)Z"⟩, 66) := ⟨⟨by decide +kernel, by decide +kernel⟩, List.mem_of_getElem? (i := 1202) (by decide +kernel), List.mem_of_getElem? (i := 1612) (by decide +kernel), List.mem_of_getElem? (i := 1613) (by decide +kernel)⟩
theorem lw_p82 : lw_okq (⟨"TinNationModel", "keepNow", "()V"⟩, 66) := ⟨⟨by decide +kernel, by decide +kernel⟩, List.mem_of_getElem? (i := 1202) (by decide +kernel), List.mem_of_getElem? (i := 1628) (by decide +kernel), List.mem_of_getElem? (i := 1629) (by decide +kernel)⟩
theorem lw_p83 : lw_okq (⟨"TinNationModel", "copies", "(II)V"⟩, 66) := ⟨⟨by decide +kernel, by decide +kernel⟩, List.mem_of_getElem? (i := 1202) (by decide +kernel), List.mem_of_getElem? (i := 1632) (by decide +kernel), List.mem_of_getElem? (i := 1633) (by decide +kernel)⟩
theorem lw_p84 : lw_okq (⟨"TinNationModel", "opens", "(II)V"⟩, 66) := ⟨⟨by decide +kernel, by decide +kernel⟩, List.mem_of_getElem? (i := 1202) (by decide +kernel), List.mem_of_getElem? (i := 1636) (by decide +kernel), List.mem_of_getElem? (i := 1637) (by decide +kernel)⟩
theorem lw_p85 : lw_okq (⟨"TinNationModel", "within", "(IIII)I"⟩, 66) := ⟨⟨by decide +kernel, by decide +kernel⟩, List.mem_of_getElem? (i := 1202) (by decide +kernel), List.mem_of_getElem? (i := 1640) (by decide +kernel), List.mem_of_getElem? (i := 1641) (by decide +kernel)⟩
theorem lw_p86 : lw_okq (⟨"TinNationModel", "passes", "(IZ)V"⟩, 66) := ⟨⟨by decide +kernel, by decide +kernel⟩, List.mem_of_getElem? (i := 1202) (by decide +kernel), List.mem_of_getElem? (i := 1662) (by decide +kernel), List.mem_of_getElem? (i := 1663) (by decide +kernel)⟩
theorem lw_p87 : lw_okq (⟨"TinNationModel", "opensTold", "(II)V"⟩, 66) := ⟨⟨by decide +kernel, by decide +kernel⟩, List.mem_of_getElem? (i := 1202) (by decide +kernel), List.mem_of_getElem? (i := 1666) (by decide +kernel), List.mem_of_getElem? (i := 1667) (by decide +kernel)⟩
theorem lw_p88 : lw_okq (⟨"TinNationModel", "serves", "(III)I"⟩, 66) := ⟨⟨by decide +kernel, by decide +kernel⟩, List.mem_of_getElem? (i := 1202) (by decide +kernel), List.mem_of_getElem? (i := 1670) (by decide +kernel), List.mem_of_getElem? (i := 1671) (by decide +kernel)⟩
theorem lw_p89 : lw_okq (⟨"TinNationModel", "doesRust", "(IIZ)Z"⟩, 66) := ⟨⟨by decide +kernel, by decide +kernel⟩, List.mem_of_getElem? (i := 1202) (by decide +kernel), List.mem_of_getElem? (i := 1674) (by decide +kernel), List.mem_of_getElem? (i := 1675) (by decide +kernel)⟩
theorem lw_p90 : lw_okq (⟨"TinNationModel", "runs", "(I)V"⟩, 66) := ⟨⟨by decide +kernel, by decide +kernel⟩, List.mem_of_getElem? (i := 1202) (by decide +kernel), List.mem_of_getElem? (i := 1685) (by decide +kernel), List.mem_of_getElem? (i := 1686) (by decide +kernel)⟩
theorem lw_p91 : lw_okq (⟨"TinNationModel", "goesOn", "(I)V"⟩, 66) := ⟨⟨by decide +kernel, by decide +kernel⟩, List.mem_of_getElem? (i := 1202) (by decide +kernel), List.mem_of_getElem? (i := 1689) (by decide +kernel), List.mem_of_getElem? (i := 1690) (by decide +kernel)⟩
theorem lw_p92 : lw_okq (⟨"TinNationModel", "wantsOf", "(II)I"⟩, 66) := ⟨⟨by decide +kernel, by decide +kernel⟩, List.mem_of_getElem? (i := 1202) (by decide +kernel), List.mem_of_getElem? (i := 1693) (by decide +kernel), List.mem_of_getElem? (i := 1694) (by decide +kernel)⟩
theorem lw_p93 : lw_okq (⟨"TinNationModel", "tinsOf", "(II)I"⟩, 66) := ⟨⟨by decide +kernel, by decide +kernel⟩, List.mem_of_getElem? (i := 1202) (by decide +kernel), List.mem_of_getElem? (i := 1697) (by decide +kernel), List.mem_of_getElem? (i := 1698) (by decide +kernel)⟩
theorem lw_p94 : lw_okq (⟨"TinNationModel", "rows", "(II)V"⟩, 66) := ⟨⟨by decide +kernel, by decide +kernel⟩, List.mem_of_getElem? (i := 1202) (by decide +kernel), List.mem_of_getElem? (i := 1713) (by decide +kernel), List.mem_of_getElem? (i := 1714) (by decide +kernel)⟩
theorem lw_p95 : lw_okq (⟨"TinNationModel", "isTidy", "(II)Z"⟩, 66) := ⟨⟨by decide +kernel, by decide +kernel⟩, List.mem_of_getElem? (i := 1202) (by decide +kernel), List.mem_of_getElem? (i := 1728) (by decide +kernel), List.mem_of_getElem? (i := 1729) (by decide +kernel)⟩
def lw_privs_6 : List (MethodName × Nat) := [(⟨"TinNationModel", "goes", "(I)Z"⟩, 66), (⟨"TinNationModel", "works", "(I)Z"⟩, 66), (⟨"TinNationModel", "keepNow", "()V"⟩, 66), (⟨"TinNationModel", "copies", "(II)V"⟩, 66), (⟨"TinNationModel", "opens", "(II)V"⟩, 66), (⟨"TinNationModel", "within", "(IIII)I"⟩, 66), (⟨"TinNationModel", "passes", "(IZ)V"⟩, 66), (⟨"TinNationModel", "opensTold", "(II)V"⟩, 66), (⟨"TinNationModel", "serves", "(III)I"⟩, 66), (⟨"TinNationModel", "doesRust", "(IIZ)Z"⟩, 66), (⟨"TinNationModel", "runs", "(I)V"⟩, 66), (⟨"TinNationModel", "goesOn", "(I)V"⟩, 66), (⟨"TinNationModel", "wantsOf", "(II)I"⟩, 66), (⟨"TinNationModel", "tinsOf", "(II)I"⟩, 66), (⟨"TinNationModel", "rows", "(II)V"⟩, 66), (⟨"TinNationModel", "isTidy", "(II)Z"⟩, 66)]
theorem lw_r6 : ∀ q ∈ lw_privs_6, lw_okq q := List.forall_mem_cons.mpr ⟨lw_p80, List.forall_mem_cons.mpr ⟨lw_p81, List.forall_mem_cons.mpr ⟨lw_p82, List.forall_mem_cons.mpr ⟨lw_p83, List.forall_mem_cons.mpr ⟨lw_p84, List.forall_mem_cons.mpr ⟨lw_p85, List.forall_mem_cons.mpr ⟨lw_p86, List.forall_mem_cons.mpr ⟨lw_p87, List.forall_mem_cons.mpr ⟨lw_p88, List.forall_mem_cons.mpr ⟨lw_p89, List.forall_mem_cons.mpr ⟨lw_p90, List.forall_mem_cons.mpr ⟨lw_p91, List.forall_mem_cons.mpr ⟨lw_p92, List.forall_mem_cons.mpr ⟨lw_p93, List.forall_mem_cons.mpr ⟨lw_p94, List.forall_mem_cons.mpr ⟨lw_p95, fun _ h => absurd h List.not_mem_nil⟩⟩⟩⟩⟩⟩⟩⟩⟩⟩⟩⟩⟩⟩⟩⟩
theorem lw_p96 : lw_okq (⟨"TinNationModel", "isOpen", "(I)Z"⟩, 66) := ⟨⟨by decide +kernel, by decide +kernel⟩, List.mem_of_getElem? (i := 1202) (by decide +kernel), List.mem_of_getElem? (i := 1736) (by decide +kernel), List.mem_of_getElem? (i := 1737) (by decide +kernel)⟩
theorem lw_p97 : lw_okq (⟨"TinNationModel", "noted", "(IIIZ)I"⟩, 66) := ⟨⟨by decide +kernel, by decide +kernel⟩, List.mem_of_getElem? (i := 1202) (by decide +kernel), List.mem_of_getElem? (i := 1770) (by decide +kernel), List.mem_of_getElem? (i := 1771) (by decide +kernel)⟩
theorem lw_p98 : lw_okq (⟨"TinNationModel", "whichOnes", "()I"⟩, 66) := ⟨⟨by decide +kernel, by decide +kernel⟩, List.mem_of_getElem? (i := 1202) (by decide +kernel), List.mem_of_getElem? (i := 1790) (by decide +kernel), List.mem_of_getElem? (i := 1791) (by decide +kernel)⟩
theorem lw_p99 : lw_okq (⟨"TinNationModel", "strikes", "()V"⟩, 66) := ⟨⟨by decide +kernel, by decide +kernel⟩, List.mem_of_getElem? (i := 1202) (by decide +kernel), List.mem_of_getElem? (i := 1794) (by decide +kernel), List.mem_of_getElem? (i := 1795) (by decide +kernel)⟩
theorem lw_p100 : lw_okq (⟨"TinNationModel", "knownMany", "()I"⟩, 66) := ⟨⟨by decide +kernel, by decide +kernel⟩, List.mem_of_getElem? (i := 1202) (by decide +kernel), List.mem_of_getElem? (i := 1798) (by decide +kernel), List.mem_of_getElem? (i := 1799) (by decide +kernel)⟩
theorem lw_p101 : lw_okq (⟨"TinNationModel", "isNoted", "(I)Z"⟩, 66) := ⟨⟨by decide +kernel, by decide +kernel⟩, List.mem_of_getElem? (i := 1202) (by decide +kernel), List.mem_of_getElem? (i := 1802) (by decide +kernel), List.mem_of_getElem? (i := 1803) (by decide +kernel)⟩
theorem lw_p102 : lw_okq (⟨"TinNationModel", "fitsDents", "(III)Z"⟩, 66) := ⟨⟨by decide +kernel, by decide +kernel⟩, List.mem_of_getElem? (i := 1202) (by decide +kernel), List.mem_of_getElem? (i := 1815) (by decide +kernel), List.mem_of_getElem? (i := 1816) (by decide +kernel)⟩
theorem lw_p103 : lw_okq (⟨"TinNationModel", "isSo", "(I)Z"⟩, 66) := ⟨⟨by decide +kernel, by decide +kernel⟩, List.mem_of_getElem? (i := 1202) (by decide +kernel), List.mem_of_getElem? (i := 1819) (by decide +kernel), List.mem_of_getElem? (i := 1820) (by decide +kernel)⟩
def lw_privs_7 : List (MethodName × Nat) := [(⟨"TinNationModel", "isOpen", "(I)Z"⟩, 66), (⟨"TinNationModel", "noted", "(IIIZ)I"⟩, 66), (⟨"TinNationModel", "whichOnes", "()I"⟩, 66), (⟨"TinNationModel", "strikes", "()V"⟩, 66), (⟨"TinNationModel", "knownMany", "()I"⟩, 66), (⟨"TinNationModel", "isNoted", "(I)Z"⟩, 66), (⟨"TinNationModel", "fitsDents", "(III)Z"⟩, 66), (⟨"TinNationModel", "isSo", "(I)Z"⟩, 66)]
theorem lw_r7 : ∀ q ∈ lw_privs_7, lw_okq q := List.forall_mem_cons.mpr ⟨lw_p96, List.forall_mem_cons.mpr ⟨lw_p97, List.forall_mem_cons.mpr ⟨lw_p98, List.forall_mem_cons.mpr ⟨lw_p99, List.forall_mem_cons.mpr ⟨lw_p100, List.forall_mem_cons.mpr ⟨lw_p101, List.forall_mem_cons.mpr ⟨lw_p102, List.forall_mem_cons.mpr ⟨lw_p103, fun _ h => absurd h List.not_mem_nil⟩⟩⟩⟩⟩⟩⟩⟩
def lw_privs : List (MethodName × Nat) := lw_privs_1 ++ (lw_privs_2 ++ (lw_privs_3 ++ (lw_privs_4 ++ (lw_privs_5 ++ (lw_privs_6 ++ (lw_privs_7))))))
def lw_tbl : List Cond := k2_sels lw_privs ++ tables_1
theorem lw_privs_ok : ∀ q ∈ lw_privs, lw_okq q := by
  show ∀ q ∈ lw_privs_1 ++ (lw_privs_2 ++ (lw_privs_3 ++ (lw_privs_4 ++ (lw_privs_5 ++ (lw_privs_6 ++ (lw_privs_7)))))), lw_okq q
  exact List.forall_mem_append.mpr ⟨lw_r1, List.forall_mem_append.mpr ⟨lw_r2, List.forall_mem_append.mpr ⟨lw_r3, List.forall_mem_append.mpr ⟨lw_r4, List.forall_mem_append.mpr ⟨lw_r5, List.forall_mem_append.mpr ⟨lw_r6, lw_r7⟩⟩⟩⟩⟩⟩
-- ===== end of PART A; then your names; then what follows =====
def RX0 : String := "TinNation$Days"
def TX0 : u_T := fun k => match k with
  | 0 => ("TinNation$Days", "plan", "LTinNation$Plan;", true)
  | 1 => ("TinNation$Days", "names", "[I", true)
  | 2 => ("TinNation$Days", "isDrawn", "Z", false)
  | 3 => ("TinNation$Days", "way", "I", false)
  | _ => ("TinNation$Days", "spared", "I", false)
def tyX0 : Nat → FieldType := fun k => match k with
  | 0 => .object "TinNation$Plan"
  | 1 => .array .int
  | 2 => .boolean
  | 3 => .int
  | _ => .int
abbrev wsX00 : List Cond := u_ws RX0 TX0 5
theorem nmX0 : ∀ a, a < 5 → ∀ b, b < 5 → a ≠ b → (TX0 a).2.1 ≠ (TX0 b).2.1 := by decide +kernel
theorem tyX0_ok : ∀ k, k < 5 → parseFieldDescriptor (TX0 k).2.2.1 = some (tyX0 k) := by decide +kernel
abbrev cX0_init : ByteArray := prog_2_method_1_code
def yX0_init : MethodName := ⟨RX0, "<init>", "(LTinNation$Plan;)V"⟩
abbrev cX0_byNumbers : ByteArray := prog_2_method_2_code
def yX0_byNumbers : MethodName := ⟨RX0, "byNumbers", "()V"⟩
abbrev cX0_asItGoes : ByteArray := prog_2_method_3_code
def yX0_asItGoes : MethodName := ⟨RX0, "asItGoes", "()V"⟩
abbrev cX0_otherwise : ByteArray := prog_2_method_4_code
def yX0_otherwise : MethodName := ⟨RX0, "otherwise", "(II)V"⟩
abbrev cX0_mayBringGlory : ByteArray := prog_2_method_5_code
def yX0_mayBringGlory : MethodName := ⟨RX0, "mayBringGlory", "(LTinNation$State;)Z"⟩
abbrev cX0_pass : ByteArray := prog_2_method_6_code
def yX0_pass : MethodName := ⟨RX0, "pass", "(LTinNation$State;)V"⟩
abbrev cX0_openTold : ByteArray := prog_2_method_7_code
def yX0_openTold : MethodName := ⟨RX0, "openTold", "(LTinNation$State;)V"⟩
abbrev cX0_unseal : ByteArray := prog_2_method_8_code
def yX0_unseal : MethodName := ⟨RX0, "unseal", "(LTinNation$State;I)V"⟩
abbrev cX0_unsealAnyway : ByteArray := prog_2_method_9_code
def yX0_unsealAnyway : MethodName := ⟨RX0, "unsealAnyway", "(LTinNation$State;I)V"⟩
abbrev cX0_serve : ByteArray := prog_2_method_10_code
def yX0_serve : MethodName := ⟨RX0, "serve", "(LTinNation$State;)V"⟩
abbrev cX0_server : ByteArray := prog_2_method_11_code
def yX0_server : MethodName := ⟨RX0, "server", "(LTinNation$State;II)I"⟩
abbrev cX0_goOff : ByteArray := prog_2_method_12_code
def yX0_goOff : MethodName := ⟨RX0, "goOff", "(LTinNation$State;)V"⟩
abbrev cX0_rust : ByteArray := prog_2_method_13_code
def yX0_rust : MethodName := ⟨RX0, "rust", "(LTinNation$State;)V"⟩
abbrev cX0_rusts : ByteArray := prog_2_method_14_code
def yX0_rusts : MethodName := ⟨RX0, "rusts", "(LTinNation$State;I)Z"⟩
abbrev cX0_blow : ByteArray := prog_2_method_15_code
def yX0_blow : MethodName := ⟨RX0, "blow", "(LTinNation$State;)V"⟩
abbrev cX0_namesOf : ByteArray := prog_2_method_16_code
def yX0_namesOf : MethodName := ⟨RX0, "namesOf", "(LTinNation$State;II)[I"⟩
abbrev cX0_within : ByteArray := prog_2_method_17_code
def yX0_within : MethodName := ⟨RX0, "within", "(JIII)I"⟩
def RX1 : String := "TinNation$Laws"
def TX1 : u_T := fun k => match k with
  | 0 => ("TinNation$Laws", "code", "[I", true)
  | 1 => ("TinNation$Laws", "from", "[I", true)
  | 2 => ("TinNation$Laws", "upTo", "[I", true)
  | 3 => ("TinNation$Laws", "pile", "[J", true)
  | 4 => ("TinNation$Laws", "size", "I", false)
  | 5 => ("TinNation$Laws", "told", "I", false)
  | _ => ("TinNation$Laws", "knots", "I", false)
def tyX1 : Nat → FieldType := fun k => match k with
  | 0 => .array .int
  | 1 => .array .int
  | 2 => .array .int
  | 3 => .array .long
  | 4 => .int
  | 5 => .int
  | _ => .int
abbrev wsX10 : List Cond := u_ws RX1 TX1 7
theorem nmX1 : ∀ a, a < 7 → ∀ b, b < 7 → a ≠ b → (TX1 a).2.1 ≠ (TX1 b).2.1 := by decide +kernel
theorem tyX1_ok : ∀ k, k < 7 → parseFieldDescriptor (TX1 k).2.2.1 = some (tyX1 k) := by decide +kernel
abbrev cX1_init : ByteArray := prog_3_method_1_code
def yX1_init : MethodName := ⟨RX1, "<init>", "()V"⟩
abbrev cX1_clear : ByteArray := prog_3_method_2_code
def yX1_clear : MethodName := ⟨RX1, "clear", "()V"⟩
abbrev cX1_take : ByteArray := prog_3_method_3_code
def yX1_take : MethodName := ⟨RX1, "take", "(LTinNation$Laws;)V"⟩
abbrev cX1_has : ByteArray := prog_3_method_4_code
def yX1_has : MethodName := ⟨RX1, "has", "(I)Z"⟩
abbrev cX1_begin : ByteArray := prog_3_method_5_code
def yX1_begin : MethodName := ⟨RX1, "begin", "(I)V"⟩
abbrev cX1_end : ByteArray := prog_3_method_6_code
def yX1_end : MethodName := ⟨RX1, "end", "(I)V"⟩
abbrev cX1_emit : ByteArray := prog_3_method_7_code
def yX1_emit : MethodName := ⟨RX1, "emit", "(I)V"⟩
abbrev cX1_work : ByteArray := prog_3_method_8_code
def yX1_work : MethodName := ⟨RX1, "work", "(I[I)J"⟩
abbrev cX1_joined : ByteArray := prog_3_method_9_code
def yX1_joined : MethodName := ⟨RX1, "joined", "(IJJ)J"⟩
def RX2 : String := "TinNation$Parser"
def TX2 : u_T := fun k => match k with
  | 0 => ("TinNation$Parser", "plan", "LTinNation$Plan;", true)
  | 1 => ("TinNation$Parser", "scanner", "LTinNation$Scanner;", true)
  | 2 => ("TinNation$Parser", "toldOnce", "I", false)
  | 3 => ("TinNation$Parser", "fault", "I", false)
  | 4 => ("TinNation$Parser", "place", "I", false)
  | _ => ("TinNation$Parser", "lines", "I", false)
def tyX2 : Nat → FieldType := fun k => match k with
  | 0 => .object "TinNation$Plan"
  | 1 => .object "TinNation$Scanner"
  | 2 => .int
  | 3 => .int
  | 4 => .int
  | _ => .int
abbrev wsX20 : List Cond := u_ws RX2 TX2 6
theorem nmX2 : ∀ a, a < 6 → ∀ b, b < 6 → a ≠ b → (TX2 a).2.1 ≠ (TX2 b).2.1 := by decide +kernel
theorem tyX2_ok : ∀ k, k < 6 → parseFieldDescriptor (TX2 k).2.2.1 = some (tyX2 k) := by decide +kernel
abbrev cX2_init : ByteArray := prog_4_method_1_code
def yX2_init : MethodName := ⟨RX2, "<init>", "()V"⟩
abbrev cX2_read : ByteArray := prog_4_method_2_code
def yX2_read : MethodName := ⟨RX2, "read", "([BI)V"⟩
abbrev cX2_fail : ByteArray := prog_4_method_3_code
def yX2_fail : MethodName := ⟨RX2, "fail", "(I)V"⟩
abbrev cX2_expect : ByteArray := prog_4_method_4_code
def yX2_expect : MethodName := ⟨RX2, "expect", "(I)V"⟩
abbrev cX2_line : ByteArray := prog_4_method_5_code
def yX2_line : MethodName := ⟨RX2, "line", "()V"⟩
abbrev cX2_kindLine : ByteArray := prog_4_method_6_code
def yX2_kindLine : MethodName := ⟨RX2, "kindLine", "()V"⟩
abbrev cX2_tinLine : ByteArray := prog_4_method_7_code
def yX2_tinLine : MethodName := ⟨RX2, "tinLine", "()V"⟩
abbrev cX2_openLine : ByteArray := prog_4_method_8_code
def yX2_openLine : MethodName := ⟨RX2, "openLine", "()V"⟩
abbrev cX2_wantLine : ByteArray := prog_4_method_9_code
def yX2_wantLine : MethodName := ⟨RX2, "wantLine", "()V"⟩
abbrev cX2_room : ByteArray := prog_4_method_10_code
def yX2_room : MethodName := ⟨RX2, "room", "(LTinNation$Rows;)V"⟩
abbrev cX2_onceLine : ByteArray := prog_4_method_11_code
def yX2_onceLine : MethodName := ⟨RX2, "onceLine", "(I)I"⟩
abbrev cX2_newName : ByteArray := prog_4_method_12_code
def yX2_newName : MethodName := ⟨RX2, "newName", "(LTinNation$Rows;)I"⟩
abbrev cX2_toldName : ByteArray := prog_4_method_13_code
def yX2_toldName : MethodName := ⟨RX2, "toldName", "(LTinNation$Rows;)I"⟩
abbrev cX2_number : ByteArray := prog_4_method_14_code
def yX2_number : MethodName := ⟨RX2, "number", "(II)I"⟩
abbrev cX2_lawLine : ByteArray := prog_4_method_15_code
def yX2_lawLine : MethodName := ⟨RX2, "lawLine", "()V"⟩
abbrev cX2_knot : ByteArray := prog_4_method_16_code
def yX2_knot : MethodName := ⟨RX2, "knot", "()V"⟩
abbrev cX2_emit : ByteArray := prog_4_method_17_code
def yX2_emit : MethodName := ⟨RX2, "emit", "(I)V"⟩
abbrev cX2_either : ByteArray := prog_4_method_18_code
def yX2_either : MethodName := ⟨RX2, "either", "(I)V"⟩
abbrev cX2_both : ByteArray := prog_4_method_19_code
def yX2_both : MethodName := ⟨RX2, "both", "(I)V"⟩
abbrev cX2_denied : ByteArray := prog_4_method_20_code
def yX2_denied : MethodName := ⟨RX2, "denied", "(I)V"⟩
abbrev cX2_compared : ByteArray := prog_4_method_21_code
def yX2_compared : MethodName := ⟨RX2, "compared", "(I)V"⟩
abbrev cX2_isComparison : ByteArray := prog_4_method_22_code
def yX2_isComparison : MethodName := ⟨RX2, "isComparison", "(I)Z"⟩
abbrev cX2_sum : ByteArray := prog_4_method_23_code
def yX2_sum : MethodName := ⟨RX2, "sum", "(I)V"⟩
abbrev cX2_product : ByteArray := prog_4_method_24_code
def yX2_product : MethodName := ⟨RX2, "product", "(I)V"⟩
abbrev cX2_part : ByteArray := prog_4_method_25_code
def yX2_part : MethodName := ⟨RX2, "part", "(I)V"⟩
abbrev cX2_bracket : ByteArray := prog_4_method_26_code
def yX2_bracket : MethodName := ⟨RX2, "bracket", "(I)V"⟩
def RX3 : String := "TinNation$Plan"
def TX3 : u_T := fun k => match k with
  | 0 => ("TinNation$Plan", "kinds", "LTinNation$Rows;", true)
  | 1 => ("TinNation$Plan", "tins", "LTinNation$Rows;", true)
  | 2 => ("TinNation$Plan", "opens", "LTinNation$Rows;", true)
  | 3 => ("TinNation$Plan", "wants", "LTinNation$Rows;", true)
  | 4 => ("TinNation$Plan", "laws", "LTinNation$Laws;", true)
  | 5 => ("TinNation$Plan", "keys", "I", false)
  | 6 => ("TinNation$Plan", "rust", "I", false)
  | 7 => ("TinNation$Plan", "seed", "I", false)
  | 8 => ("TinNation$Plan", "lastOpenDay", "I", false)
  | _ => ("TinNation$Plan", "lastWantDay", "I", false)
def tyX3 : Nat → FieldType := fun k => match k with
  | 0 => .object "TinNation$Rows"
  | 1 => .object "TinNation$Rows"
  | 2 => .object "TinNation$Rows"
  | 3 => .object "TinNation$Rows"
  | 4 => .object "TinNation$Laws"
  | 5 => .int
  | 6 => .int
  | 7 => .int
  | 8 => .int
  | _ => .int
abbrev wsX30 : List Cond := u_ws RX3 TX3 10
theorem nmX3 : ∀ a, a < 10 → ∀ b, b < 10 → a ≠ b → (TX3 a).2.1 ≠ (TX3 b).2.1 := by decide +kernel
theorem tyX3_ok : ∀ k, k < 10 → parseFieldDescriptor (TX3 k).2.2.1 = some (tyX3 k) := by decide +kernel
abbrev cX3_init : ByteArray := prog_5_method_1_code
def yX3_init : MethodName := ⟨RX3, "<init>", "()V"⟩
abbrev cX3_clear : ByteArray := prog_5_method_2_code
def yX3_clear : MethodName := ⟨RX3, "clear", "()V"⟩
abbrev cX3_take : ByteArray := prog_5_method_3_code
def yX3_take : MethodName := ⟨RX3, "take", "(LTinNation$Plan;)V"⟩
def RX4 : String := "TinNation$Rows"
def TX4 : u_T := fun k => match k with
  | 0 => ("TinNation$Rows", "most", "I", true)
  | 1 => ("TinNation$Rows", "columns", "[[I", true)
  | _ => ("TinNation$Rows", "size", "I", false)
def tyX4 : Nat → FieldType := fun k => match k with
  | 0 => .int
  | 1 => .array (.array .int)
  | _ => .int
abbrev wsX40 : List Cond := u_ws RX4 TX4 3
theorem nmX4 : ∀ a, a < 3 → ∀ b, b < 3 → a ≠ b → (TX4 a).2.1 ≠ (TX4 b).2.1 := by decide +kernel
theorem tyX4_ok : ∀ k, k < 3 → parseFieldDescriptor (TX4 k).2.2.1 = some (tyX4 k) := by decide +kernel
abbrev cX4_init : ByteArray := prog_6_method_1_code
def yX4_init : MethodName := ⟨RX4, "<init>", "(II)V"⟩
abbrev cX4_isFull : ByteArray := prog_6_method_2_code
def yX4_isFull : MethodName := ⟨RX4, "isFull", "()Z"⟩
abbrev cX4_has : ByteArray := prog_6_method_3_code
def yX4_has : MethodName := ⟨RX4, "has", "(I)Z"⟩
abbrev cX4_column : ByteArray := prog_6_method_4_code
def yX4_column : MethodName := ⟨RX4, "column", "(I)[I"⟩
abbrev cX4_at : ByteArray := prog_6_method_5_code
def yX4_at : MethodName := ⟨RX4, "at", "(II)I"⟩
abbrev cX4_add : ByteArray := prog_6_method_6_code
def yX4_add : MethodName := ⟨RX4, "add", "()V"⟩
abbrev cX4_set : ByteArray := prog_6_method_7_code
def yX4_set : MethodName := ⟨RX4, "set", "(II)V"⟩
abbrev cX4_rowOf : ByteArray := prog_6_method_8_code
def yX4_rowOf : MethodName := ⟨RX4, "rowOf", "(I)I"⟩
abbrev cX4_dropFirst : ByteArray := prog_6_method_9_code
def yX4_dropFirst : MethodName := ⟨RX4, "dropFirst", "()V"⟩
abbrev cX4_take : ByteArray := prog_6_method_10_code
def yX4_take : MethodName := ⟨RX4, "take", "(LTinNation$Rows;)V"⟩
def RX5 : String := "TinNation$Scanner"
def TX5 : u_T := fun k => match k with
  | 0 => ("TinNation$Scanner", "words", "[I", true)
  | 1 => ("TinNation$Scanner", "tape", "[B", false)
  | 2 => ("TinNation$Scanner", "length", "I", false)
  | 3 => ("TinNation$Scanner", "at", "I", false)
  | 4 => ("TinNation$Scanner", "token", "I", false)
  | 5 => ("TinNation$Scanner", "place", "I", false)
  | _ => ("TinNation$Scanner", "value", "I", false)
def tyX5 : Nat → FieldType := fun k => match k with
  | 0 => .array .int
  | 1 => .array .byte
  | 2 => .int
  | 3 => .int
  | 4 => .int
  | 5 => .int
  | _ => .int
abbrev wsX50 : List Cond := u_ws RX5 TX5 7
theorem nmX5 : ∀ a, a < 7 → ∀ b, b < 7 → a ≠ b → (TX5 a).2.1 ≠ (TX5 b).2.1 := by decide +kernel
theorem tyX5_ok : ∀ k, k < 7 → parseFieldDescriptor (TX5 k).2.2.1 = some (tyX5 k) := by decide +kernel
abbrev cX5_init : ByteArray := prog_7_method_1_code
def yX5_init : MethodName := ⟨RX5, "<init>", "()V"⟩
abbrev cX5_start : ByteArray := prog_7_method_2_code
def yX5_start : MethodName := ⟨RX5, "start", "([BI)V"⟩
abbrev cX5_advance : ByteArray := prog_7_method_3_code
def yX5_advance : MethodName := ⟨RX5, "advance", "()V"⟩
abbrev cX5_takeWord : ByteArray := prog_7_method_4_code
def yX5_takeWord : MethodName := ⟨RX5, "takeWord", "()V"⟩
abbrev cX5_takeNumber : ByteArray := prog_7_method_5_code
def yX5_takeNumber : MethodName := ⟨RX5, "takeNumber", "()V"⟩
abbrev cX5_takeSign : ByteArray := prog_7_method_6_code
def yX5_takeSign : MethodName := ⟨RX5, "takeSign", "()V"⟩
def RX6 : String := "TinNation$State"
def TX6 : u_T := fun k => match k with
  | 0 => ("TinNation$State", "status", "[I", true)
  | 1 => ("TinNation$State", "dents", "[I", true)
  | 2 => ("TinNation$State", "stack", "[I", true)
  | 3 => ("TinNation$State", "height", "[I", true)
  | 4 => ("TinNation$State", "fresh", "[I", true)
  | 5 => ("TinNation$State", "served", "[I", true)
  | 6 => ("TinNation$State", "wants", "[I", true)
  | 7 => ("TinNation$State", "tins", "I", false)
  | 8 => ("TinNation$State", "day", "I", false)
  | 9 => ("TinNation$State", "keys", "I", false)
  | 10 => ("TinNation$State", "glory", "I", false)
  | 11 => ("TinNation$State", "met", "I", false)
  | 12 => ("TinNation$State", "missed", "I", false)
  | 13 => ("TinNation$State", "refused", "I", false)
  | _ => ("TinNation$State", "number", "J", false)
def tyX6 : Nat → FieldType := fun k => match k with
  | 0 => .array .int
  | 1 => .array .int
  | 2 => .array .int
  | 3 => .array .int
  | 4 => .array .int
  | 5 => .array .int
  | 6 => .array .int
  | 7 => .int
  | 8 => .int
  | 9 => .int
  | 10 => .int
  | 11 => .int
  | 12 => .int
  | 13 => .int
  | _ => .long
abbrev wsX60 : List Cond := u_ws RX6 TX6 15
theorem nmX6 : ∀ a, a < 15 → ∀ b, b < 15 → a ≠ b → (TX6 a).2.1 ≠ (TX6 b).2.1 := by decide +kernel
theorem tyX6_ok : ∀ k, k < 15 → parseFieldDescriptor (TX6 k).2.2.1 = some (tyX6 k) := by decide +kernel
abbrev cX6_init : ByteArray := prog_8_method_1_code
def yX6_init : MethodName := ⟨RX6, "<init>", "()V"⟩
abbrev cX6_begin : ByteArray := prog_8_method_2_code
def yX6_begin : MethodName := ⟨RX6, "begin", "(LTinNation$Plan;)V"⟩
abbrev cX6_take : ByteArray := prog_8_method_3_code
def yX6_take : MethodName := ⟨RX6, "take", "(LTinNation$State;)V"⟩
abbrev cX6_has : ByteArray := prog_8_method_4_code
def yX6_has : MethodName := ⟨RX6, "has", "(I)Z"⟩
abbrev cX6_isClosed : ByteArray := prog_8_method_5_code
def yX6_isClosed : MethodName := ⟨RX6, "isClosed", "(I)Z"⟩
abbrev cX6_isOnTop : ByteArray := prog_8_method_6_code
def yX6_isOnTop : MethodName := ⟨RX6, "isOnTop", "(I)Z"⟩
abbrev cX6_closedAbove : ByteArray := prog_8_method_7_code
def yX6_closedAbove : MethodName := ⟨RX6, "closedAbove", "(I)I"⟩
abbrev cX6_heightOver : ByteArray := prog_8_method_8_code
def yX6_heightOver : MethodName := ⟨RX6, "heightOver", "(I)I"⟩
abbrev cX6_howMany : ByteArray := prog_8_method_9_code
def yX6_howMany : MethodName := ⟨RX6, "howMany", "(I)I"⟩
abbrev cX6_drawn : ByteArray := prog_8_method_10_code
def yX6_drawn : MethodName := ⟨RX6, "drawn", "()I"⟩
def RX7 : String := "TinNation$Steps"
def TX7 : u_T := fun k => match k with
  | _ => ("TinNation$Steps", "rows", "LTinNation$Rows;", true)
def tyX7 : Nat → FieldType := fun k => match k with
  | _ => .object "TinNation$Rows"
abbrev wsX70 : List Cond := u_ws RX7 TX7 1
theorem nmX7 : ∀ a, a < 1 → ∀ b, b < 1 → a ≠ b → (TX7 a).2.1 ≠ (TX7 b).2.1 := by decide +kernel
theorem tyX7_ok : ∀ k, k < 1 → parseFieldDescriptor (TX7 k).2.2.1 = some (tyX7 k) := by decide +kernel
abbrev cX7_init : ByteArray := prog_9_method_1_code
def yX7_init : MethodName := ⟨RX7, "<init>", "()V"⟩
abbrev cX7_clear : ByteArray := prog_9_method_2_code
def yX7_clear : MethodName := ⟨RX7, "clear", "()V"⟩
abbrev cX7_add : ByteArray := prog_9_method_3_code
def yX7_add : MethodName := ⟨RX7, "add", "(IIII)V"⟩
abbrev cX7_takeBack : ByteArray := prog_9_method_4_code
def yX7_takeBack : MethodName := ⟨RX7, "takeBack", "(LTinNation$State;)V"⟩
abbrev cX7_takeBackOfTin : ByteArray := prog_9_method_5_code
def yX7_takeBackOfTin : MethodName := ⟨RX7, "takeBackOfTin", "(LTinNation$State;II)V"⟩
def RX8 : String := "TinNation$Told"
def TX8 : u_T := fun k => match k with
  | 0 => ("TinNation$Told", "rows", "LTinNation$Rows;", true)
  | _ => ("TinNation$Told", "knownBy", "I", false)
def tyX8 : Nat → FieldType := fun k => match k with
  | 0 => .object "TinNation$Rows"
  | _ => .int
abbrev wsX80 : List Cond := u_ws RX8 TX8 2
theorem nmX8 : ∀ a, a < 2 → ∀ b, b < 2 → a ≠ b → (TX8 a).2.1 ≠ (TX8 b).2.1 := by decide +kernel
theorem tyX8_ok : ∀ k, k < 2 → parseFieldDescriptor (TX8 k).2.2.1 = some (tyX8 k) := by decide +kernel
abbrev cX8_init : ByteArray := prog_10_method_1_code
def yX8_init : MethodName := ⟨RX8, "<init>", "()V"⟩
abbrev cX8_clear : ByteArray := prog_10_method_2_code
def yX8_clear : MethodName := ⟨RX8, "clear", "()V"⟩
abbrev cX8_add : ByteArray := prog_10_method_3_code
def yX8_add : MethodName := ⟨RX8, "add", "(IIIZ)I"⟩
abbrev cX8_howManyKnown : ByteArray := prog_10_method_4_code
def yX8_howManyKnown : MethodName := ⟨RX8, "howManyKnown", "()I"⟩
abbrev cX8_counted : ByteArray := prog_10_method_5_code
def yX8_counted : MethodName := ⟨RX8, "counted", "()I"⟩
abbrev cX8_mayBe : ByteArray := prog_10_method_6_code
def yX8_mayBe : MethodName := ⟨RX8, "mayBe", "(III)Z"⟩
abbrev cX8_lastSeen : ByteArray := prog_10_method_7_code
def yX8_lastSeen : MethodName := ⟨RX8, "lastSeen", "(I)I"⟩
abbrev cX8_isSeenSo : ByteArray := prog_10_method_8_code
def yX8_isSeenSo : MethodName := ⟨RX8, "isSeenSo", "(IILTinNation$State;)Z"⟩
def RX9 : String := "TinNation"
def TX9 : u_T := fun k => match k with
  | 0 => ("TinNation", "tape", "[B", true)
  | 1 => ("TinNation", "taped", "I", false)
  | 2 => ("TinNation", "parser", "LTinNation$Parser;", true)
  | 3 => ("TinNation", "plan", "LTinNation$Plan;", true)
  | 4 => ("TinNation", "days", "LTinNation$Days;", true)
  | 5 => ("TinNation", "now", "LTinNation$State;", true)
  | 6 => ("TinNation", "trial", "LTinNation$State;", true)
  | 7 => ("TinNation", "image", "LTinNation$State;", true)
  | 8 => ("TinNation", "isKept", "Z", false)
  | 9 => ("TinNation", "told", "LTinNation$Told;", true)
  | 10 => ("TinNation", "steps", "LTinNation$Steps;", true)
  | 11 => ("TinNation", "row", "[I", true)
  | _ => ("TinNation", "bestRow", "[I", true)
def tyX9 : Nat → FieldType := fun k => match k with
  | 0 => .array .byte
  | 1 => .int
  | 2 => .object "TinNation$Parser"
  | 3 => .object "TinNation$Plan"
  | 4 => .object "TinNation$Days"
  | 5 => .object "TinNation$State"
  | 6 => .object "TinNation$State"
  | 7 => .object "TinNation$State"
  | 8 => .boolean
  | 9 => .object "TinNation$Told"
  | 10 => .object "TinNation$Steps"
  | 11 => .array .int
  | _ => .array .int
abbrev wsX90 : List Cond := u_ws RX9 TX9 13
theorem nmX9 : ∀ a, a < 13 → ∀ b, b < 13 → a ≠ b → (TX9 a).2.1 ≠ (TX9 b).2.1 := by decide +kernel
theorem tyX9_ok : ∀ k, k < 13 → parseFieldDescriptor (TX9 k).2.2.1 = some (tyX9 k) := by decide +kernel
abbrev cX9_init : ByteArray := prog_1_method_1_code
def yX9_init : MethodName := ⟨RX9, "<init>", "()V"⟩
abbrev cX9_feed : ByteArray := prog_1_method_2_code
def yX9_feed : MethodName := ⟨RX9, "feed", "(IIIII)I"⟩
abbrev cX9_tapeNumber : ByteArray := prog_1_method_3_code
def yX9_tapeNumber : MethodName := ⟨RX9, "tapeNumber", "(I)V"⟩
abbrev cX9_text : ByteArray := prog_1_method_4_code
def yX9_text : MethodName := ⟨RX9, "text", "(I)I"⟩
abbrev cX9_fault : ByteArray := prog_1_method_5_code
def yX9_fault : MethodName := ⟨RX9, "fault", "(I)I"⟩
abbrev cX9_named : ByteArray := prog_1_method_6_code
def yX9_named : MethodName := ⟨RX9, "named", "(II)I"⟩
abbrev cX9_tin : ByteArray := prog_1_method_7_code
def yX9_tin : MethodName := ⟨RX9, "tin", "(II)I"⟩
abbrev cX9_kind : ByteArray := prog_1_method_8_code
def yX9_kind : MethodName := ⟨RX9, "kind", "(II)I"⟩
abbrev cX9_tinsOf : ByteArray := prog_1_method_9_code
def yX9_tinsOf : MethodName := ⟨RX9, "tinsOf", "(II)I"⟩
abbrev cX9_want : ByteArray := prog_1_method_10_code
def yX9_want : MethodName := ⟨RX9, "want", "(II)I"⟩
abbrev cX9_top : ByteArray := prog_1_method_11_code
def yX9_top : MethodName := ⟨RX9, "top", "(I)I"⟩
abbrev cX9_law : ByteArray := prog_1_method_12_code
def yX9_law : MethodName := ⟨RX9, "law", "(III)J"⟩
abbrev cX9_open : ByteArray := prog_1_method_13_code
def yX9_open : MethodName := ⟨RX9, "open", "(I)I"⟩
abbrev cX9_put : ByteArray := prog_1_method_14_code
def yX9_put : MethodName := ⟨RX9, "put", "(II)Z"⟩
abbrev cX9_dent : ByteArray := prog_1_method_15_code
def yX9_dent : MethodName := ⟨RX9, "dent", "(I)I"⟩
abbrev cX9_find : ByteArray := prog_1_method_16_code
def yX9_find : MethodName := ⟨RX9, "find", "(I)I"⟩
abbrev cX9_go : ByteArray := prog_1_method_17_code
def yX9_go : MethodName := ⟨RX9, "go", "(I)I"⟩
abbrev cX9_ahead : ByteArray := prog_1_method_18_code
def yX9_ahead : MethodName := ⟨RX9, "ahead", "(II)I"⟩
abbrev cX9_above : ByteArray := prog_1_method_19_code
def yX9_above : MethodName := ⟨RX9, "above", "(I)I"⟩
abbrev cX9_order : ByteArray := prog_1_method_20_code
def yX9_order : MethodName := ⟨RX9, "order", "(I)I"⟩
abbrev cX9_firstClosed : ByteArray := prog_1_method_21_code
def yX9_firstClosed : MethodName := ⟨RX9, "firstClosed", "()I"⟩
abbrev cX9_gainedInRow : ByteArray := prog_1_method_22_code
def yX9_gainedInRow : MethodName := ⟨RX9, "gainedInRow", "(I)I"⟩
abbrev cX9_nextRow : ByteArray := prog_1_method_23_code
def yX9_nextRow : MethodName := ⟨RX9, "nextRow", "(I)Z"⟩
abbrev cX9_swapInRow : ByteArray := prog_1_method_24_code
def yX9_swapInRow : MethodName := ⟨RX9, "swapInRow", "(II)V"⟩
abbrev cX9_best : ByteArray := prog_1_method_25_code
def yX9_best : MethodName := ⟨RX9, "best", "(II)I"⟩
abbrev cX9_gainedByOpening : ByteArray := prog_1_method_26_code
def yX9_gainedByOpening : MethodName := ⟨RX9, "gainedByOpening", "(II)I"⟩
abbrev cX9_tidy : ByteArray := prog_1_method_27_code
def yX9_tidy : MethodName := ⟨RX9, "tidy", "(I)I"⟩
abbrev cX9_takenOut : ByteArray := prog_1_method_28_code
def yX9_takenOut : MethodName := ⟨RX9, "takenOut", "(II)I"⟩
abbrev cX9_isBelowLonger : ByteArray := prog_1_method_29_code
def yX9_isBelowLonger : MethodName := ⟨RX9, "isBelowLonger", "(I)Z"⟩
abbrev cX9_isBit : ByteArray := prog_1_method_30_code
def yX9_isBit : MethodName := ⟨RX9, "isBit", "(II)Z"⟩
abbrev cX9_rests : ByteArray := prog_1_method_31_code
def yX9_rests : MethodName := ⟨RX9, "rests", "(I)I"⟩
abbrev cX9_rest : ByteArray := prog_1_method_32_code
def yX9_rest : MethodName := ⟨RX9, "rest", "(II)I"⟩
abbrev cX9_isRest : ByteArray := prog_1_method_33_code
def yX9_isRest : MethodName := ⟨RX9, "isRest", "(III)Z"⟩
abbrev cX9_hasOfShare : ByteArray := prog_1_method_34_code
def yX9_hasOfShare : MethodName := ⟨RX9, "hasOfShare", "(III)I"⟩
abbrev cX9_whole : ByteArray := prog_1_method_35_code
def yX9_whole : MethodName := ⟨RX9, "whole", "(II)J"⟩
abbrev cX9_commonDivisor : ByteArray := prog_1_method_36_code
def yX9_commonDivisor : MethodName := ⟨RX9, "commonDivisor", "(JJ)J"⟩
abbrev cX9_unmet : ByteArray := prog_1_method_37_code
def yX9_unmet : MethodName := ⟨RX9, "unmet", "()I"⟩
abbrev cX9_blows : ByteArray := prog_1_method_38_code
def yX9_blows : MethodName := ⟨RX9, "blows", "(I)I"⟩
abbrev cX9_note : ByteArray := prog_1_method_39_code
def yX9_note : MethodName := ⟨RX9, "note", "(IIZ)I"⟩
abbrev cX9_see : ByteArray := prog_1_method_40_code
def yX9_see : MethodName := ⟨RX9, "see", "(IIZ)I"⟩
abbrev cX9_strike : ByteArray := prog_1_method_41_code
def yX9_strike : MethodName := ⟨RX9, "strike", "(I)I"⟩
abbrev cX9_known : ByteArray := prog_1_method_42_code
def yX9_known : MethodName := ⟨RX9, "known", "(I)Z"⟩
abbrev cX9_which : ByteArray := prog_1_method_43_code
def yX9_which : MethodName := ⟨RX9, "which", "()I"⟩
abbrev cX9_ask : ByteArray := prog_1_method_44_code
def yX9_ask : MethodName := ⟨RX9, "ask", "(I)I"⟩
abbrev cX9_dented : ByteArray := prog_1_method_45_code
def yX9_dented : MethodName := ⟨RX9, "dented", "(I)I"⟩
abbrev cX9_isSeenSo : ByteArray := prog_1_method_46_code
def yX9_isSeenSo : MethodName := ⟨RX9, "isSeenSo", "(I)Z"⟩
abbrev cX9_chance : ByteArray := prog_1_method_47_code
def yX9_chance : MethodName := ⟨RX9, "chance", "(III)I"⟩
abbrev cX9_tried : ByteArray := prog_1_method_48_code
def yX9_tried : MethodName := ⟨RX9, "tried", "(III)I"⟩
abbrev cX9_undo : ByteArray := prog_1_method_49_code
def yX9_undo : MethodName := ⟨RX9, "undo", "()I"⟩
abbrev cX9_keep : ByteArray := prog_1_method_50_code
def yX9_keep : MethodName := ⟨RX9, "keep", "()I"⟩
abbrev cX9_back : ByteArray := prog_1_method_51_code
def yX9_back : MethodName := ⟨RX9, "back", "()I"⟩
abbrev cX9_count : ByteArray := prog_1_method_52_code
def yX9_count : MethodName := ⟨RX9, "count", "(I)I"⟩
def RX10 : String := "TinNationModel"
def TX10 : u_T := fun k => match k with
  | 0 => ("TinNationModel", "thrown", "I", false)
  | 1 => ("TinNationModel", "tape", "[I", true)
  | 2 => ("TinNationModel", "taped", "I", false)
  | 3 => ("TinNationModel", "number", "[I", true)
  | 4 => ("TinNationModel", "kindName", "[I", true)
  | 5 => ("TinNationModel", "weightOf", "[I", true)
  | 6 => ("TinNationModel", "soundOf", "[I", true)
  | 7 => ("TinNationModel", "tinName", "[I", true)
  | 8 => ("TinNationModel", "kindOf", "[I", true)
  | 9 => ("TinNationModel", "dentsAs", "[I", true)
  | 10 => ("TinNationModel", "keepsOf", "[I", true)
  | 11 => ("TinNationModel", "stackAs", "[I", true)
  | 12 => ("TinNationModel", "openTin", "[I", true)
  | 13 => ("TinNationModel", "openDay", "[I", true)
  | 14 => ("TinNationModel", "wantKind", "[I", true)
  | 15 => ("TinNationModel", "wantDay", "[I", true)
  | 16 => ("TinNationModel", "wantWorth", "[I", true)
  | 17 => ("TinNationModel", "sumFrom", "[I", true)
  | 18 => ("TinNationModel", "sumTo", "[I", true)
  | 19 => ("TinNationModel", "knotSort", "[I", true)
  | 20 => ("TinNationModel", "knotValue", "[I", true)
  | 21 => ("TinNationModel", "told", "I", false)
  | 22 => ("TinNationModel", "lines", "I", false)
  | 23 => ("TinNationModel", "size", "I", false)
  | 24 => ("TinNationModel", "at", "I", false)
  | 25 => ("TinNationModel", "place", "I", false)
  | 26 => ("TinNationModel", "sort", "I", false)
  | 27 => ("TinNationModel", "value", "I", false)
  | 28 => ("TinNationModel", "fault", "I", false)
  | 29 => ("TinNationModel", "faultPlace", "I", false)
  | 30 => ("TinNationModel", "lastFault", "I", false)
  | 31 => ("TinNationModel", "lastPlace", "I", false)
  | 32 => ("TinNationModel", "open", "I", false)
  | 33 => ("TinNationModel", "counted", "I", false)
  | 34 => ("TinNationModel", "names", "[J", true)
  | 35 => ("TinNationModel", "worked", "[J", true)
  | 36 => ("TinNationModel", "workedMany", "I", false)
  | 37 => ("TinNationModel", "day", "[I", true)
  | 38 => ("TinNationModel", "drawn", "[I", true)
  | 39 => ("TinNationModel", "keysOf", "[I", true)
  | 40 => ("TinNationModel", "gloryOf", "[I", true)
  | 41 => ("TinNationModel", "refused", "[I", true)
  | 42 => ("TinNationModel", "puts", "[I", true)
  | 43 => ("TinNationModel", "highOf", "[I", true)
  | 44 => ("TinNationModel", "stackOf", "[I", true)
  | 45 => ("TinNationModel", "dentsOf", "[I", true)
  | 46 => ("TinNationModel", "howOf", "[I", true)
  | 47 => ("TinNationModel", "leftOf", "[I", true)
  | 48 => ("TinNationModel", "servedOf", "[I", true)
  | 49 => ("TinNationModel", "outcome", "[I", true)
  | 50 => ("TinNationModel", "hasImage", "Z", false)
  | 51 => ("TinNationModel", "undoMany", "I", false)
  | 52 => ("TinNationModel", "tryWhat", "I", false)
  | 53 => ("TinNationModel", "tryTin", "I", false)
  | 54 => ("TinNationModel", "four", "[I", true)
  | 55 => ("TinNationModel", "rowNow", "[I", true)
  | 56 => ("TinNationModel", "rowBest", "[I", true)
  | 57 => ("TinNationModel", "fourMany", "I", false)
  | 58 => ("TinNationModel", "rowMost", "I", false)
  | 59 => ("TinNationModel", "notes", "I", false)
  | 60 => ("TinNationModel", "knownBy", "I", false)
  | 61 => ("TinNationModel", "noteSort", "[I", true)
  | 62 => ("TinNationModel", "noteMuch", "[I", true)
  | 63 => ("TinNationModel", "noteTin", "[I", true)
  | 64 => ("TinNationModel", "noteIs", "[Z", true)
  | _ => ("TinNationModel", "isOut", "[Z", true)
def tyX10 : Nat → FieldType := fun k => match k with
  | 0 => .int
  | 1 => .array .int
  | 2 => .int
  | 3 => .array .int
  | 4 => .array .int
  | 5 => .array .int
  | 6 => .array .int
  | 7 => .array .int
  | 8 => .array .int
  | 9 => .array .int
  | 10 => .array .int
  | 11 => .array .int
  | 12 => .array .int
  | 13 => .array .int
  | 14 => .array .int
  | 15 => .array .int
  | 16 => .array .int
  | 17 => .array .int
  | 18 => .array .int
  | 19 => .array .int
  | 20 => .array .int
  | 21 => .int
  | 22 => .int
  | 23 => .int
  | 24 => .int
  | 25 => .int
  | 26 => .int
  | 27 => .int
  | 28 => .int
  | 29 => .int
  | 30 => .int
  | 31 => .int
  | 32 => .int
  | 33 => .int
  | 34 => .array .long
  | 35 => .array .long
  | 36 => .int
  | 37 => .array .int
  | 38 => .array .int
  | 39 => .array .int
  | 40 => .array .int
  | 41 => .array .int
  | 42 => .array .int
  | 43 => .array .int
  | 44 => .array .int
  | 45 => .array .int
  | 46 => .array .int
  | 47 => .array .int
  | 48 => .array .int
  | 49 => .array .int
  | 50 => .boolean
  | 51 => .int
  | 52 => .int
  | 53 => .int
  | 54 => .array .int
  | 55 => .array .int
  | 56 => .array .int
  | 57 => .int
  | 58 => .int
  | 59 => .int
  | 60 => .int
  | 61 => .array .int
  | 62 => .array .int
  | 63 => .array .int
  | 64 => .array .boolean
  | _ => .array .boolean
abbrev wsX100 : List Cond := u_ws RX10 TX10 66
theorem nmX10 : ∀ a, a < 66 → ∀ b, b < 66 → a ≠ b → (TX10 a).2.1 ≠ (TX10 b).2.1 := by decide +kernel
theorem tyX10_ok : ∀ k, k < 66 → parseFieldDescriptor (TX10 k).2.2.1 = some (tyX10 k) := by decide +kernel
abbrev cX10_init : ByteArray := prog_12_method_1_code
def yX10_init : MethodName := ⟨RX10, "<init>", "()V"⟩
abbrev cX10_thrown : ByteArray := prog_12_method_2_code
def yX10_thrown : MethodName := ⟨RX10, "thrown", "()I"⟩
abbrev cX10_feed : ByteArray := prog_12_method_3_code
def yX10_feed : MethodName := ⟨RX10, "feed", "(IIIII)I"⟩
abbrev cX10_here : ByteArray := prog_12_method_4_code
def yX10_here : MethodName := ⟨RX10, "here", "()I"⟩
abbrev cX10_isSmall : ByteArray := prog_12_method_5_code
def yX10_isSmall : MethodName := ⟨RX10, "isSmall", "(I)Z"⟩
abbrev cX10_isDigit : ByteArray := prog_12_method_6_code
def yX10_isDigit : MethodName := ⟨RX10, "isDigit", "(I)Z"⟩
abbrev cX10_token : ByteArray := prog_12_method_7_code
def yX10_token : MethodName := ⟨RX10, "token", "()V"⟩
abbrev cX10_sign : ByteArray := prog_12_method_8_code
def yX10_sign : MethodName := ⟨RX10, "sign", "(I)V"⟩
abbrev cX10_word : ByteArray := prog_12_method_9_code
def yX10_word : MethodName := ⟨RX10, "word", "()I"⟩
abbrev cX10_name : ByteArray := prog_12_method_10_code
def yX10_name : MethodName := ⟨RX10, "name", "()V"⟩
abbrev cX10_wrong : ByteArray := prog_12_method_11_code
def yX10_wrong : MethodName := ⟨RX10, "wrong", "(I)V"⟩
abbrev cX10_isWord : ByteArray := prog_12_method_12_code
def yX10_isWord : MethodName := ⟨RX10, "isWord", "(I)Z"⟩
abbrev cX10_isSign : ByteArray := prog_12_method_13_code
def yX10_isSign : MethodName := ⟨RX10, "isSign", "(I)Z"⟩
abbrev cX10_goOn : ByteArray := prog_12_method_14_code
def yX10_goOn : MethodName := ⟨RX10, "goOn", "()V"⟩
abbrev cX10_numeral : ByteArray := prog_12_method_15_code
def yX10_numeral : MethodName := ⟨RX10, "numeral", "(II)I"⟩
abbrev cX10_found : ByteArray := prog_12_method_16_code
def yX10_found : MethodName := ⟨RX10, "found", "([IIII)I"⟩
abbrev cX10_fresh : ByteArray := prog_12_method_17_code
def yX10_fresh : MethodName := ⟨RX10, "fresh", "([III)I"⟩
abbrev cX10_fresher : ByteArray := prog_12_method_18_code
def yX10_fresher : MethodName := ⟨RX10, "fresher", "(I)I"⟩
abbrev cX10_reads : ByteArray := prog_12_method_19_code
def yX10_reads : MethodName := ⟨RX10, "reads", "(II)V"⟩
abbrev cX10_toldAhead : ByteArray := prog_12_method_20_code
def yX10_toldAhead : MethodName := ⟨RX10, "toldAhead", "([III)I"⟩
abbrev cX10_isFull : ByteArray := prog_12_method_21_code
def yX10_isFull : MethodName := ⟨RX10, "isFull", "(I)Z"⟩
abbrev cX10_line : ByteArray := prog_12_method_22_code
def yX10_line : MethodName := ⟨RX10, "line", "()V"⟩
abbrev cX10_lawLine : ByteArray := prog_12_method_23_code
def yX10_lawLine : MethodName := ⟨RX10, "lawLine", "()V"⟩
abbrev cX10_puts : ByteArray := prog_12_method_24_code
def yX10_puts : MethodName := ⟨RX10, "puts", "(II)V"⟩
abbrev cX10_knot : ByteArray := prog_12_method_25_code
def yX10_knot : MethodName := ⟨RX10, "knot", "()V"⟩
abbrev cX10_expression : ByteArray := prog_12_method_26_code
def yX10_expression : MethodName := ⟨RX10, "expression", "()V"⟩
abbrev cX10_conjunction : ByteArray := prog_12_method_27_code
def yX10_conjunction : MethodName := ⟨RX10, "conjunction", "()V"⟩
abbrev cX10_negation : ByteArray := prog_12_method_28_code
def yX10_negation : MethodName := ⟨RX10, "negation", "()V"⟩
abbrev cX10_sum : ByteArray := prog_12_method_29_code
def yX10_sum : MethodName := ⟨RX10, "sum", "()V"⟩
abbrev cX10_product : ByteArray := prog_12_method_30_code
def yX10_product : MethodName := ⟨RX10, "product", "()V"⟩
abbrev cX10_primary : ByteArray := prog_12_method_31_code
def yX10_primary : MethodName := ⟨RX10, "primary", "()V"⟩
abbrev cX10_half : ByteArray := prog_12_method_32_code
def yX10_half : MethodName := ⟨RX10, "half", "([I)V"⟩
abbrev cX10_text : ByteArray := prog_12_method_33_code
def yX10_text : MethodName := ⟨RX10, "text", "(I)I"⟩
abbrev cX10_fault : ByteArray := prog_12_method_34_code
def yX10_fault : MethodName := ⟨RX10, "fault", "(I)I"⟩
abbrev cX10_named : ByteArray := prog_12_method_35_code
def yX10_named : MethodName := ⟨RX10, "named", "(II)I"⟩
abbrev cX10_is : ByteArray := prog_12_method_36_code
def yX10_is : MethodName := ⟨RX10, "is", "(Z)J"⟩
abbrev cX10_works : ByteArray := prog_12_method_37_code
def yX10_works : MethodName := ⟨RX10, "works", "(I)Z"⟩
abbrev cX10_goes : ByteArray := prog_12_method_38_code
def yX10_goes : MethodName := ⟨RX10, "goes", "(I)Z"⟩
abbrev cX10_hasLaw : ByteArray := prog_12_method_39_code
def yX10_hasLaw : MethodName := ⟨RX10, "hasLaw", "(I)Z"⟩
abbrev cX10_starts : ByteArray := prog_12_method_40_code
def yX10_starts : MethodName := ⟨RX10, "starts", "(I)V"⟩
abbrev cX10_begins : ByteArray := prog_12_method_41_code
def yX10_begins : MethodName := ⟨RX10, "begins", "()V"⟩
abbrev cX10_copies : ByteArray := prog_12_method_42_code
def yX10_copies : MethodName := ⟨RX10, "copies", "(II)V"⟩
abbrev cX10_isTin : ByteArray := prog_12_method_43_code
def yX10_isTin : MethodName := ⟨RX10, "isTin", "(I)Z"⟩
abbrev cX10_isKind : ByteArray := prog_12_method_44_code
def yX10_isKind : MethodName := ⟨RX10, "isKind", "(I)Z"⟩
abbrev cX10_isStack : ByteArray := prog_12_method_45_code
def yX10_isStack : MethodName := ⟨RX10, "isStack", "(I)Z"⟩
abbrev cX10_isClosed : ByteArray := prog_12_method_46_code
def yX10_isClosed : MethodName := ⟨RX10, "isClosed", "(II)Z"⟩
abbrev cX10_aboveOf : ByteArray := prog_12_method_47_code
def yX10_aboveOf : MethodName := ⟨RX10, "aboveOf", "(II)I"⟩
abbrev cX10_isOnTop : ByteArray := prog_12_method_48_code
def yX10_isOnTop : MethodName := ⟨RX10, "isOnTop", "(II)Z"⟩
abbrev cX10_calls : ByteArray := prog_12_method_49_code
def yX10_calls : MethodName := ⟨RX10, "calls", "(III)V"⟩
abbrev cX10_within : ByteArray := prog_12_method_50_code
def yX10_within : MethodName := ⟨RX10, "within", "(IIII)I"⟩
abbrev cX10_opens : ByteArray := prog_12_method_51_code
def yX10_opens : MethodName := ⟨RX10, "opens", "(II)V"⟩
abbrev cX10_opensTold : ByteArray := prog_12_method_52_code
def yX10_opensTold : MethodName := ⟨RX10, "opensTold", "(II)V"⟩
abbrev cX10_serves : ByteArray := prog_12_method_53_code
def yX10_serves : MethodName := ⟨RX10, "serves", "(III)I"⟩
abbrev cX10_doesRust : ByteArray := prog_12_method_54_code
def yX10_doesRust : MethodName := ⟨RX10, "doesRust", "(IIZ)Z"⟩
abbrev cX10_passes : ByteArray := prog_12_method_55_code
def yX10_passes : MethodName := ⟨RX10, "passes", "(IZ)V"⟩
abbrev cX10_goesOn : ByteArray := prog_12_method_56_code
def yX10_goesOn : MethodName := ⟨RX10, "goesOn", "(I)V"⟩
abbrev cX10_runs : ByteArray := prog_12_method_57_code
def yX10_runs : MethodName := ⟨RX10, "runs", "(I)V"⟩
abbrev cX10_tinsOf : ByteArray := prog_12_method_58_code
def yX10_tinsOf : MethodName := ⟨RX10, "tinsOf", "(II)I"⟩
abbrev cX10_wantsOf : ByteArray := prog_12_method_59_code
def yX10_wantsOf : MethodName := ⟨RX10, "wantsOf", "(II)I"⟩
abbrev cX10_tin : ByteArray := prog_12_method_60_code
def yX10_tin : MethodName := ⟨RX10, "tin", "(II)I"⟩
abbrev cX10_setOf : ByteArray := prog_12_method_61_code
def yX10_setOf : MethodName := ⟨RX10, "setOf", "(II)I"⟩
abbrev cX10_kind : ByteArray := prog_12_method_62_code
def yX10_kind : MethodName := ⟨RX10, "kind", "(II)I"⟩
abbrev cX10_want : ByteArray := prog_12_method_63_code
def yX10_want : MethodName := ⟨RX10, "want", "(II)I"⟩
abbrev cX10_top : ByteArray := prog_12_method_64_code
def yX10_top : MethodName := ⟨RX10, "top", "(I)I"⟩
abbrev cX10_law : ByteArray := prog_12_method_65_code
def yX10_law : MethodName := ⟨RX10, "law", "(III)J"⟩
abbrev cX10_keepNow : ByteArray := prog_12_method_66_code
def yX10_keepNow : MethodName := ⟨RX10, "keepNow", "()V"⟩
abbrev cX10_open : ByteArray := prog_12_method_67_code
def yX10_open : MethodName := ⟨RX10, "open", "(I)I"⟩
abbrev cX10_put : ByteArray := prog_12_method_68_code
def yX10_put : MethodName := ⟨RX10, "put", "(II)Z"⟩
abbrev cX10_dent : ByteArray := prog_12_method_69_code
def yX10_dent : MethodName := ⟨RX10, "dent", "(I)I"⟩
abbrev cX10_find : ByteArray := prog_12_method_70_code
def yX10_find : MethodName := ⟨RX10, "find", "(I)I"⟩
abbrev cX10_go : ByteArray := prog_12_method_71_code
def yX10_go : MethodName := ⟨RX10, "go", "(I)I"⟩
abbrev cX10_ahead : ByteArray := prog_12_method_72_code
def yX10_ahead : MethodName := ⟨RX10, "ahead", "(II)I"⟩
abbrev cX10_above : ByteArray := prog_12_method_73_code
def yX10_above : MethodName := ⟨RX10, "above", "(I)I"⟩
abbrev cX10_blows : ByteArray := prog_12_method_74_code
def yX10_blows : MethodName := ⟨RX10, "blows", "(I)I"⟩
abbrev cX10_rows : ByteArray := prog_12_method_75_code
def yX10_rows : MethodName := ⟨RX10, "rows", "(II)V"⟩
abbrev cX10_order : ByteArray := prog_12_method_76_code
def yX10_order : MethodName := ⟨RX10, "order", "(I)I"⟩
abbrev cX10_best : ByteArray := prog_12_method_77_code
def yX10_best : MethodName := ⟨RX10, "best", "(II)I"⟩
abbrev cX10_isTidy : ByteArray := prog_12_method_78_code
def yX10_isTidy : MethodName := ⟨RX10, "isTidy", "(II)Z"⟩
abbrev cX10_tidy : ByteArray := prog_12_method_79_code
def yX10_tidy : MethodName := ⟨RX10, "tidy", "(I)I"⟩
abbrev cX10_bitsOf : ByteArray := prog_12_method_80_code
def yX10_bitsOf : MethodName := ⟨RX10, "bitsOf", "(I)I"⟩
abbrev cX10_hasOf : ByteArray := prog_12_method_81_code
def yX10_hasOf : MethodName := ⟨RX10, "hasOf", "(III)I"⟩
abbrev cX10_isRest : ByteArray := prog_12_method_82_code
def yX10_isRest : MethodName := ⟨RX10, "isRest", "(III)Z"⟩
abbrev cX10_restOf : ByteArray := prog_12_method_83_code
def yX10_restOf : MethodName := ⟨RX10, "restOf", "(II)I"⟩
abbrev cX10_isOpen : ByteArray := prog_12_method_84_code
def yX10_isOpen : MethodName := ⟨RX10, "isOpen", "(I)Z"⟩
abbrev cX10_rests : ByteArray := prog_12_method_85_code
def yX10_rests : MethodName := ⟨RX10, "rests", "(I)I"⟩
abbrev cX10_rest : ByteArray := prog_12_method_86_code
def yX10_rest : MethodName := ⟨RX10, "rest", "(II)I"⟩
abbrev cX10_common : ByteArray := prog_12_method_87_code
def yX10_common : MethodName := ⟨RX10, "common", "(JJ)J"⟩
abbrev cX10_whole : ByteArray := prog_12_method_88_code
def yX10_whole : MethodName := ⟨RX10, "whole", "(II)J"⟩
abbrev cX10_unmet : ByteArray := prog_12_method_89_code
def yX10_unmet : MethodName := ⟨RX10, "unmet", "()I"⟩
abbrev cX10_noted : ByteArray := prog_12_method_90_code
def yX10_noted : MethodName := ⟨RX10, "noted", "(IIIZ)I"⟩
abbrev cX10_note : ByteArray := prog_12_method_91_code
def yX10_note : MethodName := ⟨RX10, "note", "(IIZ)I"⟩
abbrev cX10_see : ByteArray := prog_12_method_92_code
def yX10_see : MethodName := ⟨RX10, "see", "(IIZ)I"⟩
abbrev cX10_strike : ByteArray := prog_12_method_93_code
def yX10_strike : MethodName := ⟨RX10, "strike", "(I)I"⟩
abbrev cX10_known : ByteArray := prog_12_method_94_code
def yX10_known : MethodName := ⟨RX10, "known", "(I)Z"⟩
abbrev cX10_knownMany : ByteArray := prog_12_method_95_code
def yX10_knownMany : MethodName := ⟨RX10, "knownMany", "()I"⟩
abbrev cX10_strikes : ByteArray := prog_12_method_96_code
def yX10_strikes : MethodName := ⟨RX10, "strikes", "()V"⟩
abbrev cX10_isNoted : ByteArray := prog_12_method_97_code
def yX10_isNoted : MethodName := ⟨RX10, "isNoted", "(I)Z"⟩
abbrev cX10_whichOnes : ByteArray := prog_12_method_98_code
def yX10_whichOnes : MethodName := ⟨RX10, "whichOnes", "()I"⟩
abbrev cX10_which : ByteArray := prog_12_method_99_code
def yX10_which : MethodName := ⟨RX10, "which", "()I"⟩
abbrev cX10_ask : ByteArray := prog_12_method_100_code
def yX10_ask : MethodName := ⟨RX10, "ask", "(I)I"⟩
abbrev cX10_isSo : ByteArray := prog_12_method_101_code
def yX10_isSo : MethodName := ⟨RX10, "isSo", "(I)Z"⟩
abbrev cX10_fitsDents : ByteArray := prog_12_method_102_code
def yX10_fitsDents : MethodName := ⟨RX10, "fitsDents", "(III)Z"⟩
abbrev cX10_dented : ByteArray := prog_12_method_103_code
def yX10_dented : MethodName := ⟨RX10, "dented", "(I)I"⟩
abbrev cX10_chance : ByteArray := prog_12_method_104_code
def yX10_chance : MethodName := ⟨RX10, "chance", "(III)I"⟩
abbrev cX10_tried : ByteArray := prog_12_method_105_code
def yX10_tried : MethodName := ⟨RX10, "tried", "(III)I"⟩
abbrev cX10_undo : ByteArray := prog_12_method_106_code
def yX10_undo : MethodName := ⟨RX10, "undo", "()I"⟩
abbrev cX10_keep : ByteArray := prog_12_method_107_code
def yX10_keep : MethodName := ⟨RX10, "keep", "()I"⟩
abbrev cX10_back : ByteArray := prog_12_method_108_code
def yX10_back : MethodName := ⟨RX10, "back", "()I"⟩
abbrev cX10_count : ByteArray := prog_12_method_109_code
def yX10_count : MethodName := ⟨RX10, "count", "(I)I"⟩
def RJx145de : String := "java/io/Serializable"
def TJx145de : u_T := fun k => match k with
  | _ => ("", "", "", false)
def tyJx145de : Nat → FieldType := fun k => match k with
  | _ => .int
abbrev wsJx145de0 : List Cond := u_ws RJx145de TJx145de 0
theorem nmJx145de : ∀ a, a < 0 → ∀ b, b < 0 → a ≠ b → (TJx145de a).2.1 ≠ (TJx145de b).2.1 := by decide +kernel
theorem tyJx145de_ok : ∀ k, k < 0 → parseFieldDescriptor (TJx145de k).2.2.1 = some (tyJx145de k) := by decide +kernel
def RJx9f9b0 : String := "java/lang/CharSequence"
def TJx9f9b0 : u_T := fun k => match k with
  | _ => ("", "", "", false)
def tyJx9f9b0 : Nat → FieldType := fun k => match k with
  | _ => .int
abbrev wsJx9f9b00 : List Cond := u_ws RJx9f9b0 TJx9f9b0 0
theorem nmJx9f9b0 : ∀ a, a < 0 → ∀ b, b < 0 → a ≠ b → (TJx9f9b0 a).2.1 ≠ (TJx9f9b0 b).2.1 := by decide +kernel
theorem tyJx9f9b0_ok : ∀ k, k < 0 → parseFieldDescriptor (TJx9f9b0 k).2.2.1 = some (tyJx9f9b0 k) := by decide +kernel
def RJ11 : String := "java/lang/Character"
def TJ11 : u_T := fun k => match k with
  | _ => ("", "", "", false)
def tyJ11 : Nat → FieldType := fun k => match k with
  | _ => .int
abbrev wsJ110 : List Cond := u_ws RJ11 TJ11 0
theorem nmJ11 : ∀ a, a < 0 → ∀ b, b < 0 → a ≠ b → (TJ11 a).2.1 ≠ (TJ11 b).2.1 := by decide +kernel
theorem tyJ11_ok : ∀ k, k < 0 → parseFieldDescriptor (TJ11 k).2.2.1 = some (tyJ11 k) := by decide +kernel
abbrev cJ11_isValidCodePoint_9a6ad : ByteArray := prog_15_method_11_code
def yJ11_isValidCodePoint_9a6ad : MethodName := ⟨RJ11, "isValidCodePoint", "(I)Z"⟩
abbrev cJ11_highSurrogate_5068e : ByteArray := prog_15_method_28_code
def yJ11_highSurrogate_5068e : MethodName := ⟨RJ11, "highSurrogate", "(I)C"⟩
abbrev cJ11_lowSurrogate_5068e : ByteArray := prog_15_method_29_code
def yJ11_lowSurrogate_5068e : MethodName := ⟨RJ11, "lowSurrogate", "(I)C"⟩
def RJxb160c : String := "java/lang/Comparable"
def TJxb160c : u_T := fun k => match k with
  | _ => ("", "", "", false)
def tyJxb160c : Nat → FieldType := fun k => match k with
  | _ => .int
abbrev wsJxb160c0 : List Cond := u_ws RJxb160c TJxb160c 0
theorem nmJxb160c : ∀ a, a < 0 → ∀ b, b < 0 → a ≠ b → (TJxb160c a).2.1 ≠ (TJxb160c b).2.1 := by decide +kernel
theorem tyJxb160c_ok : ∀ k, k < 0 → parseFieldDescriptor (TJxb160c k).2.2.1 = some (tyJxb160c k) := by decide +kernel
def RJ6 : String := "java/lang/Integer"
def TJ6 : u_T := fun k => match k with
  | _ => ("", "", "", false)
def tyJ6 : Nat → FieldType := fun k => match k with
  | _ => .int
abbrev wsJ60 : List Cond := u_ws RJ6 TJ6 0
theorem nmJ6 : ∀ a, a < 0 → ∀ b, b < 0 → a ≠ b → (TJ6 a).2.1 ≠ (TJ6 b).2.1 := by decide +kernel
theorem tyJ6_ok : ∀ k, k < 0 → parseFieldDescriptor (TJ6 k).2.2.1 = some (tyJ6 k) := by decide +kernel
abbrev cJ6_bitCount_0f7a4 : ByteArray := prog_19_method_49_code
def yJ6_bitCount_0f7a4 : MethodName := ⟨RJ6, "bitCount", "(I)I"⟩
def RJ9 : String := "java/lang/Math"
def TJ9 : u_T := fun k => match k with
  | _ => ("", "", "", false)
def tyJ9 : Nat → FieldType := fun k => match k with
  | _ => .int
abbrev wsJ90 : List Cond := u_ws RJ9 TJ9 0
theorem nmJ9 : ∀ a, a < 0 → ∀ b, b < 0 → a ≠ b → (TJ9 a).2.1 ≠ (TJ9 b).2.1 := by decide +kernel
theorem tyJ9_ok : ∀ k, k < 0 → parseFieldDescriptor (TJ9 k).2.2.1 = some (tyJ9 k) := by decide +kernel
abbrev cJ9_abs_067f4 : ByteArray := prog_20_method_61_code
def yJ9_abs_067f4 : MethodName := ⟨RJ9, "abs", "(J)J"⟩
abbrev cJ9_max_7cf53 : ByteArray := prog_20_method_65_code
def yJ9_max_7cf53 : MethodName := ⟨RJ9, "max", "(II)I"⟩
abbrev cJ9_max_f86c9 : ByteArray := prog_20_method_66_code
def yJ9_max_f86c9 : MethodName := ⟨RJ9, "max", "(JJ)J"⟩
abbrev cJ9_min_7cf53 : ByteArray := prog_20_method_69_code
def yJ9_min_7cf53 : MethodName := ⟨RJ9, "min", "(II)I"⟩
abbrev cJ9_min_f86c9 : ByteArray := prog_20_method_70_code
def yJ9_min_f86c9 : MethodName := ⟨RJ9, "min", "(JJ)J"⟩
def RJ0 : String := "java/lang/String"
def TJ0 : u_T := fun k => match k with
  | _ => ("", "", "", false)
def tyJ0 : Nat → FieldType := fun k => match k with
  | _ => .int
abbrev wsJ00 : List Cond := u_ws RJ0 TJ0 0
theorem nmJ0 : ∀ a, a < 0 → ∀ b, b < 0 → a ≠ b → (TJ0 a).2.1 ≠ (TJ0 b).2.1 := by decide +kernel
theorem tyJ0_ok : ∀ k, k < 0 → parseFieldDescriptor (TJ0 k).2.2.1 = some (tyJ0 k) := by decide +kernel
abbrev cJ0_length_8abf5 : ByteArray := prog_22_method_54_code
def yJ0_length_8abf5 : MethodName := ⟨RJ0, "length", "()I"⟩
abbrev cJ0_charAt_5068e : ByteArray := prog_22_method_56_code
def yJ0_charAt_5068e : MethodName := ⟨RJ0, "charAt", "(I)C"⟩
abbrev cJ0_indexOf_0f7a4 : ByteArray := prog_22_method_79_code
def yJ0_indexOf_0f7a4 : MethodName := ⟨RJ0, "indexOf", "(I)I"⟩
abbrev cJ0_indexOf_7cf53 : ByteArray := prog_22_method_80_code
def yJ0_indexOf_7cf53 : MethodName := ⟨RJ0, "indexOf", "(II)I"⟩
abbrev cJ0_coder_7d493 : ByteArray := prog_22_method_152_code
def yJ0_coder_7d493 : MethodName := ⟨RJ0, "coder", "()B"⟩
abbrev cJ0_isLatin1_aae02 : ByteArray := prog_22_method_154_code
def yJ0_isLatin1_aae02 : MethodName := ⟨RJ0, "isLatin1", "()Z"⟩
abbrev cJ0_checkIndex_df160 : ByteArray := prog_22_method_155_code
def yJ0_checkIndex_df160 : MethodName := ⟨RJ0, "checkIndex", "(II)V"⟩
abbrev cJ0_checkBoundsBeginEnd_23922 : ByteArray := prog_22_method_158_code
def yJ0_checkBoundsBeginEnd_23922 : MethodName := ⟨RJ0, "checkBoundsBeginEnd", "(III)V"⟩
def RJ1 : String := "java/lang/StringLatin1"
def TJ1 : u_T := fun k => match k with
  | _ => ("", "", "", false)
def tyJ1 : Nat → FieldType := fun k => match k with
  | _ => .int
abbrev wsJ10 : List Cond := u_ws RJ1 TJ1 0
theorem nmJ1 : ∀ a, a < 0 → ∀ b, b < 0 → a ≠ b → (TJ1 a).2.1 ≠ (TJ1 b).2.1 := by decide +kernel
theorem tyJ1_ok : ∀ k, k < 0 → parseFieldDescriptor (TJ1 k).2.2.1 = some (tyJ1 k) := by decide +kernel
abbrev cJ1_charAt_3b067 : ByteArray := prog_23_method_2_code
def yJ1_charAt_3b067 : MethodName := ⟨RJ1, "charAt", "([BI)C"⟩
abbrev cJ1_canEncode_9a6ad : ByteArray := prog_23_method_4_code
def yJ1_canEncode_9a6ad : MethodName := ⟨RJ1, "canEncode", "(I)Z"⟩
abbrev cJ1_indexOf_4cfef : ByteArray := prog_23_method_22_code
def yJ1_indexOf_4cfef : MethodName := ⟨RJ1, "indexOf", "([BIII)I"⟩
abbrev cJ1_indexOfChar_4cfef : ByteArray := prog_23_method_23_code
def yJ1_indexOfChar_4cfef : MethodName := ⟨RJ1, "indexOfChar", "([BIII)I"⟩
def RJ2 : String := "java/lang/StringUTF16"
def TJ2 : u_T := fun k => match k with
  | _ => ("", "", "", false)
def tyJ2 : Nat → FieldType := fun k => match k with
  | _ => .int
abbrev wsJ20 : List Cond := u_ws RJ2 TJ2 0
theorem nmJ2 : ∀ a, a < 0 → ∀ b, b < 0 → a ≠ b → (TJ2 a).2.1 ≠ (TJ2 b).2.1 := by decide +kernel
theorem tyJ2_ok : ∀ k, k < 0 → parseFieldDescriptor (TJ2 k).2.2.1 = some (tyJ2 k) := by decide +kernel
abbrev cJ2_getChar_3b067 : ByteArray := prog_24_method_5_code
def yJ2_getChar_3b067 : MethodName := ⟨RJ2, "getChar", "([BI)C"⟩
abbrev cJ2_length_9d52b : ByteArray := prog_24_method_6_code
def yJ2_length_9d52b : MethodName := ⟨RJ2, "length", "([B)I"⟩
abbrev cJ2_indexOf_4cfef : ByteArray := prog_24_method_40_code
def yJ2_indexOf_4cfef : MethodName := ⟨RJ2, "indexOf", "([BIII)I"⟩
abbrev cJ2_indexOfChar_4cfef : ByteArray := prog_24_method_47_code
def yJ2_indexOfChar_4cfef : MethodName := ⟨RJ2, "indexOfChar", "([BIII)I"⟩
abbrev cJ2_indexOfCharUnsafe_4cfef : ByteArray := prog_24_method_48_code
def yJ2_indexOfCharUnsafe_4cfef : MethodName := ⟨RJ2, "indexOfCharUnsafe", "([BIII)I"⟩
abbrev cJ2_indexOfSupplementary_4cfef : ByteArray := prog_24_method_49_code
def yJ2_indexOfSupplementary_4cfef : MethodName := ⟨RJ2, "indexOfSupplementary", "([BIII)I"⟩
abbrev cJ2_charAt_3b067 : ByteArray := prog_24_method_83_code
def yJ2_charAt_3b067 : MethodName := ⟨RJ2, "charAt", "([BI)C"⟩
abbrev cJ2_checkIndex_2214a : ByteArray := prog_24_method_91_code
def yJ2_checkIndex_2214a : MethodName := ⟨RJ2, "checkIndex", "(I[B)V"⟩
abbrev cJ2_checkBoundsBeginEnd_d044e : ByteArray := prog_24_method_93_code
def yJ2_checkBoundsBeginEnd_d044e : MethodName := ⟨RJ2, "checkBoundsBeginEnd", "(II[B)V"⟩
def RJ10 : String := "java/lang/System"
def TJ10 : u_T := fun k => match k with
  | _ => ("", "", "", false)
def tyJ10 : Nat → FieldType := fun k => match k with
  | _ => .int
abbrev wsJ100 : List Cond := u_ws RJ10 TJ10 0
theorem nmJ10 : ∀ a, a < 0 → ∀ b, b < 0 → a ≠ b → (TJ10 a).2.1 ≠ (TJ10 b).2.1 := by decide +kernel
theorem tyJ10_ok : ∀ k, k < 0 → parseFieldDescriptor (TJ10 k).2.2.1 = some (tyJ10 k) := by decide +kernel
def RJxfd54e : String := "java/lang/constant/Constable"
def TJxfd54e : u_T := fun k => match k with
  | _ => ("", "", "", false)
def tyJxfd54e : Nat → FieldType := fun k => match k with
  | _ => .int
abbrev wsJxfd54e0 : List Cond := u_ws RJxfd54e TJxfd54e 0
theorem nmJxfd54e : ∀ a, a < 0 → ∀ b, b < 0 → a ≠ b → (TJxfd54e a).2.1 ≠ (TJxfd54e b).2.1 := by decide +kernel
theorem tyJxfd54e_ok : ∀ k, k < 0 → parseFieldDescriptor (TJxfd54e k).2.2.1 = some (tyJxfd54e k) := by decide +kernel
def RJx3cf43 : String := "java/lang/constant/ConstantDesc"
def TJx3cf43 : u_T := fun k => match k with
  | _ => ("", "", "", false)
def tyJx3cf43 : Nat → FieldType := fun k => match k with
  | _ => .int
abbrev wsJx3cf430 : List Cond := u_ws RJx3cf43 TJx3cf43 0
theorem nmJx3cf43 : ∀ a, a < 0 → ∀ b, b < 0 → a ≠ b → (TJx3cf43 a).2.1 ≠ (TJx3cf43 b).2.1 := by decide +kernel
theorem tyJx3cf43_ok : ∀ k, k < 0 → parseFieldDescriptor (TJx3cf43 k).2.2.1 = some (tyJx3cf43 k) := by decide +kernel
def RJ3 : String := "jdk/internal/util/Preconditions"
def TJ3 : u_T := fun k => match k with
  | _ => ("", "", "", false)
def tyJ3 : Nat → FieldType := fun k => match k with
  | _ => .int
abbrev wsJ30 : List Cond := u_ws RJ3 TJ3 0
theorem nmJ3 : ∀ a, a < 0 → ∀ b, b < 0 → a ≠ b → (TJ3 a).2.1 ≠ (TJ3 b).2.1 := by decide +kernel
theorem tyJ3_ok : ∀ k, k < 0 → parseFieldDescriptor (TJ3 k).2.2.1 = some (tyJ3 k) := by decide +kernel
abbrev cJ3_checkIndex_8e157 : ByteArray := prog_30_method_11_code
def yJ3_checkIndex_8e157 : MethodName := ⟨RJ3, "checkIndex", "(IILjava/util/function/BiFunction;)I"⟩
abbrev cJ3_checkFromToIndex_8c36e : ByteArray := prog_30_method_12_code
def yJ3_checkFromToIndex_8c36e : MethodName := ⟨RJ3, "checkFromToIndex", "(IIILjava/util/function/BiFunction;)I"⟩
def RL : String := "TinNationLaw"
abbrev cL_tin : ByteArray := method_3_code
def yL_tin : MethodName := ⟨RL, "tin", "(LTinNation;II[J)I"⟩
abbrev cL_law : ByteArray := code
def yL_law : MethodName := ⟨RL, "law", "([I)Z"⟩
abbrev vwCl : List vw_C := [(RX0, TX0, 5), (RX1, TX1, 7), (RX2, TX2, 6), (RX3, TX3, 10), (RX4, TX4, 3), (RX5, TX5, 7), (RX6, TX6, 15), (RX7, TX7, 1), (RX8, TX8, 2), (RX9, TX9, 13), (RX10, TX10, 66)]
end
section
/-- where a static field lies, its class's statics cell in H -/
def vx_L (C n d : String) (A : Nat → Prop) (U : State) (H : Heap) : Prop := ∃ (c : ClassId) (k : Class) (i : Nat) (f : Field) (a : Nat) (cell : Cell), U.vm.findClass C = some c ∧ U.fieldFound? C n d = some (c, k, i, f) ∧ f.isStatic = true ∧ k.statics = some a ∧ H[a]? = some cell ∧ cell.vm.isStatics = true ∧ cell.cls = c ∧ f.slot < cell.slots.size ∧ k.staticTypes[f.slot]? = some f.type ∧ ¬ A a
theorem vx_L.moved {C n d : String} {A : Nat → Prop} {u U : State} {H : Heap} (hvm : u.vm.Alike U.vm) (h : vx_L C n d A u H) : vx_L C n d A U H := by
  obtain ⟨c, k, i, f, a, cell, h1, h2, h3, h4, h5, h6, h7, h8, h9, h10⟩ := h
  obtain ⟨k', hi', he⟩ := State.fieldFound?_setVm hvm h2
  exact ⟨c, k', i, f, a, cell, by rw [hvm.findClass]; exact h1, hi', h3, by rw [he]; exact h4, h5, h6, h7, h8, by rw [he]; exact h9, h10⟩
theorem vx_L.kept {C n d : String} {A : Nat → Prop} {U : State} {H H1 : Heap} (h : vx_L C n d A U H) (hq : ∀ a : Nat, a < H.size → ¬ A a → H1[a]? = H[a]?) : vx_L C n d A U H1 := by
  obtain ⟨c, k, i, f, a, cell, h1, h2, h3, h4, h5, h6, h7, h8, h9, h10⟩ := h
  exact ⟨c, k, i, f, a, cell, h1, h2, h3, h4, by rw [hq a (Array.getElem?_eq_some_iff.mp h5).1 h10]; exact h5, h6, h7, h8, h9, h10⟩
theorem vx_L.narrow {C n d : String} {A B : Nat → Prop} {U : State} {H : Heap} (h : vx_L C n d A U H) (hAB : ∀ q, B q → A q) : vx_L C n d B U H := by
  obtain ⟨c, k, i, f, a, cell, h1, h2, h3, h4, h5, h6, h7, h8, h9, h10⟩ := h
  exact ⟨c, k, i, f, a, cell, h1, h2, h3, h4, h5, h6, h7, h8, h9, fun z => h10 (hAB _ z)⟩
theorem vx_L.word {C n d : String} {A : Nat → Prop} {s : State} {args : Array Value} (h : vx_L C n d A s s.heap) : (Cond.laysStatic C n d).before args s = true := by
  obtain ⟨c, k, i, f, a, cell, h1, h2, h3, h4, h5, h6, h7, h8, h9, -⟩ := h
  show (Cond.laysStatic C n d).holds args s none s [] = true
  exact Cond.laysStatic_of h1 h2 h3 h4 h5 h6 h7 h8 h9
/-- .. and what it holds: null or some reference -/
def vx_Zq (C n d : String) (A : Nat → Prop) (U : State) (H : Heap) : Prop := va_Zq C n d A U H ∧ vx_L C n d A U H
theorem vx_Zq.moved {C n d : String} {A : Nat → Prop} {u U : State} {H : Heap} (hvm : u.vm.Alike U.vm) (h : vx_Zq C n d A u H) : vx_Zq C n d A U H := ⟨va_Zq.moved hvm h.1, vx_L.moved hvm h.2⟩
theorem vx_Zq.kept {C n d : String} {A : Nat → Prop} {U : State} {H H1 : Heap} (h : vx_Zq C n d A U H) (hq : ∀ a : Nat, a < H.size → ¬ A a → H1[a]? = H[a]?) : vx_Zq C n d A U H1 := ⟨va_Zq.kept h.1 hq, vx_L.kept h.2 hq⟩
theorem vx_Zq.narrow {C n d : String} {A B : Nat → Prop} {U : State} {H : Heap} (h : vx_Zq C n d A U H) (hAB : ∀ q, B q → A q) : vx_Zq C n d B U H := ⟨va_Zq.narrow h.1 hAB, vx_L.narrow h.2 hAB⟩
theorem vx_Zqof {args : Array Value} {s : State} {C n d : String} {A : Nat → Prop} (hl : (Cond.laysStatic C n d).before args s = true) (hini : (Cond.initialized C).before args s = true) (h : (Cond.isRef (.static C n d)).before args s = true) (hA : ∀ a : Nat, a < s.heap.size → ¬ A a) : vx_Zq C n d A s s.heap := by
  refine ⟨va_Zqof hl hini h hA, ?_⟩
  obtain ⟨c, k, i, f, a, cell, h1, h2, h3, h4, h5, h6, h7, h8, h9⟩ := Cond.laysStatic_spec hl
  exact ⟨c, k, i, f, a, cell, h1, h2, h3, h4, h5, h6, h7, h8, h9, hA a (Array.getElem?_eq_some_iff.mp h5).1⟩
def va_AOA (ty : FieldType) (U : State) : Prop := (Cond.arrayOver (.array ty)).before #[] U = true
theorem va_AOA.use {ty : FieldType} {A : Array Value} {U : State} (h : va_AOA ty U) : (Cond.arrayOver (.array ty)).before A U = true := h
theorem va_AOA.moved {ty : FieldType} {u U : State} (hvm : u.vm.Alike U.vm) (h : va_AOA ty u) : va_AOA ty U := by
  have hb : U.vm.bare = u.vm.bare := by first | exact hvm.bare_eq | exact hvm.bare_eq.symm
  have hi : ∀ comp : ClassId, (U.vm.classes.findIdx? fun (x : Class) => match x.kind with | .array component _ => component == comp | _ => false) = (u.vm.classes.findIdx? fun (x : Class) => match x.kind with | .array component _ => component == comp | _ => false) := fun comp => by
    have e := va_idx_bare U.vm comp
    rw [hb] at e
    exact e.symm.trans (va_idx_bare u.vm comp)
  have h0 := h
  unfold va_AOA Cond.before Cond.holds at h0
  simp only [Cond.value, beq_iff_eq] at h0
  cases hc : u.vm.findClass (FieldType.array ty).toString with
  | none => rw [hc] at h0; simp at h0
  | some comp =>
    rw [hc, Option.bind_some, Option.bind_eq_some_iff] at h0
    obtain ⟨c, hx, h0⟩ := h0
    cases hk : u.vm.classes[c]? with
    | none => rw [hk] at h0; simp at h0
    | some k =>
      obtain ⟨k', hk', he⟩ := hvm.2.2 _ _ hk
      have hkind : k'.kind = k.kind := by rw [he]
      have f1 : U.vm.findClass (FieldType.array ty).toString = some comp := by rw [hvm.findClass]; exact hc
      have f2 : U.vm.findClass ("[" ++ (FieldType.array ty).toString) = u.vm.findClass ("[" ++ (FieldType.array ty).toString) := by rw [hvm.findClass]
      unfold va_AOA Cond.before Cond.holds
      simp only [Cond.value]
      rw [f1, Option.bind_some]
      refine (congrArg (fun o : Option Nat => (o.bind (fun c => (U.vm.classes[c]?).map fun (k : Class) => match k.kind with | .array _ t => decide (t = FieldType.array ty) && decide (U.vm.findClass ("[" ++ (FieldType.array ty).toString) = some c) | _ => false) == some true)) ((hi comp).trans hx)).trans ?_
      rw [hk] at h0
      simp only [Option.bind_some, hk', Option.map_some, hkind, f2, beq_iff_eq] at h0 ⊢
      exact h0

/-! ===== the words as one list; a method; memory ===== -/
def gtbl : List Cond := lw_tbl.filter goodWord
theorem mem_g {w : Cond} (i : Nat) (h : lw_tbl[i]? = some w) (hg : goodWord w = true) : w ∈ gtbl := List.mem_filter.mpr ⟨List.mem_of_getElem? h, hg⟩
theorem g_good {w : Cond} (h : w ∈ gtbl) : (w.onTables && w.keeps) = true ∨ ∃ ty, w = .arrayClass ty := good_of_word (List.mem_filter.mp h).2
/-- a method: its name, bytes, locals, answer, and its instructions: place, instruction, next place, length -/
abbrev MD : Type := MethodName × ByteArray × Nat × Option FieldType × List (Nat × Instr × Nat × Nat)
def wsM (M : MD) : List Cond := Cond.code M.1 M.2.1 M.2.2.1 M.2.2.2.1 :: gtbl
def lkL : List (Nat × Instr × Nat × Nat) → Nat → Option (Instr × Nat × Nat)
  | [], _ => none
  | x :: t, pc => match Nat.beq x.1 pc with
    | true => some x.2
    | false => lkL t pc
def lk (M : MD) (pc : Nat) : Option (Instr × Nat × Nat) := lkL M.2.2.2.2 pc
theorem lkL_mem {L : List (Nat × Instr × Nat × Nat)} {pc : Nat} {y : Instr × Nat × Nat} (h : lkL L pc = some y) : (pc, y) ∈ L := by
  induction L with
  | nil => cases h
  | cons x t ih =>
    unfold lkL at h
    cases hb : Nat.beq x.1 pc with
    | true =>
      rw [hb] at h
      have e := Nat.eq_of_beq_eq_true hb
      obtain ⟨x1, x2⟩ := x
      cases h
      dsimp only at e
      subst e
      exact List.mem_cons_self
    | false =>
      rw [hb] at h
      exact List.mem_cons_of_mem _ (ih h)
/-- its listing is what its bytes say -/
def MDe (M : MD) : Prop := ∀ x ∈ M.2.2.2.2, decode M.2.1 x.1 = .ok (x.2.1, x.2.2.2) ∧ x.2.2.1 = x.1 + x.2.2.2
def MOk (M : MD) : Prop := plainName M.1.cls = true ∧ Cond.code M.1 M.2.1 M.2.2.1 M.2.2.2.1 ∈ gtbl ∧ Cond.initialized M.1.cls ∈ gtbl ∧ (M.1.cls ≠ "java/lang/invoke/MethodHandle" ∧ M.1.cls ≠ "java/lang/invoke/VarHandle") ∧ M.2.2.1 ≤ 40 ∧ MDe M
/-- ints, longs, references, shapes (a kind and a length), how many cells -/
abbrev Hp : Type := (Nat → Nat → Int32) × (Nat → Nat → Int64) × (Nat → Nat → Option Nat) × (Nat → Nat × Nat) × Nat
def mI (h : Hp) : Nat → Nat → Int32 := h.1
def mJ (h : Hp) : Nat → Nat → Int64 := h.2.1
def mP (h : Hp) : Nat → Nat → Option Nat := h.2.2.1
def mS (h : Hp) : Nat → Nat × Nat := h.2.2.2.1
def mN (h : Hp) : Nat := h.2.2.2.2
def wI (h : Hp) (a k : Nat) (v : Int32) : Hp := (fun a' k' => if a' = a ∧ k' = k then v else h.1 a' k', h.2)
def wJ (h : Hp) (a k : Nat) (v : Int64) : Hp := (h.1, fun a' k' => if a' = a ∧ k' = k then v else h.2.1 a' k', h.2.2)
def wP (h : Hp) (a k : Nat) (v : Option Nat) : Hp := (h.1, h.2.1, fun a' k' => if a' = a ∧ k' = k then v else h.2.2.1 a' k', h.2.2.2)
/-- a whole row of ints -/
def wR (h : Hp) (a : Nat) (f : Nat → Int32) : Hp := (fun a' k' => if a' = a then f k' else h.1 a' k', h.2)
/-- a new cell -/
def nA (h : Hp) (kd len : Nat) : Hp := (fun a' k' => if a' = mN h then 0 else h.1 a' k', fun a' k' => if a' = mN h then 0 else h.2.1 a' k', fun a' k' => if a' = mN h then none else h.2.2.1 a' k', fun a' => if a' = mN h then (kd, len) else h.2.2.2.1 a', mN h + 1)
theorem mI_wI (h : Hp) (a k : Nat) (v : Int32) (a' k' : Nat) : mI (wI h a k v) a' k' = if a' = a ∧ k' = k then v else mI h a' k' := rfl
theorem mI_wJ (h : Hp) (a k : Nat) (v : Int64) : mI (wJ h a k v) = mI h := rfl
theorem mI_wP (h : Hp) (a k : Nat) (v : Option Nat) : mI (wP h a k v) = mI h := rfl
theorem mI_wR (h : Hp) (a : Nat) (f : Nat → Int32) (a' k' : Nat) : mI (wR h a f) a' k' = if a' = a then f k' else mI h a' k' := rfl
theorem mJ_wI (h : Hp) (a k : Nat) (v : Int32) : mJ (wI h a k v) = mJ h := rfl
theorem mJ_wR (h : Hp) (a : Nat) (f : Nat → Int32) : mJ (wR h a f) = mJ h := rfl
theorem mJ_wJ (h : Hp) (a k : Nat) (v : Int64) (a' k' : Nat) : mJ (wJ h a k v) a' k' = if a' = a ∧ k' = k then v else mJ h a' k' := rfl
theorem mP_wI (h : Hp) (a k : Nat) (v : Int32) : mP (wI h a k v) = mP h := rfl
theorem mP_wJ (h : Hp) (a k : Nat) (v : Int64) : mP (wJ h a k v) = mP h := rfl
theorem mP_wR (h : Hp) (a : Nat) (f : Nat → Int32) : mP (wR h a f) = mP h := rfl
theorem mP_wP (h : Hp) (a k : Nat) (v : Option Nat) (a' k' : Nat) : mP (wP h a k v) a' k' = if a' = a ∧ k' = k then v else mP h a' k' := rfl
theorem mS_wI (h : Hp) (a k : Nat) (v : Int32) : mS (wI h a k v) = mS h := rfl
theorem mS_wJ (h : Hp) (a k : Nat) (v : Int64) : mS (wJ h a k v) = mS h := rfl
theorem mS_wP (h : Hp) (a k : Nat) (v : Option Nat) : mS (wP h a k v) = mS h := rfl
theorem mS_wR (h : Hp) (a : Nat) (f : Nat → Int32) : mS (wR h a f) = mS h := rfl

def kC : Nat → String
  | 0 => RX0
  | 1 => RX1
  | 2 => RX2
  | 3 => RX3
  | 4 => RX4
  | 5 => RX5
  | 6 => RX6
  | 7 => RX7
  | 8 => RX8
  | 9 => RX9
  | 10 => RX10
  | _ => RX0
def kT : Nat → u_T
  | 0 => TX0
  | 1 => TX1
  | 2 => TX2
  | 3 => TX3
  | 4 => TX4
  | 5 => TX5
  | 6 => TX6
  | 7 => TX7
  | 8 => TX8
  | 9 => TX9
  | 10 => TX10
  | _ => TX0
def kN : Nat → Nat
  | 0 => 5
  | 1 => 7
  | 2 => 6
  | 3 => 10
  | 4 => 3
  | 5 => 7
  | 6 => 15
  | 7 => 1
  | 8 => 2
  | 9 => 13
  | 10 => 66
  | _ => 0
def kTy : Nat → Nat → FieldType
  | 0 => tyX0
  | 1 => tyX1
  | 2 => tyX2
  | 3 => tyX3
  | 4 => tyX4
  | 5 => tyX5
  | 6 => tyX6
  | 7 => tyX7
  | 8 => tyX8
  | 9 => tyX9
  | 10 => tyX10
  | _ => tyX0
theorem k_cl : ∀ kd : Nat, kd < 11 → vwCl[kd]? = some (kC kd, kT kd, kN kd)
  | 0, _ => rfl
  | 1, _ => rfl
  | 2, _ => rfl
  | 3, _ => rfl
  | 4, _ => rfl
  | 5, _ => rfl
  | 6, _ => rfl
  | 7, _ => rfl
  | 8, _ => rfl
  | 9, _ => rfl
  | 10, _ => rfl
  | n + 11, h => absurd h (by omega)
theorem k_ty : ∀ kd : Nat, kd < 11 → ∀ k, k < kN kd → parseFieldDescriptor (kT kd k).2.2.1 = some (kTy kd k)
  | 0, _ => tyX0_ok
  | 1, _ => tyX1_ok
  | 2, _ => tyX2_ok
  | 3, _ => tyX3_ok
  | 4, _ => tyX4_ok
  | 5, _ => tyX5_ok
  | 6, _ => tyX6_ok
  | 7, _ => tyX7_ok
  | 8, _ => tyX8_ok
  | 9, _ => tyX9_ok
  | 10, _ => tyX10_ok
  | n + 11, h => absurd h (by omega)
theorem k_nm : ∀ kd : Nat, kd < 11 → ∀ a, a < kN kd → ∀ b, b < kN kd → a ≠ b → (kT kd a).2.1 ≠ (kT kd b).2.1
  | 0, _ => nmX0
  | 1, _ => nmX1
  | 2, _ => nmX2
  | 3, _ => nmX3
  | 4, _ => nmX4
  | 5, _ => nmX5
  | 6, _ => nmX6
  | 7, _ => nmX7
  | 8, _ => nmX8
  | 9, _ => nmX9
  | 10, _ => nmX10
  | n + 11, h => absurd h (by omega)
theorem k_in0 : ∀ w ∈ u_ws RX0 TX0 5, w ∈ lw_tbl ∧ goodWord w = true := by decide +kernel
theorem k_in1 : ∀ w ∈ u_ws RX1 TX1 7, w ∈ lw_tbl ∧ goodWord w = true := by decide +kernel
theorem k_in2 : ∀ w ∈ u_ws RX2 TX2 6, w ∈ lw_tbl ∧ goodWord w = true := by decide +kernel
theorem k_in3 : ∀ w ∈ u_ws RX3 TX3 10, w ∈ lw_tbl ∧ goodWord w = true := by decide +kernel
theorem k_in4 : ∀ w ∈ u_ws RX4 TX4 3, w ∈ lw_tbl ∧ goodWord w = true := by decide +kernel
theorem k_in5 : ∀ w ∈ u_ws RX5 TX5 7, w ∈ lw_tbl ∧ goodWord w = true := by decide +kernel
theorem k_in6 : ∀ w ∈ u_ws RX6 TX6 15, w ∈ lw_tbl ∧ goodWord w = true := by decide +kernel
theorem k_in7 : ∀ w ∈ u_ws RX7 TX7 1, w ∈ lw_tbl ∧ goodWord w = true := by decide +kernel
theorem k_in8 : ∀ w ∈ u_ws RX8 TX8 2, w ∈ lw_tbl ∧ goodWord w = true := by decide +kernel
theorem k_in9 : ∀ w ∈ u_ws RX9 TX9 13, w ∈ lw_tbl ∧ goodWord w = true := by decide +kernel
theorem k_in10 : ∀ w ∈ u_ws RX10 TX10 66, w ∈ lw_tbl ∧ goodWord w = true := by decide +kernel
theorem k_in : ∀ kd : Nat, kd < 11 → ∀ w ∈ u_ws (kC kd) (kT kd) (kN kd), w ∈ gtbl
  | 0, _ => fun w h => List.mem_filter.mpr (k_in0 w h)
  | 1, _ => fun w h => List.mem_filter.mpr (k_in1 w h)
  | 2, _ => fun w h => List.mem_filter.mpr (k_in2 w h)
  | 3, _ => fun w h => List.mem_filter.mpr (k_in3 w h)
  | 4, _ => fun w h => List.mem_filter.mpr (k_in4 w h)
  | 5, _ => fun w h => List.mem_filter.mpr (k_in5 w h)
  | 6, _ => fun w h => List.mem_filter.mpr (k_in6 w h)
  | 7, _ => fun w h => List.mem_filter.mpr (k_in7 w h)
  | 8, _ => fun w h => List.mem_filter.mpr (k_in8 w h)
  | 9, _ => fun w h => List.mem_filter.mpr (k_in9 w h)
  | 10, _ => fun w h => List.mem_filter.mpr (k_in10 w h)
  | n + 11, h => absurd h (by omega)
/-- what a place of a kind holds: 0 an int, 1 a long, 2 a reference -/
def sty (kd k : Nat) : Nat := if kd < 11 then (match kTy kd k with
  | .long => 1
  | .object _ => 2
  | .array _ => 2
  | _ => 0) else if kd = 23 then 1 else if kd = 24 then 2 else 0
/-- the arrays' kinds: int, byte, boolean, long, int[] -/
def aTy : Nat → FieldType
  | 20 => .int
  | 21 => .byte
  | 22 => .boolean
  | 23 => .long
  | _ => .array .int
/-- what stays: the classes' numbers and slots, the arrays' classes, where our cells begin, the heap at first, the texts' cells -/
abbrev GG : Type := va_G × (Nat → ClassId) × Nat × Heap × (Nat → Nat) × Nat × (Nat → Int32)
def gD (G : GG) : va_G := G.1
def gC (G : GG) : Nat → ClassId := G.2.1
def gB (G : GG) : Nat := G.2.2.1
def gH (G : GG) : Heap := G.2.2.2.1
def gA (G : GG) : Nat → Nat := G.2.2.2.2.1
/-- the script: its length, its ints -/
def gL (G : GG) : Nat := G.2.2.2.2.2.1
def gX (G : GG) : Nat → Int32 := G.2.2.2.2.2.2
def tv (G : GG) : Value → Value
  | .ref k => .ref (gB G + k)
  | .retAddr k => .ref (gA G k)
  | v => v
def cv (G : GG) (h : Hp) (kd a : Nat) : Nat → Value := fun k => if sty kd k = 0 then .int (mI h a k) else if sty kd k = 1 then .long (mJ h a k) else va_rf ((mP h a k).map (gB G + ·))
def cAt (G : GG) (h : Hp) (a : Nat) (H : Heap) : Prop :=
  if (mS h a).1 < 11 then t_OB (gB G + a) ((gD G).1 (mS h a).1) (kN (mS h a).1) ((gD G).2 (mS h a).1) H (cv G h (mS h a).1 a)
  else if (mS h a).1 < 30 then H[gB G + a]? = some (arrV (gC G (mS h a).1) (mS h a).2 (cv G h (mS h a).1 a)) else True
def HR (G : GG) (h : Hp) (H : Heap) : Prop := H.size = gB G + mN h ∧ (∀ q, q < gB G → H[q]? = (gH G)[q]?) ∧ (∀ a, a < mN h → cAt G h a H) ∧ ∀ a, mN h ≤ a → 30 ≤ (mS h a).1
/-- the words of nest mates -/
def nws : List (String × Nat × MethodName) := [("TinNation", 17, yX2_init), ("TinNation$Parser", 11, yX3_init), ("TinNation$Plan", 31, yX1_init), ("TinNation", 24, yX3_init), ("TinNation", 40, yX6_init), ("TinNation", 53, yX8_init), ("TinNation", 60, yX7_init), ("TinNation$Laws", 41, yX9_isBit), ("TinNation$Days", 146, yX9_isBit), ("TinNation$Told", 47, yX9_isBit)]
/-- the texts: class, entry, text, number; lengths, bytes -/
def strs : List (String × Nat × String × Nat) := [("TinNation$Scanner", 19, "kind  tin   open  want  keys  rust  seed  law   fresh glory blow  dents keeps weightsound worth left  day   not   and   or    ", 0), ("TinNation$Scanner", 59, "()*+-/;<=>", 1), ("TinNation", 127, "no such tin", 2), ("TinNation", 153, "no such thing of a tin", 3), ("TinNationModel", 194, "kind tin open want keys rust seed law fresh glory blow or and not dents keeps weight sound worth left day ", 4)]
def lenS : List Nat := [126, 10, 11, 22, 106]
def bytS : List (List Int32) := [[107, 105, 110, 100, 32, 32, 116, 105, 110, 32, 32, 32, 111, 112, 101, 110, 32, 32, 119, 97, 110, 116, 32, 32, 107, 101, 121, 115, 32, 32, 114, 117, 115, 116, 32, 32, 115, 101, 101, 100, 32, 32, 108, 97, 119, 32, 32, 32, 102, 114, 101, 115, 104, 32, 103, 108, 111, 114, 121, 32, 98, 108, 111, 119, 32, 32, 100, 101, 110, 116, 115, 32, 107, 101, 101, 112, 115, 32, 119, 101, 105, 103, 104, 116, 115, 111, 117, 110, 100, 32, 119, 111, 114, 116, 104, 32, 108, 101, 102, 116, 32, 32, 100, 97, 121, 32, 32, 32, 110, 111, 116, 32, 32, 32, 97, 110, 100, 32, 32, 32, 111, 114, 32, 32, 32, 32], [40, 41, 42, 43, 45, 47, 59, 60, 61, 62], [110, 111, 32, 115, 117, 99, 104, 32, 116, 105, 110], [110, 111, 32, 115, 117, 99, 104, 32, 116, 104, 105, 110, 103, 32, 111, 102, 32, 97, 32, 116, 105, 110], [107, 105, 110, 100, 32, 116, 105, 110, 32, 111, 112, 101, 110, 32, 119, 97, 110, 116, 32, 107, 101, 121, 115, 32, 114, 117, 115, 116, 32, 115, 101, 101, 100, 32, 108, 97, 119, 32, 102, 114, 101, 115, 104, 32, 103, 108, 111, 114, 121, 32, 98, 108, 111, 119, 32, 111, 114, 32, 97, 110, 100, 32, 110, 111, 116, 32, 100, 101, 110, 116, 115, 32, 107, 101, 101, 112, 115, 32, 119, 101, 105, 103, 104, 116, 32, 115, 111, 117, 110, 100, 32, 119, 111, 114, 116, 104, 32, 108, 101, 102, 116, 32, 100, 97, 121, 32]]
/-- what lies below our cells: texts, the static that says how texts are held, the script, what a throw needs -/
def ZX (G : GG) (U : State) : Prop := vk_S 5 lenS bytS (fun i => gA G i) (fun i => gA G (10 + i)) (fun q => gB G ≤ q) U (gH G) ∧ (∀ q ∈ strs, vk_R q.1 q.2.1 q.2.2.1 (gA G q.2.2.2) U) ∧ va_Z "java/lang/String" "COMPACT_STRINGS" "Z" (.int 1) (fun q => gB G ≤ q) U (gH G) ∧ va_X (gA G 100) (gL G) (gX G) U (gH G) ∧ gA G 100 < gB G ∧ vx_Zq Bundle.tN "UNASSIGNED_STACK" Bundle.steD (fun q => gB G ≤ q) U (gH G) ∧ vx_Zq Bundle.tN "SUPPRESSED_SENTINEL" Bundle.listD (fun q => gB G ≤ q) U (gH G) ∧ va_AOA .int U
theorem ZX.warm {G : GG} {s U : State} (hW : s.WarmedH U.vm) (h : ZX G s) : ZX G U := ⟨vk_S.moved hW.alike h.1, fun q hq => vk_R.warm hW (h.2.1 q hq), va_Z.moved hW.alike h.2.2.1, va_X.moved hW.alike h.2.2.2.1, h.2.2.2.2.1, vx_Zq.moved hW.alike h.2.2.2.2.2.1, vx_Zq.moved hW.alike h.2.2.2.2.2.2.1, va_AOA.moved hW.alike h.2.2.2.2.2.2.2⟩
theorem ZX.same {G : GG} {u U : State} (hv : u.vm = U.vm) (h : ZX G u) : ZX G U := by
  have ha : u.vm.Alike U.vm := by rw [hv]; exact Vm.Alike.refl U.vm
  exact ⟨vk_S.moved ha h.1, fun q hq => vk_R.same hv.symm (h.2.1 q hq), va_Z.moved ha h.2.2.1, va_X.moved ha h.2.2.2.1, h.2.2.2.2.1, vx_Zq.moved ha h.2.2.2.2.2.1, vx_Zq.moved ha h.2.2.2.2.2.2.1, va_AOA.moved ha h.2.2.2.2.2.2.2⟩
def KX (G : GG) (U : State) : Prop := va_K (gD G) vwCl [] U ∧ (∀ kd, 20 ≤ kd → kd < 25 → ArrOfT U (gC G kd) (aTy kd) ∧ U.vm.findClass ("[" ++ (aTy kd).toString) = some (gC G kd)) ∧ (∀ w ∈ nws, va_Nw (.methodLinkNest w.1 w.2.1 w.2.2 "TinNation") U) ∧ ZX G U
theorem KX.warm {G : GG} {s U : State} (hW : s.WarmedH U.vm) (h : KX G s) : KX G U := ⟨va_K.moved hW.alike h.1, fun kd h1 h2 => ⟨arrOfT_moved hW.alike (h.2.1 kd h1 h2).1, by rw [hW.alike.findClass]; exact (h.2.1 kd h1 h2).2⟩, fun w hw => va_Nw.warmM hW (h.2.2.1 w hw), ZX.warm hW h.2.2.2⟩
theorem KX.same {G : GG} {u U : State} (hv : u.vm = U.vm) (h : KX G u) : KX G U := ⟨va_K.moved (by rw [hv]; exact Vm.Alike.refl U.vm) h.1, fun kd h1 h2 => ⟨arrOfT_moved (by rw [hv]; exact Vm.Alike.refl U.vm) (h.2.1 kd h1 h2).1, by rw [← hv]; exact (h.2.1 kd h1 h2).2⟩, fun w hw => va_Nw.same rfl hv (h.2.2.1 w hw), ZX.same hv h.2.2.2⟩
/-- the room by depth: cells and slots that may come -/
def rmm (d mc ms : Nat) : Room := { frames := d, cells := mc, slots := ms, locals := 64 * d }
def Qx (G : GG) (r : Option Value) (h' : Hp) : Array Value → State → Outcome → State → Prop := fun _ _ o t => o = .returned (r.map (tv G)) ∧ HR G h' t.heap
def Cx (G : GG) (M : MD) (p : Program) (s : State) (m : MethodId) (args : Array Value) (meth : Method) (c : Code) : Prop :=
  p.tables.exec = Jvm.exec ∧ c.code = M.2.1 ∧ meth.sig.returnType = M.2.2.2.1 ∧ c.maxLocals = M.2.2.1 ∧ (∀ w ∈ gtbl, w.before args s = true) ∧ s.vm.findClass M.1.cls = some m.cls ∧ meth.locks = false ∧ KX G s ∧ MDe M ∧ meth.name = M.1.name
theorem Cx.dec {G : GG} {M : MD} {p : Program} {s : State} {m : MethodId} {args : Array Value} {meth : Method} {c : Code} (C : Cx G M p s m args meth c) {pc npc n : Nat} {i : Instr} (h : lk M pc = some (i, npc, n)) : decode M.2.1 pc = .ok (i, n) ∧ npc = pc + n := by
  obtain ⟨-, -, -, -, -, -, -, -, hM, -⟩ := C
  exact hM (pc, i, npc, n) (lkL_mem h)
theorem Cx.word {G : GG} {M : MD} {p : Program} {s : State} {m : MethodId} {args : Array Value} {meth : Method} {c : Code} (C : Cx G M p s m args meth c) {w : Cond} (h : w ∈ gtbl) : w.before args s = true := by
  obtain ⟨-, -, -, -, hw, -⟩ := C
  exact hw w h
/-- the locals: a null is a place of which nothing is said -/
def LR (G : GG) (L : List Value) (ls : Array Slot) (n : Nat) : Prop := ls.size = n ∧ lv_wf ls ∧ ∀ (i : Nat) (v : Value), L[i]? = some v → v ≠ .null → ls[i]? = some (.val (tv G v))
/-- the machine, at this place of this method, comes to the method's end with this answer and this memory -/
def Go (l : Launch) (G : GG) (d mc ms : Nat) (M : MD) (kc ks pc : Nat) (L st : List Value) (h : Hp) (r : Option Value) (h' : Hp) : Prop :=
  ∀ (p : Program) (e : Env) (s : State) (m : MethodId) (args : Array Value) (below : List Frame) (meth : Method) (c : Code) (ls : Array Slot) (H : Heap) (locs : List Loc),
    Cx G M p s m args meth c → LR G L ls M.2.2.1 → HR G h H → (∀ q ∈ locs, gB G ≤ q.base) →
    W p l e (rmm d mc ms) s m args below meth c H locs kc ks (MQ below (Qx G r h') args s mc ms (fun q => gB G ≤ q)) (F0 m pc ls (st.map (tv G)))
/-- a method's contract -/
def Ct (l : Launch) (G : GG) (d mc ms : Nat) (M : MD) (as : List Value) (h : Hp) (r : Option Value) (h' : Hp) : Prop :=
  Met l M.1 (wsM M) (rmm d mc ms) (va_Pc (as.map (tv G)) (fun U => HR G h U.heap ∧ KX G U)) (Qx G r h') mc ms (fun q => gB G ≤ q)
end
section
section RowsA
variable {l : Launch} {G : GG} {d mc ms kc ks pc npc : Nat} {M : MD} {L st : List Value} {h h' : Hp} {r : Option Value}
theorem go_iconst {n : Int} {v : Int32} (hc : lk M pc = some (.iconst n, npc, 1)) (hv : Int32.ofInt n = v) (k : Go l G d mc ms M kc ks npc L (.int v :: st) h r h') : Go l G d mc ms M kc ks pc L st h r h' := by
  intro p e s m args below meth c ls H locs C hL hH hlc
  obtain ⟨hd, rfl⟩ := C.dec hc
  have hx := C.1
  have hb := C.2.1
  exact lv_iconst hx hb hd hv (k p e s m args below meth c ls H locs C hL hH hlc)
theorem go_bipush {n : Int} {v : Int32} (hc : lk M pc = some (.bipush n, npc, 2)) (hv : (Int8.ofInt n).toInt32 = v) (k : Go l G d mc ms M kc ks npc L (.int v :: st) h r h') : Go l G d mc ms M kc ks pc L st h r h' := by
  intro p e s m args below meth c ls H locs C hL hH hlc
  obtain ⟨hd, rfl⟩ := C.dec hc
  have hx := C.1
  have hb := C.2.1
  exact lv_bipush hx hb hd hv (k p e s m args below meth c ls H locs C hL hH hlc)
theorem go_sipush {n : Int} {v : Int32} (hc : lk M pc = some (.sipush n, npc, 3)) (hv : (Int16.ofInt n).toInt32 = v) (k : Go l G d mc ms M kc ks npc L (.int v :: st) h r h') : Go l G d mc ms M kc ks pc L st h r h' := by
  intro p e s m args below meth c ls H locs C hL hH hlc
  obtain ⟨hd, rfl⟩ := C.dec hc
  have hx := C.1
  have hb := C.2.1
  exact lv_sipush hx hb hd hv (k p e s m args below meth c ls H locs C hL hH hlc)
theorem go_lconst {n : Fin 2} {v : Int64} (hc : lk M pc = some (.lconst n, npc, 1)) (hv : Int64.ofNat (n : Nat) = v) (k : Go l G d mc ms M kc ks npc L (.long v :: st) h r h') : Go l G d mc ms M kc ks pc L st h r h' := by
  intro p e s m args below meth c ls H locs C hL hH hlc
  obtain ⟨hd, rfl⟩ := C.dec hc
  have hx := C.1
  have hb := C.2.1
  exact lv_lconst hx hb hd hv (k p e s m args below meth c ls H locs C hL hH hlc)
theorem go_iadd {x y : Int32} (hc : lk M pc = some (.iadd, npc, 1)) (k : Go l G d mc ms M kc ks npc L (.int (x + y) :: st) h r h') : Go l G d mc ms M kc ks pc L (.int y :: .int x :: st) h r h' := by
  intro p e s m args below meth c ls H locs C hL hH hlc
  obtain ⟨hd, rfl⟩ := C.dec hc
  have hx := C.1
  have hb := C.2.1
  exact lv_iadd hx hb hd (k p e s m args below meth c ls H locs C hL hH hlc)
theorem go_isub {x y : Int32} (hc : lk M pc = some (.isub, npc, 1)) (k : Go l G d mc ms M kc ks npc L (.int (x - y) :: st) h r h') : Go l G d mc ms M kc ks pc L (.int y :: .int x :: st) h r h' := by
  intro p e s m args below meth c ls H locs C hL hH hlc
  obtain ⟨hd, rfl⟩ := C.dec hc
  have hx := C.1
  have hb := C.2.1
  exact lv_isub hx hb hd (k p e s m args below meth c ls H locs C hL hH hlc)
theorem go_imul {x y : Int32} (hc : lk M pc = some (.imul, npc, 1)) (k : Go l G d mc ms M kc ks npc L (.int (x * y) :: st) h r h') : Go l G d mc ms M kc ks pc L (.int y :: .int x :: st) h r h' := by
  intro p e s m args below meth c ls H locs C hL hH hlc
  obtain ⟨hd, rfl⟩ := C.dec hc
  have hx := C.1
  have hb := C.2.1
  exact lv_imul hx hb hd (k p e s m args below meth c ls H locs C hL hH hlc)
theorem go_iand {x y : Int32} (hc : lk M pc = some (.iand, npc, 1)) (k : Go l G d mc ms M kc ks npc L (.int (x &&& y) :: st) h r h') : Go l G d mc ms M kc ks pc L (.int y :: .int x :: st) h r h' := by
  intro p e s m args below meth c ls H locs C hL hH hlc
  obtain ⟨hd, rfl⟩ := C.dec hc
  have hx := C.1
  have hb := C.2.1
  exact lv_iand hx hb hd (k p e s m args below meth c ls H locs C hL hH hlc)
theorem go_ior {x y : Int32} (hc : lk M pc = some (.ior, npc, 1)) (k : Go l G d mc ms M kc ks npc L (.int (x ||| y) :: st) h r h') : Go l G d mc ms M kc ks pc L (.int y :: .int x :: st) h r h' := by
  intro p e s m args below meth c ls H locs C hL hH hlc
  obtain ⟨hd, rfl⟩ := C.dec hc
  have hx := C.1
  have hb := C.2.1
  exact lv_ior hx hb hd (k p e s m args below meth c ls H locs C hL hH hlc)
theorem go_ixor {x y : Int32} (hc : lk M pc = some (.ixor, npc, 1)) (k : Go l G d mc ms M kc ks npc L (.int (x ^^^ y) :: st) h r h') : Go l G d mc ms M kc ks pc L (.int y :: .int x :: st) h r h' := by
  intro p e s m args below meth c ls H locs C hL hH hlc
  obtain ⟨hd, rfl⟩ := C.dec hc
  have hx := C.1
  have hb := C.2.1
  exact lv_ixor hx hb hd (k p e s m args below meth c ls H locs C hL hH hlc)
theorem go_ishl {x y : Int32} (hc : lk M pc = some (.ishl, npc, 1)) (k : Go l G d mc ms M kc ks npc L (.int (x <<< (y &&& 31)) :: st) h r h') : Go l G d mc ms M kc ks pc L (.int y :: .int x :: st) h r h' := by
  intro p e s m args below meth c ls H locs C hL hH hlc
  obtain ⟨hd, rfl⟩ := C.dec hc
  have hx := C.1
  have hb := C.2.1
  exact lv_ishl hx hb hd (k p e s m args below meth c ls H locs C hL hH hlc)
theorem go_ishr {x y : Int32} (hc : lk M pc = some (.ishr, npc, 1)) (k : Go l G d mc ms M kc ks npc L (.int (x >>> (y &&& 31)) :: st) h r h') : Go l G d mc ms M kc ks pc L (.int y :: .int x :: st) h r h' := by
  intro p e s m args below meth c ls H locs C hL hH hlc
  obtain ⟨hd, rfl⟩ := C.dec hc
  have hx := C.1
  have hb := C.2.1
  exact lv_ishr hx hb hd (k p e s m args below meth c ls H locs C hL hH hlc)
theorem go_ladd {x y : Int64} (hc : lk M pc = some (.ladd, npc, 1)) (k : Go l G d mc ms M kc ks npc L (.long (x + y) :: st) h r h') : Go l G d mc ms M kc ks pc L (.long y :: .long x :: st) h r h' := by
  intro p e s m args below meth c ls H locs C hL hH hlc
  obtain ⟨hd, rfl⟩ := C.dec hc
  have hx := C.1
  have hb := C.2.1
  exact lv_ladd hx hb hd (k p e s m args below meth c ls H locs C hL hH hlc)
theorem go_lsub {x y : Int64} (hc : lk M pc = some (.lsub, npc, 1)) (k : Go l G d mc ms M kc ks npc L (.long (x - y) :: st) h r h') : Go l G d mc ms M kc ks pc L (.long y :: .long x :: st) h r h' := by
  intro p e s m args below meth c ls H locs C hL hH hlc
  obtain ⟨hd, rfl⟩ := C.dec hc
  have hx := C.1
  have hb := C.2.1
  exact lv_lsub hx hb hd (k p e s m args below meth c ls H locs C hL hH hlc)
theorem go_lmul {x y : Int64} (hc : lk M pc = some (.lmul, npc, 1)) (k : Go l G d mc ms M kc ks npc L (.long (x * y) :: st) h r h') : Go l G d mc ms M kc ks pc L (.long y :: .long x :: st) h r h' := by
  intro p e s m args below meth c ls H locs C hL hH hlc
  obtain ⟨hd, rfl⟩ := C.dec hc
  have hx := C.1
  have hb := C.2.1
  exact lv_lmul hx hb hd (k p e s m args below meth c ls H locs C hL hH hlc)
theorem go_land {x y : Int64} (hc : lk M pc = some (.land, npc, 1)) (k : Go l G d mc ms M kc ks npc L (.long (x &&& y) :: st) h r h') : Go l G d mc ms M kc ks pc L (.long y :: .long x :: st) h r h' := by
  intro p e s m args below meth c ls H locs C hL hH hlc
  obtain ⟨hd, rfl⟩ := C.dec hc
  have hx := C.1
  have hb := C.2.1
  exact lv_land hx hb hd (k p e s m args below meth c ls H locs C hL hH hlc)
theorem go_idiv {x y : Int32} (hc : lk M pc = some (.idiv, npc, 1)) (hne : ¬ y = 0) (k : Go l G d mc ms M kc ks npc L (.int (x / y) :: st) h r h') : Go l G d mc ms M kc ks pc L (.int y :: .int x :: st) h r h' := by
  intro p e s m args below meth c ls H locs C hL hH hlc
  obtain ⟨hd, rfl⟩ := C.dec hc
  have hx := C.1
  have hb := C.2.1
  exact lv_idiv hx hb hd hne (k p e s m args below meth c ls H locs C hL hH hlc)
theorem go_irem {x y : Int32} (hc : lk M pc = some (.irem, npc, 1)) (hne : ¬ y = 0) (k : Go l G d mc ms M kc ks npc L (.int (x - x / y * y) :: st) h r h') : Go l G d mc ms M kc ks pc L (.int y :: .int x :: st) h r h' := by
  intro p e s m args below meth c ls H locs C hL hH hlc
  obtain ⟨hd, rfl⟩ := C.dec hc
  have hx := C.1
  have hb := C.2.1
  exact lv_irem hx hb hd hne (k p e s m args below meth c ls H locs C hL hH hlc)
theorem go_ldiv {x y : Int64} (hc : lk M pc = some (.ldiv, npc, 1)) (hne : ¬ y = 0) (k : Go l G d mc ms M kc ks npc L (.long (x / y) :: st) h r h') : Go l G d mc ms M kc ks pc L (.long y :: .long x :: st) h r h' := by
  intro p e s m args below meth c ls H locs C hL hH hlc
  obtain ⟨hd, rfl⟩ := C.dec hc
  have hx := C.1
  have hb := C.2.1
  exact lv_ldiv hx hb hd hne (k p e s m args below meth c ls H locs C hL hH hlc)
theorem go_lrem {x y : Int64} (hc : lk M pc = some (.lrem, npc, 1)) (hne : ¬ y = 0) (k : Go l G d mc ms M kc ks npc L (.long (x - x / y * y) :: st) h r h') : Go l G d mc ms M kc ks pc L (.long y :: .long x :: st) h r h' := by
  intro p e s m args below meth c ls H locs C hL hH hlc
  obtain ⟨hd, rfl⟩ := C.dec hc
  have hx := C.1
  have hb := C.2.1
  exact lv_lrem hx hb hd hne (k p e s m args below meth c ls H locs C hL hH hlc)
theorem go_ineg {x : Int32} (hc : lk M pc = some (.ineg, npc, 1)) (k : Go l G d mc ms M kc ks npc L (.int (-x) :: st) h r h') : Go l G d mc ms M kc ks pc L (.int x :: st) h r h' := by
  intro p e s m args below meth c ls H locs C hL hH hlc
  obtain ⟨hd, rfl⟩ := C.dec hc
  have hx := C.1
  have hb := C.2.1
  exact lv_ineg hx hb hd (k p e s m args below meth c ls H locs C hL hH hlc)
theorem go_lneg {x : Int64} (hc : lk M pc = some (.lneg, npc, 1)) (k : Go l G d mc ms M kc ks npc L (.long (-x) :: st) h r h') : Go l G d mc ms M kc ks pc L (.long x :: st) h r h' := by
  intro p e s m args below meth c ls H locs C hL hH hlc
  obtain ⟨hd, rfl⟩ := C.dec hc
  have hx := C.1
  have hb := C.2.1
  exact lv_lneg hx hb hd (k p e s m args below meth c ls H locs C hL hH hlc)
theorem go_i2l {x : Int32} (hc : lk M pc = some (.i2l, npc, 1)) (k : Go l G d mc ms M kc ks npc L (.long x.toInt64 :: st) h r h') : Go l G d mc ms M kc ks pc L (.int x :: st) h r h' := by
  intro p e s m args below meth c ls H locs C hL hH hlc
  obtain ⟨hd, rfl⟩ := C.dec hc
  have hx := C.1
  have hb := C.2.1
  exact lv_i2l hx hb hd rfl (k p e s m args below meth c ls H locs C hL hH hlc)
theorem go_l2i {x : Int64} (hc : lk M pc = some (.l2i, npc, 1)) (k : Go l G d mc ms M kc ks npc L (.int x.toInt32 :: st) h r h') : Go l G d mc ms M kc ks pc L (.long x :: st) h r h' := by
  intro p e s m args below meth c ls H locs C hL hH hlc
  obtain ⟨hd, rfl⟩ := C.dec hc
  have hx := C.1
  have hb := C.2.1
  exact lv_l2i hx hb hd rfl (k p e s m args below meth c ls H locs C hL hH hlc)
theorem go_i2b {x : Int32} (hc : lk M pc = some (.i2b, npc, 1)) (k : Go l G d mc ms M kc ks npc L (.int x.toInt8.toInt32 :: st) h r h') : Go l G d mc ms M kc ks pc L (.int x :: st) h r h' := by
  intro p e s m args below meth c ls H locs C hL hH hlc
  obtain ⟨hd, rfl⟩ := C.dec hc
  have hx := C.1
  have hb := C.2.1
  exact lv_i2b hx hb hd rfl (k p e s m args below meth c ls H locs C hL hH hlc)
theorem go_i2c {x : Int32} (hc : lk M pc = some (.i2c, npc, 1)) (k : Go l G d mc ms M kc ks npc L (.int (x.toUInt32 % 65536).toInt32 :: st) h r h') : Go l G d mc ms M kc ks pc L (.int x :: st) h r h' := by
  intro p e s m args below meth c ls H locs C hL hH hlc
  obtain ⟨hd, rfl⟩ := C.dec hc
  have hx := C.1
  have hb := C.2.1
  exact lv_i2c hx hb hd rfl (k p e s m args below meth c ls H locs C hL hH hlc)
theorem go_iushr {x y : Int32} (hc : lk M pc = some (.iushr, npc, 1)) (k : Go l G d mc ms M kc ks npc L (.int (x.toUInt32 >>> (y.toUInt32 &&& Int32.toUInt32 31)).toInt32 :: st) h r h') : Go l G d mc ms M kc ks pc L (.int y :: .int x :: st) h r h' := by
  intro p e s m args below meth c ls H locs C hL hH hlc
  obtain ⟨hd, rfl⟩ := C.dec hc
  have hx := C.1
  have hb := C.2.1
  exact lv_iushr hx hb hd rfl (k p e s m args below meth c ls H locs C hL hH hlc)
theorem go_lcmp {x y : Int64} (hc : lk M pc = some (.lcmp, npc, 1)) (k : Go l G d mc ms M kc ks npc L (.int (lg_cmp x y) :: st) h r h') : Go l G d mc ms M kc ks pc L (.long y :: .long x :: st) h r h' := by
  intro p e s m args below meth c ls H locs C hL hH hlc
  obtain ⟨hd, rfl⟩ := C.dec hc
  have hx := C.1
  have hb := C.2.1
  exact W.lcmp hx hb hd (k p e s m args below meth c ls H locs C hL hH hlc)
theorem tv_cat (G : GG) (v : Value) : (tv G v).category = v.category := by cases v <;> rfl
theorem go_dup {v : Value} (hc : lk M pc = some (.dup, npc, 1)) (hv : v.category = 1) (k : Go l G d mc ms M kc ks npc L (v :: v :: st) h r h') : Go l G d mc ms M kc ks pc L (v :: st) h r h' := by
  intro p e s m args below meth c ls H locs C hL hH hlc
  obtain ⟨hd, rfl⟩ := C.dec hc
  have hx := C.1
  have hb := C.2.1
  exact lv_dup hx hb hd (by rw [tv_cat]; exact hv) (k p e s m args below meth c ls H locs C hL hH hlc)
theorem go_dup2 {v w : Value} (hc : lk M pc = some (.dup2, npc, 1)) (hv : v.category = 1) (hw : w.category = 1) (k : Go l G d mc ms M kc ks npc L (v :: w :: v :: w :: st) h r h') : Go l G d mc ms M kc ks pc L (v :: w :: st) h r h' := by
  intro p e s m args below meth c ls H locs C hL hH hlc
  obtain ⟨hd, rfl⟩ := C.dec hc
  have hx := C.1
  have hb := C.2.1
  exact lv_dup2_11 hx hb hd (by rw [tv_cat]; exact hv) (by rw [tv_cat]; exact hw) (k p e s m args below meth c ls H locs C hL hH hlc)
theorem go_iload {i : Nat} {x : Int32} (hc : lk M pc = some (.iload i, npc, 2)) (hl : L[i]? = some (.int x)) (k : Go l G d mc ms M kc ks npc L (.int x :: st) h r h') : Go l G d mc ms M kc ks pc L st h r h' := by
  intro p e s m args below meth c ls H locs C hL hH hlc
  obtain ⟨hd, rfl⟩ := C.dec hc
  have hx := C.1
  have hb := C.2.1
  exact lv_iload hx hb hd (hL.2.2 i _ hl (fun q => by cases q)) (k p e s m args below meth c ls H locs C hL hH hlc)
theorem go_iload_n {i : Fin 4} {x : Int32} (hc : lk M pc = some (.iload_n i, npc, 1)) (hl : L[(i : Nat)]? = some (.int x)) (k : Go l G d mc ms M kc ks npc L (.int x :: st) h r h') : Go l G d mc ms M kc ks pc L st h r h' := by
  intro p e s m args below meth c ls H locs C hL hH hlc
  obtain ⟨hd, rfl⟩ := C.dec hc
  have hx := C.1
  have hb := C.2.1
  exact lv_iload_n hx hb hd rfl (hL.2.2 (i : Nat) _ hl (fun q => by cases q)) (k p e s m args below meth c ls H locs C hL hH hlc)
theorem go_lload {i : Nat} {x : Int64} (hc : lk M pc = some (.lload i, npc, 2)) (hl : L[i]? = some (.long x)) (k : Go l G d mc ms M kc ks npc L (.long x :: st) h r h') : Go l G d mc ms M kc ks pc L st h r h' := by
  intro p e s m args below meth c ls H locs C hL hH hlc
  obtain ⟨hd, rfl⟩ := C.dec hc
  have hx := C.1
  have hb := C.2.1
  exact lv_lload hx hb hd (hL.2.2 i _ hl (fun q => by cases q)) (k p e s m args below meth c ls H locs C hL hH hlc)
theorem go_lload_n {i : Fin 4} {x : Int64} (hc : lk M pc = some (.lload_n i, npc, 1)) (hl : L[(i : Nat)]? = some (.long x)) (k : Go l G d mc ms M kc ks npc L (.long x :: st) h r h') : Go l G d mc ms M kc ks pc L st h r h' := by
  intro p e s m args below meth c ls H locs C hL hH hlc
  obtain ⟨hd, rfl⟩ := C.dec hc
  have hx := C.1
  have hb := C.2.1
  exact lv_lload_n hx hb hd rfl (hL.2.2 (i : Nat) _ hl (fun q => by cases q)) (k p e s m args below meth c ls H locs C hL hH hlc)
theorem go_aload {i : Nat} {x : Nat} (hc : lk M pc = some (.aload i, npc, 2)) (hl : L[i]? = some (.ref x)) (k : Go l G d mc ms M kc ks npc L (.ref x :: st) h r h') : Go l G d mc ms M kc ks pc L st h r h' := by
  intro p e s m args below meth c ls H locs C hL hH hlc
  obtain ⟨hd, rfl⟩ := C.dec hc
  have hx := C.1
  have hb := C.2.1
  exact lv_aload hx hb hd (hL.2.2 i _ hl (fun q => by cases q)) (k p e s m args below meth c ls H locs C hL hH hlc)
theorem go_aload_n {i : Fin 4} {x : Nat} (hc : lk M pc = some (.aload_n i, npc, 1)) (hl : L[(i : Nat)]? = some (.ref x)) (k : Go l G d mc ms M kc ks npc L (.ref x :: st) h r h') : Go l G d mc ms M kc ks pc L st h r h' := by
  intro p e s m args below meth c ls H locs C hL hH hlc
  obtain ⟨hd, rfl⟩ := C.dec hc
  have hx := C.1
  have hb := C.2.1
  exact lv_aload_n hx hb hd rfl (hL.2.2 (i : Nat) _ hl (fun q => by cases q)) (k p e s m args below meth c ls H locs C hL hH hlc)
end RowsA
section RowsB
variable {l : Launch} {G : GG} {d mc ms kc ks pc npc : Nat} {M : MD} {L st : List Value} {h h' : Hp} {r : Option Value}
theorem go_if_eq {x : Int32} {off : Int} {tgt : Nat} (hc : lk M pc = some (.ifCond .eq off, npc, 3)) (ht : (pc : Int) + off = (tgt : Int)) (kt : x = 0 → Go l G d mc ms M kc ks tgt L st h r h') (kf : ¬ x = 0 → Go l G d mc ms M kc ks npc L st h r h') : Go l G d mc ms M kc ks pc L (.int x :: st) h r h' := by
  intro p e s m args below meth c ls H locs C hL hH hlc
  obtain ⟨hd, rfl⟩ := C.dec hc
  have hx := C.1
  have hb := C.2.1
  exact lv_if_eq hx hb hd ht (fun z => kt z p e s m args below meth c ls H locs C hL hH hlc) (fun z => kf z p e s m args below meth c ls H locs C hL hH hlc)
theorem go_if_ne {x : Int32} {off : Int} {tgt : Nat} (hc : lk M pc = some (.ifCond .ne off, npc, 3)) (ht : (pc : Int) + off = (tgt : Int)) (kt : ¬ x = 0 → Go l G d mc ms M kc ks tgt L st h r h') (kf : x = 0 → Go l G d mc ms M kc ks npc L st h r h') : Go l G d mc ms M kc ks pc L (.int x :: st) h r h' := by
  intro p e s m args below meth c ls H locs C hL hH hlc
  obtain ⟨hd, rfl⟩ := C.dec hc
  have hx := C.1
  have hb := C.2.1
  exact lv_if_ne hx hb hd ht (fun z => kt z p e s m args below meth c ls H locs C hL hH hlc) (fun z => kf z p e s m args below meth c ls H locs C hL hH hlc)
theorem go_if_lt {x : Int32} {off : Int} {tgt : Nat} (hc : lk M pc = some (.ifCond .lt off, npc, 3)) (ht : (pc : Int) + off = (tgt : Int)) (kt : x < 0 → Go l G d mc ms M kc ks tgt L st h r h') (kf : ¬ x < 0 → Go l G d mc ms M kc ks npc L st h r h') : Go l G d mc ms M kc ks pc L (.int x :: st) h r h' := by
  intro p e s m args below meth c ls H locs C hL hH hlc
  obtain ⟨hd, rfl⟩ := C.dec hc
  have hx := C.1
  have hb := C.2.1
  exact lv_if_lt hx hb hd ht (fun z => kt z p e s m args below meth c ls H locs C hL hH hlc) (fun z => kf z p e s m args below meth c ls H locs C hL hH hlc)
theorem go_if_ge {x : Int32} {off : Int} {tgt : Nat} (hc : lk M pc = some (.ifCond .ge off, npc, 3)) (ht : (pc : Int) + off = (tgt : Int)) (kt : 0 ≤ x → Go l G d mc ms M kc ks tgt L st h r h') (kf : ¬ 0 ≤ x → Go l G d mc ms M kc ks npc L st h r h') : Go l G d mc ms M kc ks pc L (.int x :: st) h r h' := by
  intro p e s m args below meth c ls H locs C hL hH hlc
  obtain ⟨hd, rfl⟩ := C.dec hc
  have hx := C.1
  have hb := C.2.1
  exact lv_if_ge hx hb hd ht (fun z => kt z p e s m args below meth c ls H locs C hL hH hlc) (fun z => kf z p e s m args below meth c ls H locs C hL hH hlc)
theorem go_if_gt {x : Int32} {off : Int} {tgt : Nat} (hc : lk M pc = some (.ifCond .gt off, npc, 3)) (ht : (pc : Int) + off = (tgt : Int)) (kt : 0 < x → Go l G d mc ms M kc ks tgt L st h r h') (kf : ¬ 0 < x → Go l G d mc ms M kc ks npc L st h r h') : Go l G d mc ms M kc ks pc L (.int x :: st) h r h' := by
  intro p e s m args below meth c ls H locs C hL hH hlc
  obtain ⟨hd, rfl⟩ := C.dec hc
  have hx := C.1
  have hb := C.2.1
  exact lv_if_gt hx hb hd ht (fun z => kt z p e s m args below meth c ls H locs C hL hH hlc) (fun z => kf z p e s m args below meth c ls H locs C hL hH hlc)
theorem go_if_le {x : Int32} {off : Int} {tgt : Nat} (hc : lk M pc = some (.ifCond .le off, npc, 3)) (ht : (pc : Int) + off = (tgt : Int)) (kt : x ≤ 0 → Go l G d mc ms M kc ks tgt L st h r h') (kf : ¬ x ≤ 0 → Go l G d mc ms M kc ks npc L st h r h') : Go l G d mc ms M kc ks pc L (.int x :: st) h r h' := by
  intro p e s m args below meth c ls H locs C hL hH hlc
  obtain ⟨hd, rfl⟩ := C.dec hc
  have hx := C.1
  have hb := C.2.1
  exact lv_if_le hx hb hd ht (fun z => kt z p e s m args below meth c ls H locs C hL hH hlc) (fun z => kf z p e s m args below meth c ls H locs C hL hH hlc)
theorem go_icmp_eq {x y : Int32} {off : Int} {tgt : Nat} (hc : lk M pc = some (.if_icmp .eq off, npc, 3)) (ht : (pc : Int) + off = (tgt : Int)) (kt : x = y → Go l G d mc ms M kc ks tgt L st h r h') (kf : ¬ x = y → Go l G d mc ms M kc ks npc L st h r h') : Go l G d mc ms M kc ks pc L (.int y :: .int x :: st) h r h' := by
  intro p e s m args below meth c ls H locs C hL hH hlc
  obtain ⟨hd, rfl⟩ := C.dec hc
  have hx := C.1
  have hb := C.2.1
  exact lv_icmp_eq hx hb hd ht (fun z => kt z p e s m args below meth c ls H locs C hL hH hlc) (fun z => kf z p e s m args below meth c ls H locs C hL hH hlc)
theorem go_icmp_ne {x y : Int32} {off : Int} {tgt : Nat} (hc : lk M pc = some (.if_icmp .ne off, npc, 3)) (ht : (pc : Int) + off = (tgt : Int)) (kt : ¬ x = y → Go l G d mc ms M kc ks tgt L st h r h') (kf : x = y → Go l G d mc ms M kc ks npc L st h r h') : Go l G d mc ms M kc ks pc L (.int y :: .int x :: st) h r h' := by
  intro p e s m args below meth c ls H locs C hL hH hlc
  obtain ⟨hd, rfl⟩ := C.dec hc
  have hx := C.1
  have hb := C.2.1
  exact lv_icmp_ne hx hb hd ht (fun z => kt z p e s m args below meth c ls H locs C hL hH hlc) (fun z => kf z p e s m args below meth c ls H locs C hL hH hlc)
theorem go_icmp_lt {x y : Int32} {off : Int} {tgt : Nat} (hc : lk M pc = some (.if_icmp .lt off, npc, 3)) (ht : (pc : Int) + off = (tgt : Int)) (kt : x < y → Go l G d mc ms M kc ks tgt L st h r h') (kf : ¬ x < y → Go l G d mc ms M kc ks npc L st h r h') : Go l G d mc ms M kc ks pc L (.int y :: .int x :: st) h r h' := by
  intro p e s m args below meth c ls H locs C hL hH hlc
  obtain ⟨hd, rfl⟩ := C.dec hc
  have hx := C.1
  have hb := C.2.1
  exact lv_icmp_lt hx hb hd ht (fun z => kt z p e s m args below meth c ls H locs C hL hH hlc) (fun z => kf z p e s m args below meth c ls H locs C hL hH hlc)
theorem go_icmp_ge {x y : Int32} {off : Int} {tgt : Nat} (hc : lk M pc = some (.if_icmp .ge off, npc, 3)) (ht : (pc : Int) + off = (tgt : Int)) (kt : y ≤ x → Go l G d mc ms M kc ks tgt L st h r h') (kf : ¬ y ≤ x → Go l G d mc ms M kc ks npc L st h r h') : Go l G d mc ms M kc ks pc L (.int y :: .int x :: st) h r h' := by
  intro p e s m args below meth c ls H locs C hL hH hlc
  obtain ⟨hd, rfl⟩ := C.dec hc
  have hx := C.1
  have hb := C.2.1
  exact lv_icmp_ge hx hb hd ht (fun z => kt z p e s m args below meth c ls H locs C hL hH hlc) (fun z => kf z p e s m args below meth c ls H locs C hL hH hlc)
theorem go_icmp_gt {x y : Int32} {off : Int} {tgt : Nat} (hc : lk M pc = some (.if_icmp .gt off, npc, 3)) (ht : (pc : Int) + off = (tgt : Int)) (kt : y < x → Go l G d mc ms M kc ks tgt L st h r h') (kf : ¬ y < x → Go l G d mc ms M kc ks npc L st h r h') : Go l G d mc ms M kc ks pc L (.int y :: .int x :: st) h r h' := by
  intro p e s m args below meth c ls H locs C hL hH hlc
  obtain ⟨hd, rfl⟩ := C.dec hc
  have hx := C.1
  have hb := C.2.1
  exact lv_icmp_gt hx hb hd ht (fun z => kt z p e s m args below meth c ls H locs C hL hH hlc) (fun z => kf z p e s m args below meth c ls H locs C hL hH hlc)
theorem go_icmp_le {x y : Int32} {off : Int} {tgt : Nat} (hc : lk M pc = some (.if_icmp .le off, npc, 3)) (ht : (pc : Int) + off = (tgt : Int)) (kt : x ≤ y → Go l G d mc ms M kc ks tgt L st h r h') (kf : ¬ x ≤ y → Go l G d mc ms M kc ks npc L st h r h') : Go l G d mc ms M kc ks pc L (.int y :: .int x :: st) h r h' := by
  intro p e s m args below meth c ls H locs C hL hH hlc
  obtain ⟨hd, rfl⟩ := C.dec hc
  have hx := C.1
  have hb := C.2.1
  exact lv_icmp_le hx hb hd ht (fun z => kt z p e s m args below meth c ls H locs C hL hH hlc) (fun z => kf z p e s m args below meth c ls H locs C hL hH hlc)
theorem go_goto {off : Int} {tgt : Nat} (hc : lk M pc = some (.goto off, npc, 3)) (ht : (pc : Int) + off = (tgt : Int)) (k : Go l G d mc ms M kc ks tgt L st h r h') : Go l G d mc ms M kc ks pc L st h r h' := by
  intro p e s m args below meth c ls H locs C hL hH hlc
  obtain ⟨hd, rfl⟩ := C.dec hc
  have hx := C.1
  have hb := C.2.1
  exact lv_goto hx hb hd ht (k p e s m args below meth c ls H locs C hL hH hlc)
theorem go_tableOut {dflt lo hi : Int} {offs : Array Int} {len : Nat} {x : Int32} {tgt : Nat} (hc : lk M pc = some (.tableswitch dflt lo hi offs, npc, len)) (hh : x.toInt < lo ∨ hi < x.toInt) (ht : (pc : Int) + dflt = (tgt : Int)) (k : Go l G d mc ms M kc ks tgt L st h r h') : Go l G d mc ms M kc ks pc L (.int x :: st) h r h' := by
  intro p e s m args below meth c ls H locs C hL hH hlc
  obtain ⟨hd, rfl⟩ := C.dec hc
  have hx := C.1
  have hb := C.2.1
  exact lv_tableOut hx hb hd hh ht (k p e s m args below meth c ls H locs C hL hH hlc)
theorem go_tableIn {dflt lo hi : Int} {offs : Array Int} {len : Nat} {x : Int32} {off : Int} {tgt : Nat} (hc : lk M pc = some (.tableswitch dflt lo hi offs, npc, len)) (h1 : ¬ x.toInt < lo) (h2 : ¬ hi < x.toInt) (ho : offs[(x.toInt - lo).toNat]? = some off) (ht : (pc : Int) + off = (tgt : Int)) (k : Go l G d mc ms M kc ks tgt L st h r h') : Go l G d mc ms M kc ks pc L (.int x :: st) h r h' := by
  intro p e s m args below meth c ls H locs C hL hH hlc
  obtain ⟨hd, rfl⟩ := C.dec hc
  have hx := C.1
  have hb := C.2.1
  exact lv_tableIn hx hb hd h1 h2 ho ht (k p e s m args below meth c ls H locs C hL hH hlc)
theorem go_lookup {dflt : Int} {ps : Array (Int × Int)} {len : Nat} {x : Int32} {off : Int} {tgt : Nat} (hc : lk M pc = some (.lookupswitch dflt ps, npc, len)) (hp : (ps.toList.zip (ps.toList.drop 1)).all (fun (a, next) => a.1 < next.1) = true) (ho : Op.lookupswitch.offset ps.toList dflt x.toInt = off) (ht : (pc : Int) + off = (tgt : Int)) (k : Go l G d mc ms M kc ks tgt L st h r h') : Go l G d mc ms M kc ks pc L (.int x :: st) h r h' := by
  intro p e s m args below meth c ls H locs C hL hH hlc
  obtain ⟨hd, rfl⟩ := C.dec hc
  have hx := C.1
  have hb := C.2.1
  exact lv_lookup hx hb hd hp ho ht (k p e s m args below meth c ls H locs C hL hH hlc)
end RowsB
section RowsC
variable {l : Launch} {G : GG} {d mc ms kc ks pc npc : Nat} {M : MD} {L st : List Value} {h h' : Hp} {r : Option Value}
/-- the listed values, by places -/
def prs (G : GG) : Nat → List Value → List (Nat × Value)
  | _, [] => []
  | i, v :: t => if v = .null then prs G (i + 1) t else (i, tv G v) :: prs G (i + 1) t
theorem prs_mem {G : GG} : ∀ {L : List Value} {b i : Nat} {v : Value}, L[i]? = some v → v ≠ .null → (b + i, tv G v) ∈ prs G b L
  | [], b, i, v, h, _ => by simp at h
  | w :: t, b, 0, v, h, hv => by
    rw [List.getElem?_cons_zero] at h
    cases h
    simp [prs, hv]
  | w :: t, b, i + 1, v, h, hv => by
    rw [List.getElem?_cons_succ] at h
    have h1 := prs_mem (G := G) (b := b + 1) h hv
    rw [show b + (i + 1) = b + 1 + i by omega]
    unfold prs
    split
    · exact h1
    · exact List.mem_cons_of_mem _ h1
theorem prs_in {G : GG} : ∀ {L : List Value} {b : Nat} {q : Nat × Value}, q ∈ prs G b L → ∃ i v, q.1 = b + i ∧ L[i]? = some v ∧ v ≠ .null ∧ q.2 = tv G v
  | [], b, q, h => by cases h
  | w :: t, b, q, h => by
    unfold prs at h
    split at h
    · obtain ⟨i, v, h1, h2, h3⟩ := prs_in h
      exact ⟨i + 1, v, by omega, by rw [List.getElem?_cons_succ]; exact h2, h3⟩
    · next hw =>
      rcases List.mem_cons.mp h with rfl | h
      · exact ⟨0, w, rfl, rfl, hw, rfl⟩
      · obtain ⟨i, v, h1, h2, h3⟩ := prs_in h
        exact ⟨i + 1, v, by omega, by rw [List.getElem?_cons_succ]; exact h2, h3⟩
theorem LR.has {ls : Array Slot} {n : Nat} (h : LR G L ls n) : lv_has ls n (prs G 0 L) := by
  refine ⟨h.1, h.2.1, fun q hq => ?_⟩
  obtain ⟨i, v, h1, h2, h3, h4⟩ := prs_in hq
  rw [h1, h4, Nat.zero_add]
  exact h.2.2 i v h2 h3
theorem LR.st1 {ls : Array Slot} {n i : Nat} {v : Value} (h : LR G L ls n) (hi : i < n) (hc : v.category = 1) (hp : ∀ w, L[i - 1]? = some w → 0 < i → w.category = 1) : ∃ ls', storeLocals ls i (tv G v) = some ls' ∧ LR G (L.set i v) ls' n := by
  obtain ⟨ls', h1, h2⟩ := lv_store1 (v := tv G v) h.has hi (by rw [tv_cat]; exact hc)
  refine ⟨ls', h1, h2.1, h2.2.1, fun j w hj hw => ?_⟩
  by_cases hij : j = i
  · subst hij
    rw [List.getElem?_set] at hj
    simp only [if_true] at hj
    split at hj
    · cases hj
      exact h2.2.2 (j, tv G v) List.mem_cons_self
    · cases hj
  · rw [List.getElem?_set_ne (Ne.symm hij)] at hj
    have h5 := prs_mem (G := G) (b := 0) hj hw
    rw [Nat.zero_add] at h5
    refine h2.2.2 (j, tv G w) (List.mem_cons_of_mem _ (List.mem_filter.mpr ⟨h5, ?_⟩))
    simp only [Bool.and_eq_true, Bool.not_eq_true', beq_eq_false_iff_ne, ne_eq, Bool.and_eq_false_iff]
    refine ⟨hij, ?_⟩
    by_cases hji : j + 1 = i
    · right
      rw [tv_cat, hp w (by rw [show i - 1 = j by omega]; exact hj) (by omega)]
      decide
    · exact Or.inl hji
theorem LR.st2 {ls : Array Slot} {n i : Nat} {x : Int64} (h : LR G L ls n) (hi : i + 1 < n) (hp : ∀ w, L[i - 1]? = some w → 0 < i → w.category = 1) : ∃ ls', storeLocals ls i (.long x) = some ls' ∧ LR G ((L.set i (.long x)).set (i + 1) .null) ls' n := by
  obtain ⟨ls', h1, h2⟩ := lv_store2 (v := .long x) h.has hi rfl
  refine ⟨ls', h1, h2.1, h2.2.1, fun j w hj hw => ?_⟩
  by_cases hi1 : j = i + 1
  · subst hi1
    rw [List.getElem?_set] at hj
    simp only [if_true] at hj
    split at hj
    · cases hj
      exact absurd rfl hw
    · cases hj
  rw [List.getElem?_set_ne (Ne.symm hi1)] at hj
  by_cases hij : j = i
  · subst hij
    rw [List.getElem?_set] at hj
    simp only [if_true] at hj
    split at hj
    · cases hj
      exact h2.2.2 (j, .long x) List.mem_cons_self
    · cases hj
  · rw [List.getElem?_set_ne (Ne.symm hij)] at hj
    have h5 := prs_mem (G := G) (b := 0) hj hw
    rw [Nat.zero_add] at h5
    refine h2.2.2 (j, tv G w) (List.mem_cons_of_mem _ (List.mem_filter.mpr ⟨h5, ?_⟩))
    simp only [Bool.and_eq_true, Bool.not_eq_true', beq_eq_false_iff_ne, ne_eq, Bool.and_eq_false_iff]
    refine ⟨hij, hi1, ?_⟩
    by_cases hji : j + 1 = i
    · right
      rw [tv_cat, hp w (by rw [show i - 1 = j by omega]; exact hj) (by omega)]
      decide
    · exact Or.inl hji
/-- the place ahead holds no long -/
def okL (L : List Value) (i : Nat) : Bool := match i with
  | 0 => true
  | i + 1 => match L[i]? with
    | some v => v.category == 1
    | none => true
theorem okL_spec {L : List Value} {i : Nat} (h : okL L i = true) : ∀ w, L[i - 1]? = some w → 0 < i → w.category = 1 := by
  intro w hw hi
  cases i with
  | zero => omega
  | succ i =>
    rw [show i + 1 - 1 = i by omega] at hw
    have h2 : (match L[i]? with
      | some v => v.category == 1
      | none => true) = true := h
    rw [hw] at h2
    simpa using h2

theorem go_istore {i : Nat} {x : Int32} {L' : List Value} (hc : lk M pc = some (.istore i, npc, 2)) (hi : Nat.blt i M.2.2.1 = true) (ho : okL L i = true) (hl : L.set i (.int x) = L') (k : Go l G d mc ms M kc ks npc L' st h r h') : Go l G d mc ms M kc ks pc L (.int x :: st) h r h' := by
  subst hl
  intro p e s m args below meth c ls H locs C hL hH hlc
  obtain ⟨hd, rfl⟩ := C.dec hc
  have hx := C.1
  have hb := C.2.1
  obtain ⟨ls', e', h'⟩ := hL.st1 (v := .int x) (Nat.blt_eq.mp hi) rfl (okL_spec ho)
  have e' : storeLocals ls i (tv G (.int x)) = some ls' := e'
  simp only [tv] at e'
  intro T hT X
  obtain ⟨t, a, b⟩ := k p e s m args below meth c ls' H locs C h' hH hlc T hT X
  refine ⟨t, ?_, b⟩
  jvm_step X.here [X.here.top, ↓top_set X.here.top, hx, hb, hd, e', tv, Value.isRef]
  exact a
theorem go_istore_n {i : Fin 4} {x : Int32} {L' : List Value} (hc : lk M pc = some (.istore_n i, npc, 1)) (hi : Nat.blt (i : Nat) M.2.2.1 = true) (ho : okL L (i : Nat) = true) (hl : L.set (i : Nat) (.int x) = L') (k : Go l G d mc ms M kc ks npc L' st h r h') : Go l G d mc ms M kc ks pc L (.int x :: st) h r h' := by
  subst hl
  intro p e s m args below meth c ls H locs C hL hH hlc
  obtain ⟨hd, rfl⟩ := C.dec hc
  have hx := C.1
  have hb := C.2.1
  obtain ⟨ls', e', h'⟩ := hL.st1 (v := .int x) (Nat.blt_eq.mp hi) rfl (okL_spec ho)
  have e' : storeLocals ls (i : Nat) (tv G (.int x)) = some ls' := e'
  simp only [tv] at e'
  intro T hT X
  obtain ⟨t, a, b⟩ := k p e s m args below meth c ls' H locs C h' hH hlc T hT X
  refine ⟨t, ?_, b⟩
  jvm_step X.here [X.here.top, ↓top_set X.here.top, hx, hb, hd, e', tv, Value.isRef]
  exact a
theorem go_astore {i : Nat} {x : Nat} {L' : List Value} (hc : lk M pc = some (.astore i, npc, 2)) (hi : Nat.blt i M.2.2.1 = true) (ho : okL L i = true) (hl : L.set i (.ref x) = L') (k : Go l G d mc ms M kc ks npc L' st h r h') : Go l G d mc ms M kc ks pc L (.ref x :: st) h r h' := by
  subst hl
  intro p e s m args below meth c ls H locs C hL hH hlc
  obtain ⟨hd, rfl⟩ := C.dec hc
  have hx := C.1
  have hb := C.2.1
  obtain ⟨ls', e', h'⟩ := hL.st1 (v := .ref x) (Nat.blt_eq.mp hi) rfl (okL_spec ho)
  have e' : storeLocals ls i (tv G (.ref x)) = some ls' := e'
  simp only [tv] at e'
  intro T hT X
  obtain ⟨t, a, b⟩ := k p e s m args below meth c ls' H locs C h' hH hlc T hT X
  refine ⟨t, ?_, b⟩
  jvm_step X.here [X.here.top, ↓top_set X.here.top, hx, hb, hd, e', tv, Value.isRef]
  exact a
theorem go_astore_n {i : Fin 4} {x : Nat} {L' : List Value} (hc : lk M pc = some (.astore_n i, npc, 1)) (hi : Nat.blt (i : Nat) M.2.2.1 = true) (ho : okL L (i : Nat) = true) (hl : L.set (i : Nat) (.ref x) = L') (k : Go l G d mc ms M kc ks npc L' st h r h') : Go l G d mc ms M kc ks pc L (.ref x :: st) h r h' := by
  subst hl
  intro p e s m args below meth c ls H locs C hL hH hlc
  obtain ⟨hd, rfl⟩ := C.dec hc
  have hx := C.1
  have hb := C.2.1
  obtain ⟨ls', e', h'⟩ := hL.st1 (v := .ref x) (Nat.blt_eq.mp hi) rfl (okL_spec ho)
  have e' : storeLocals ls (i : Nat) (tv G (.ref x)) = some ls' := e'
  simp only [tv] at e'
  intro T hT X
  obtain ⟨t, a, b⟩ := k p e s m args below meth c ls' H locs C h' hH hlc T hT X
  refine ⟨t, ?_, b⟩
  jvm_step X.here [X.here.top, ↓top_set X.here.top, hx, hb, hd, e', tv, Value.isRef]
  exact a
theorem go_lstore {i : Nat} {x : Int64} {L' : List Value} (hc : lk M pc = some (.lstore i, npc, 2)) (hi : Nat.blt (i + 1) M.2.2.1 = true) (ho : okL L i = true) (hl : (L.set i (.long x)).set (i + 1) .null = L') (k : Go l G d mc ms M kc ks npc L' st h r h') : Go l G d mc ms M kc ks pc L (.long x :: st) h r h' := by
  subst hl
  intro p e s m args below meth c ls H locs C hL hH hlc
  obtain ⟨hd, rfl⟩ := C.dec hc
  have hx := C.1
  have hb := C.2.1
  obtain ⟨ls', e', h'⟩ := hL.st2 (x := x) (Nat.blt_eq.mp hi) (okL_spec ho)
  intro T hT X
  obtain ⟨t, a, b⟩ := k p e s m args below meth c ls' H locs C h' hH hlc T hT X
  refine ⟨t, ?_, b⟩
  jvm_step X.here [X.here.top, ↓top_set X.here.top, hx, hb, hd, e', tv]
  exact a
theorem go_lstore_n {i : Fin 4} {x : Int64} {L' : List Value} (hc : lk M pc = some (.lstore_n i, npc, 1)) (hi : Nat.blt ((i : Nat) + 1) M.2.2.1 = true) (ho : okL L (i : Nat) = true) (hl : (L.set (i : Nat) (.long x)).set ((i : Nat) + 1) .null = L') (k : Go l G d mc ms M kc ks npc L' st h r h') : Go l G d mc ms M kc ks pc L (.long x :: st) h r h' := by
  subst hl
  intro p e s m args below meth c ls H locs C hL hH hlc
  obtain ⟨hd, rfl⟩ := C.dec hc
  have hx := C.1
  have hb := C.2.1
  obtain ⟨ls', e', h'⟩ := hL.st2 (x := x) (Nat.blt_eq.mp hi) (okL_spec ho)
  intro T hT X
  obtain ⟨t, a, b⟩ := k p e s m args below meth c ls' H locs C h' hH hlc T hT X
  refine ⟨t, ?_, b⟩
  jvm_step X.here [X.here.top, ↓top_set X.here.top, hx, hb, hd, e', tv]
  exact a
theorem go_iinc {i : Nat} {n : Int} {x : Int32} {L' : List Value} (hc : lk M pc = some (.iinc i n, npc, 3)) (hg : L[i]? = some (.int x)) (hi : Nat.blt i M.2.2.1 = true) (ho : okL L i = true) (hl : L.set i (.int (x + Int32.ofInt n)) = L') (k : Go l G d mc ms M kc ks npc L' st h r h') : Go l G d mc ms M kc ks pc L st h r h' := by
  subst hl
  intro p e s m args below meth c ls H locs C hL hH hlc
  obtain ⟨hd, rfl⟩ := C.dec hc
  have hx := C.1
  have hb := C.2.1
  obtain ⟨ls', e', h'⟩ := hL.st1 (v := .int (x + Int32.ofInt n)) (Nat.blt_eq.mp hi) rfl (okL_spec ho)
  have hg' := hL.2.2 i _ hg (fun q => by cases q)
  have e' : storeLocals ls i (.int (x + Int32.ofInt n)) = some ls' := e'
  have hg' : ls[i]? = some (.val (.int x)) := hg'
  intro T hT X
  obtain ⟨t, a, b⟩ := k p e s m args below meth c ls' H locs C h' hH hlc T hT X
  refine ⟨t, ?_, b⟩
  jvm_step X.here [X.here.top, ↓top_set X.here.top, hx, hb, hd, hg', e']
  exact a
end RowsC
end
section
section RowsD
variable {l : Launch} {G : GG} {d mc ms kc ks pc npc : Nat} {M : MD} {L st : List Value} {h h2 h' : Hp} {r : Option Value} {a k kd n i : Nat} {H H1 : Heap}
/-- a field's link: class, entry, the kind of the object, the place -/
def Fl (own : String) (i kd k : Nat) : Prop := kd < 11 ∧ k < kN kd ∧ Cond.fieldLink own i (kC kd) (kT kd k).2.1 (kT kd k).2.2.1 ∈ gtbl ∧ (kT kd k).1 = kC kd
theorem HR.lt (hH : HR G h H) (hk : (mS h a).1 < 30) : a < mN h := by
  obtain ⟨-, -, -, h4⟩ := hH
  by_cases q : a < mN h
  · exact q
  · have := h4 a (Nat.not_lt.mp q)
    omega
theorem HR.obj (hH : HR G h H) (hs : (mS h a).1 = kd) (hkd : kd < 11) : t_OB (gB G + a) ((gD G).1 kd) (kN kd) ((gD G).2 kd) H (cv G h kd a) := by
  have hlt := hH.lt (a := a) (by omega)
  have h3 := hH.2.2.1 a hlt
  unfold cAt at h3
  rw [if_pos (by omega), hs] at h3
  exact h3
theorem HR.arr (hH : HR G h H) (hs : mS h a = (kd, n)) (h1 : 11 ≤ kd) (h2 : kd < 30) : H[gB G + a]? = some (arrV (gC G kd) n (cv G h kd a)) := by
  have e1 : (mS h a).1 = kd := by rw [hs]
  have e2 : (mS h a).2 = n := by rw [hs]
  have hlt := hH.lt (a := a) (by omega)
  have h3 := hH.2.2.1 a hlt
  unfold cAt at h3
  rw [if_neg (by omega), if_pos (by omega), e1, e2] at h3
  exact h3
theorem cAt.kept (hS : mS h2 = mS h) (hv : ∀ kd, cv G h2 kd a = cv G h kd a) (hq : H1[gB G + a]? = H[gB G + a]?) (hc : cAt G h a H) : cAt G h2 a H1 := by
  unfold cAt at hc ⊢
  rw [hS, hv]
  split
  · next q =>
    rw [if_pos q] at hc
    exact hc.kept hq
  · next q =>
    rw [if_neg q] at hc
    split
    · next q2 =>
      rw [if_pos q2] at hc
      rw [hq]
      exact hc
    · trivial
theorem HR.upd (hH : HR G h H) (z : H1.size = H.size) (oq : ∀ q : Nat, q ≠ gB G + a → H1[q]? = H[q]?) (hS : mS h2 = mS h) (hN : mN h2 = mN h) (hv : ∀ a' kd, a' ≠ a → cv G h2 kd a' = cv G h kd a') (ha : cAt G h2 a H1) : HR G h2 H1 := by
  obtain ⟨h1, h3, h4, h5⟩ := hH
  refine ⟨by rw [z, h1, hN], fun q hq => (oq q (by omega)).trans (h3 q hq), fun a' ha' => ?_, fun a' ha' => by rw [hS]; exact h5 a' (by rw [hN] at ha'; exact ha')⟩
  by_cases e : a' = a
  · subst e; exact ha
  · exact cAt.kept hS (fun kd => hv a' kd e) (oq _ (by omega)) (h4 a' (by rw [hN] at ha'; exact ha'))
theorem cv_wI (hk : sty kd k = 0) (v : Int32) : updV (cv G h kd a) k (.int v) = cv G (wI h a k v) kd a := by
  funext j
  unfold updV cv
  by_cases e : j = k
  · subst e
    simp [hk, mI_wI]
  · simp [e, mI_wI, mJ_wI, mP_wI]
theorem cv_wI_ne {a' : Nat} (e : a' ≠ a) (v : Int32) : cv G (wI h a k v) kd a' = cv G h kd a' := by
  funext j
  unfold cv
  simp [e, mI_wI, mJ_wI, mP_wI]
theorem cv_wJ (hk : sty kd k = 1) (v : Int64) : updV (cv G h kd a) k (.long v) = cv G (wJ h a k v) kd a := by
  funext j
  unfold updV cv
  by_cases e : j = k
  · subst e
    simp [hk, mJ_wJ]
  · simp [e, mJ_wJ, mI_wJ, mP_wJ]
theorem cv_wJ_ne {a' : Nat} (e : a' ≠ a) (v : Int64) : cv G (wJ h a k v) kd a' = cv G h kd a' := by
  funext j
  unfold cv
  simp [e, mJ_wJ, mI_wJ, mP_wJ]
theorem mJ_wP (h : Hp) (a k : Nat) (v : Option Nat) : mJ (wP h a k v) = mJ h := rfl
theorem cv_wP (hk : sty kd k = 2) (b : Nat) : updV (cv G h kd a) k (.ref (gB G + b)) = cv G (wP h a k (some b)) kd a := by
  funext j
  unfold updV cv
  by_cases e : j = k
  · subst e
    simp [hk, mP_wP, va_rf]
  · simp [e, mP_wP, mI_wP, mJ_wP]
theorem cv_wP_ne {a' : Nat} (e : a' ≠ a) (b : Option Nat) : cv G (wP h a k b) kd a' = cv G h kd a' := by
  funext j
  unfold cv
  simp [e, mP_wP, mI_wP, mJ_wP]
theorem cv_wR (hk : ∀ j, sty kd j = 0) (f : Nat → Int32) : cv G (wR h a f) kd a = fun j => .int (f j) := by
  funext j
  unfold cv
  simp [hk j, mI_wR]
theorem cv_wR_ne {a' : Nat} (e : a' ≠ a) (f : Nat → Int32) : cv G (wR h a f) kd a' = cv G h kd a' := by
  funext j
  unfold cv
  simp [e, mI_wR, mJ_wR, mP_wR]

theorem go_getV {w : Value} (hc : lk M pc = some (.getfield i, npc, 3)) (hf : Fl M.1.cls i kd k) (hs : (mS h a).1 = kd) (hw : cv G h kd a k = tv G w) (kk : Go l G d mc ms M kc ks npc L (w :: st) h r h') : Go l G d mc ms M kc ks pc L (.ref a :: st) h r h' := by
  intro p e s m args below meth c ls H locs C hL hH hlc
  obtain ⟨hd, rfl⟩ := C.dec hc
  have hx := C.1
  have hb := C.2.1
  have hts : ∀ w ∈ gtbl, w.before args s = true := fun w hw => C.word hw
  have hown : s.vm.findClass M.1.cls = some m.cls := C.2.2.2.2.2.1
  have hK : KX G s := C.2.2.2.2.2.2.2.1
  obtain ⟨hkd, hk, hlk, hde⟩ := hf
  obtain ⟨cell, q1, q2, q3, q4⟩ := hH.obj hs hkd
  obtain ⟨hS, hfc, kC1, hkC, hkind⟩ := hK.1.1 kd _ (k_cl kd hkd)
  dsimp only at hS
  obtain ⟨cf, kf, fi, f, hi, hsl⟩ := hS k hk
  have hst := (u_facts hfc hkC (u_lays hts (k_in kd hkd) hk) hi).1
  rw [hde] at hi
  exact W.getf hx hb hown (hts _ hlk) hi hst q1 (by rw [q3]; exact fun z => by cases z) (v := tv G w) (by rw [hsl, q4 k hk, hw]) rfl rfl hd (kk p e s m args below meth c ls H locs C hL hH hlc)

theorem go_getI (hc : lk M pc = some (.getfield i, npc, 3)) (hf : Fl M.1.cls i kd k) (hs : (mS h a).1 = kd) (ht : sty kd k = 0) (kk : Go l G d mc ms M kc ks npc L (.int (mI h a k) :: st) h r h') : Go l G d mc ms M kc ks pc L (.ref a :: st) h r h' := go_getV hc hf hs (by simp [cv, ht, tv]) kk
theorem go_getJ (hc : lk M pc = some (.getfield i, npc, 3)) (hf : Fl M.1.cls i kd k) (hs : (mS h a).1 = kd) (ht : sty kd k = 1) (kk : Go l G d mc ms M kc ks npc L (.long (mJ h a k) :: st) h r h') : Go l G d mc ms M kc ks pc L (.ref a :: st) h r h' := go_getV hc hf hs (by simp [cv, ht, tv]) kk
theorem go_getP {b : Nat} (hc : lk M pc = some (.getfield i, npc, 3)) (hf : Fl M.1.cls i kd k) (hs : (mS h a).1 = kd) (ht : sty kd k = 2) (hp : mP h a k = some b) (kk : Go l G d mc ms M kc ks npc L (.ref b :: st) h r h') : Go l G d mc ms M kc ks pc L (.ref a :: st) h r h' := go_getV hc hf hs (by simp [cv, ht, tv, hp, va_rf]) kk
theorem go_putV {w : Value} (hc : lk M pc = some (.putfield i, npc, 3)) (hf : Fl M.1.cls i kd k) (hs : (mS h a).1 = kd) (hfin : (kT kd k).2.2.2 = false) (hn : narrow (kTy kd k) (tv G w) = tv G w) (hfit : fits (kTy kd k) (tv G w) = true) (hS2 : mS h2 = mS h) (hN2 : mN h2 = mN h) (hv2 : ∀ a' kd, a' ≠ a → cv G h2 kd a' = cv G h kd a') (hu : updV (cv G h kd a) k (tv G w) = cv G h2 kd a) (kk : Go l G d mc ms M kc ks npc L st h2 r h') : Go l G d mc ms M kc ks pc L (w :: .ref a :: st) h r h' := by
  intro p e s m args below meth c ls H locs C hL hH hlc
  obtain ⟨hd, rfl⟩ := C.dec hc
  have hx := C.1
  have hb := C.2.1
  have hts : ∀ w ∈ gtbl, w.before args s = true := fun w hw => C.word hw
  have hown : s.vm.findClass M.1.cls = some m.cls := C.2.2.2.2.2.1
  have hK : KX G s := C.2.2.2.2.2.2.2.1
  obtain ⟨hkd, hk, hlk, hde⟩ := hf
  obtain ⟨cell, q1, q2, q3, q4⟩ := hH.obj hs hkd
  have hKn := hK.1.1 kd _ (k_cl kd hkd)
  have hap := va_apart (own := M.1.cls) hts (k_in kd hkd) (kTy kd) (k_ty kd hkd) (k_nm kd hkd) hK.1 (k_cl kd hkd)
  obtain ⟨hS, hfc, kC1, hkC, hkind⟩ := hKn
  dsimp only at hS
  obtain ⟨cf, kf, fi, f, hi, hsl⟩ := hS k hk
  have hlay := hts _ (k_in kd hkd _ (u_in_lay hk))
  unfold u_lay at hlay
  rw [if_neg (by rw [hfin]; decide)] at hlay
  have hst := (u_facts hfc hkC (u_lays hts (k_in kd hkd) hk) hi).1
  have h6 := u_store hfc hkC hkind hlay hi (k_ty kd hkd k hk) hn hfit
  rw [hde] at hi
  refine W.putK hx hb (f := f) ⟨hown, hts _ hlk, ⟨_, _, _, hi⟩, hst⟩ (by rw [q2]; exact h6) q1 q3 (by rw [hsl]; exact k2_hasslot (q4 k hk)) rfl rfl hd fun H' e1 e2 e3 => ?_
  rw [hsl] at e1 ⊢
  refine kk p e s m args below meth c ls H' _ C hL (hH.upd e2 e3 hS2 hN2 hv2 ?_) (fun q hq => ?_)
  · unfold cAt
    rw [hS2, hs, if_pos hkd]
    exact t_OB.to (V := updV (cv G h kd a) k (tv G w)) ⟨_, e1, q2, q3, t_set q4 hap hk _⟩ (fun j _ => by rw [hu])
  · rcases List.mem_append.mp hq with z | z
    · exact hlc q z
    · rw [List.mem_singleton.mp z]
      exact Nat.le_add_right _ _

theorem go_putF {w : Value} (hc : lk M pc = some (.putfield i, npc, 3)) (hf : Fl M.1.cls i kd k) (hs : (mS h a).1 = kd) (hfin : (kT kd k).2.2.2 = true) (hnm : M.1.name = "<init>") (hcl : kC kd = M.1.cls) (hn : narrow (kTy kd k) (tv G w) = tv G w) (hfit : fits (kTy kd k) (tv G w) = true) (hS2 : mS h2 = mS h) (hN2 : mN h2 = mN h) (hv2 : ∀ a' kd, a' ≠ a → cv G h2 kd a' = cv G h kd a') (hu : updV (cv G h kd a) k (tv G w) = cv G h2 kd a) (kk : Go l G d mc ms M kc ks npc L st h2 r h') : Go l G d mc ms M kc ks pc L (w :: .ref a :: st) h r h' := by
  intro p e s m args below meth c ls H locs C hL hH hlc
  obtain ⟨hd, rfl⟩ := C.dec hc
  have hx := C.1
  have hb := C.2.1
  have hts : ∀ w ∈ gtbl, w.before args s = true := fun w hw => C.word hw
  have hown : s.vm.findClass M.1.cls = some m.cls := C.2.2.2.2.2.1
  have hK : KX G s := C.2.2.2.2.2.2.2.1
  obtain ⟨hkd, hk, hlk, hde⟩ := hf
  obtain ⟨cell, q1, q2, q3, q4⟩ := hH.obj hs hkd
  have hKn := hK.1.1 kd _ (k_cl kd hkd)
  have hap := va_apart (own := M.1.cls) hts (k_in kd hkd) (kTy kd) (k_ty kd hkd) (k_nm kd hkd) hK.1 (k_cl kd hkd)
  obtain ⟨hS, hfc, kC1, hkC, hkind⟩ := hKn
  dsimp only at hS
  obtain ⟨cf, kf, fi, f, hi, hsl⟩ := hS k hk
  have hlay := hts _ (k_in kd hkd _ (u_in_lay hk))
  unfold u_lay at hlay
  rw [if_pos hfin] at hlay
  have hst := (u_facts hfc hkC (u_lays hts (k_in kd hkd) hk) hi).1
  have hcf : m.cls = cf := by
    obtain ⟨_, _, c', _, _, _, -, -, hf', -, -, -, hown2, -⟩ := Cond.laysFinal_spec hlay
    have e1 : c' = cf := by have := hi.symm.trans hf'; simp at this; exact this.1.symm
    rw [hde, hcl] at hown2
    rw [← e1]; exact Option.some.inj (hown.symm.trans hown2)
  have h6 := u_fits hfc hkC hkind (Or.inr hlay) hi (k_ty kd hkd k hk) hn hfit
  rw [hde] at hi
  refine W.putFinK hx hb hown (hts _ hlk) hi hst hcf (C.2.2.2.2.2.2.2.2.2.trans hnm) (by rw [q2]; exact h6) q1 q3 (by rw [hsl]; exact k2_hasslot (q4 k hk)) rfl rfl hd fun H' e1 e2 e3 => ?_
  rw [hsl] at e1 ⊢
  refine kk p e s m args below meth c ls H' _ C hL (hH.upd e2 e3 hS2 hN2 hv2 ?_) (fun q hq => ?_)
  · unfold cAt
    rw [hS2, hs, if_pos hkd]
    exact t_OB.to (V := updV (cv G h kd a) k (tv G w)) ⟨_, e1, q2, q3, t_set q4 hap hk _⟩ (fun j _ => by rw [hu])
  · rcases List.mem_append.mp hq with z | z
    · exact hlc q z
    · rw [List.mem_singleton.mp z]
      exact Nat.le_add_right _ _

theorem sty_of_int (hkd : kd < 11) (ht : kTy kd k = .int) : sty kd k = 0 := by unfold sty; rw [if_pos hkd, ht]
theorem sty_of_bool (hkd : kd < 11) (ht : kTy kd k = .boolean) : sty kd k = 0 := by unfold sty; rw [if_pos hkd, ht]
theorem sty_of_long (hkd : kd < 11) (ht : kTy kd k = .long) : sty kd k = 1 := by unfold sty; rw [if_pos hkd, ht]
theorem nar_bool {v : Int32} (hv : v = 0 ∨ v = 1) : narrow .boolean (.int v) = .int v ∧ fits .boolean (.int v) = true := by
  rcases hv with rfl | rfl <;> exact ⟨by decide, by decide⟩

theorem go_putI {v : Int32} (hc : lk M pc = some (.putfield i, npc, 3)) (hf : Fl M.1.cls i kd k) (hs : (mS h a).1 = kd) (hfin : (kT kd k).2.2.2 = false) (ht : kTy kd k = .int) (kk : Go l G d mc ms M kc ks npc L st (wI h a k v) r h') : Go l G d mc ms M kc ks pc L (.int v :: .ref a :: st) h r h' := go_putV (w := .int v) (h2 := wI h a k v) hc hf hs hfin (by rw [ht]; rfl) (by rw [ht]; rfl) rfl rfl (fun a' kd e => cv_wI_ne e v) (cv_wI (sty_of_int hf.1 ht) v) kk
theorem go_putZ {v : Int32} (hc : lk M pc = some (.putfield i, npc, 3)) (hf : Fl M.1.cls i kd k) (hs : (mS h a).1 = kd) (hfin : (kT kd k).2.2.2 = false) (ht : kTy kd k = .boolean) (hv : v = 0 ∨ v = 1) (kk : Go l G d mc ms M kc ks npc L st (wI h a k v) r h') : Go l G d mc ms M kc ks pc L (.int v :: .ref a :: st) h r h' := go_putV (w := .int v) (h2 := wI h a k v) hc hf hs hfin (by rw [ht]; exact (nar_bool hv).1) (by rw [ht]; exact (nar_bool hv).2) rfl rfl (fun a' kd e => cv_wI_ne e v) (cv_wI (sty_of_bool hf.1 ht) v) kk
theorem go_putJ {v : Int64} (hc : lk M pc = some (.putfield i, npc, 3)) (hf : Fl M.1.cls i kd k) (hs : (mS h a).1 = kd) (hfin : (kT kd k).2.2.2 = false) (ht : kTy kd k = .long) (kk : Go l G d mc ms M kc ks npc L st (wJ h a k v) r h') : Go l G d mc ms M kc ks pc L (.long v :: .ref a :: st) h r h' := go_putV (w := .long v) (h2 := wJ h a k v) hc hf hs hfin (by rw [ht]; rfl) (by rw [ht]; rfl) rfl rfl (fun a' kd e => cv_wJ_ne e v) (cv_wJ (sty_of_long hf.1 ht) v) kk
end RowsD
section RowsE
variable {l : Launch} {G : GG} {d mc ms kc ks pc npc : Nat} {M : MD} {L st : List Value} {h h2 h' : Hp} {r : Option Value} {a k kd n i : Nat} {H H1 : Heap}
theorem sty_arr (h1 : 11 ≤ kd) (h2 : kd ≠ 23) (h3 : kd ≠ 24) (k : Nat) : sty kd k = 0 := by unfold sty; rw [if_neg (by omega), if_neg h2, if_neg h3]
theorem sty_23 (k : Nat) : sty 23 k = 1 := rfl
theorem sty_24 (k : Nat) : sty 24 k = 2 := rfl

theorem go_iaload {x : Int32} (hc : lk M pc = some (.iaload, npc, 1)) (hs : mS h a = (20, n)) (hin : vp_in x n) (kk : Go l G d mc ms M kc ks npc L (.int (mI h a x.toNatClampNeg) :: st) h r h') : Go l G d mc ms M kc ks pc L (.int x :: .ref a :: st) h r h' := by
  intro p e s m args below meth c ls H locs C hL hH hlc
  obtain ⟨hd, rfl⟩ := C.dec hc
  have hx := C.1
  have hb := C.2.1
  have hts : ∀ w ∈ gtbl, w.before args s = true := fun w hw => C.word hw
  have hown : s.vm.findClass M.1.cls = some m.cls := C.2.2.2.2.2.1
  have hK : KX G s := C.2.2.2.2.2.2.2.1
  have hlt : x.toNatClampNeg < n := Nat.not_le.mp fun q => hin (Or.inr q)
  exact W.iald (v := .int (mI h a x.toNatClampNeg)) hx hb (hH.arr hs (by omega) (by omega)) ((hK.2.1 20 (by omega) (by omega)).1 n _) (fun q => by cases q) (by rw [arrV_size]; exact hin) (by rw [arrV_read _ _ hlt]; rfl) rfl rfl hd (kk p e s m args below meth c ls H locs C hL hH hlc)

theorem go_baload {x : Int32} (hc : lk M pc = some (.baload, npc, 1)) (hs : mS h a = (21, n)) (hin : vp_in x n) (kk : Go l G d mc ms M kc ks npc L (.int (mI h a x.toNatClampNeg) :: st) h r h') : Go l G d mc ms M kc ks pc L (.int x :: .ref a :: st) h r h' := by
  intro p e s m args below meth c ls H locs C hL hH hlc
  obtain ⟨hd, rfl⟩ := C.dec hc
  have hx := C.1
  have hb := C.2.1
  have hts : ∀ w ∈ gtbl, w.before args s = true := fun w hw => C.word hw
  have hown : s.vm.findClass M.1.cls = some m.cls := C.2.2.2.2.2.1
  have hK : KX G s := C.2.2.2.2.2.2.2.1
  have hlt : x.toNatClampNeg < n := Nat.not_le.mp fun q => hin (Or.inr q)
  exact W.bald (v := .int (mI h a x.toNatClampNeg)) hx hb (hH.arr hs (by omega) (by omega)) ((hK.2.1 21 (by omega) (by omega)).1 n _) (fun q => by cases q) (by rw [arrV_size]; exact hin) (by rw [arrV_read _ _ hlt]; rfl) rfl rfl hd (kk p e s m args below meth c ls H locs C hL hH hlc)

theorem go_zaload {x : Int32} (hc : lk M pc = some (.baload, npc, 1)) (hs : mS h a = (22, n)) (hin : vp_in x n) (kk : Go l G d mc ms M kc ks npc L (.int (mI h a x.toNatClampNeg) :: st) h r h') : Go l G d mc ms M kc ks pc L (.int x :: .ref a :: st) h r h' := by
  intro p e s m args below meth c ls H locs C hL hH hlc
  obtain ⟨hd, rfl⟩ := C.dec hc
  have hx := C.1
  have hb := C.2.1
  have hts : ∀ w ∈ gtbl, w.before args s = true := fun w hw => C.word hw
  have hown : s.vm.findClass M.1.cls = some m.cls := C.2.2.2.2.2.1
  have hK : KX G s := C.2.2.2.2.2.2.2.1
  have hlt : x.toNatClampNeg < n := Nat.not_le.mp fun q => hin (Or.inr q)
  exact W.zald (v := .int (mI h a x.toNatClampNeg)) hx hb (hH.arr hs (by omega) (by omega)) ((hK.2.1 22 (by omega) (by omega)).1 n _) (fun q => by cases q) (by rw [arrV_size]; exact hin) (by rw [arrV_read _ _ hlt]; rfl) rfl rfl hd (kk p e s m args below meth c ls H locs C hL hH hlc)

theorem go_laload {x : Int32} (hc : lk M pc = some (.laload, npc, 1)) (hs : mS h a = (23, n)) (hin : vp_in x n) (kk : Go l G d mc ms M kc ks npc L (.long (mJ h a x.toNatClampNeg) :: st) h r h') : Go l G d mc ms M kc ks pc L (.int x :: .ref a :: st) h r h' := by
  intro p e s m args below meth c ls H locs C hL hH hlc
  obtain ⟨hd, rfl⟩ := C.dec hc
  have hx := C.1
  have hb := C.2.1
  have hts : ∀ w ∈ gtbl, w.before args s = true := fun w hw => C.word hw
  have hown : s.vm.findClass M.1.cls = some m.cls := C.2.2.2.2.2.1
  have hK : KX G s := C.2.2.2.2.2.2.2.1
  have hlt : x.toNatClampNeg < n := Nat.not_le.mp fun q => hin (Or.inr q)
  exact W.lald (v := .long (mJ h a x.toNatClampNeg)) hx hb (hH.arr hs (by omega) (by omega)) ((hK.2.1 23 (by omega) (by omega)).1 n _) (fun q => by cases q) (by rw [arrV_size]; exact hin) (by rw [arrV_read _ _ hlt]; rfl) rfl rfl hd (kk p e s m args below meth c ls H locs C hL hH hlc)

theorem go_aaload {x : Int32} {b : Nat} (hc : lk M pc = some (.aaload, npc, 1)) (hs : mS h a = (24, n)) (hin : vp_in x n) (hp : mP h a x.toNatClampNeg = some b) (kk : Go l G d mc ms M kc ks npc L (.ref b :: st) h r h') : Go l G d mc ms M kc ks pc L (.int x :: .ref a :: st) h r h' := by
  intro p e s m args below meth c ls H locs C hL hH hlc
  obtain ⟨hd, rfl⟩ := C.dec hc
  have hx := C.1
  have hb := C.2.1
  have hts : ∀ w ∈ gtbl, w.before args s = true := fun w hw => C.word hw
  have hown : s.vm.findClass M.1.cls = some m.cls := C.2.2.2.2.2.1
  have hK : KX G s := C.2.2.2.2.2.2.2.1
  have hlt : x.toNatClampNeg < n := Nat.not_le.mp fun q => hin (Or.inr q)
  exact W.aald (v := .ref (gB G + b)) (ty := .array .int) hx hb (hH.arr hs (by omega) (by omega)) ((hK.2.1 24 (by omega) (by omega)).1 n _) rfl (fun q => by cases q) (by rw [arrV_size]; exact hin) (by rw [arrV_read _ _ hlt]; simp [cv, sty_24, hp, va_rf]) rfl rfl hd (kk p e s m args below meth c ls H locs C hL hH hlc)

theorem go_alen {v : Int32} (hc : lk M pc = some (.arraylength, npc, 1)) (hs : mS h a = (kd, n)) (h20 : 20 ≤ kd) (h25 : kd < 25) (hv : Int32.ofNat n = v) (kk : Go l G d mc ms M kc ks npc L (.int v :: st) h r h') : Go l G d mc ms M kc ks pc L (.ref a :: st) h r h' := by
  intro p e s m args below meth c ls H locs C hL hH hlc
  obtain ⟨hd, rfl⟩ := C.dec hc
  have hx := C.1
  have hb := C.2.1
  have hts : ∀ w ∈ gtbl, w.before args s = true := fun w hw => C.word hw
  have hown : s.vm.findClass M.1.cls = some m.cls := C.2.2.2.2.2.1
  have hK : KX G s := C.2.2.2.2.2.2.2.1
  exact W.alen (n := v) hx hb (hH.arr hs (by omega) (by omega)) ((hK.2.1 kd h20 h25).1 n _) (by rw [arrV_size]; exact hv) rfl rfl hd (kk p e s m args below meth c ls H locs C hL hH hlc)

theorem go_iastore {x y : Int32} (hc : lk M pc = some (.iastore, npc, 1)) (hs : mS h a = (20, n)) (hin : vp_in x n) (kk : Go l G d mc ms M kc ks npc L st (wI h a x.toNatClampNeg y) r h') : Go l G d mc ms M kc ks pc L (.int y :: .int x :: .ref a :: st) h r h' := by
  intro p e s m args below meth c ls H locs C hL hH hlc
  obtain ⟨hd, rfl⟩ := C.dec hc
  have hx := C.1
  have hb := C.2.1
  have hts : ∀ w ∈ gtbl, w.before args s = true := fun w hw => C.word hw
  have hown : s.vm.findClass M.1.cls = some m.cls := C.2.2.2.2.2.1
  have hK : KX G s := C.2.2.2.2.2.2.2.1
  refine W.iast hx hb (hH.arr hs (by omega) (by omega)) ((hK.2.1 20 (by omega) (by omega)).1 n _) (fun q => by cases q) (by rw [arrV_size]; exact hin) rfl rfl hd fun H' e1 e2 e3 => ?_
  refine kk p e s m args below meth c ls H' _ C hL (hH.upd e2 e3 rfl rfl (fun a' kd e => cv_wI_ne e y) ?_) (fun q hq => ?_)
  · unfold cAt
    have e4 : mS (wI h a x.toNatClampNeg y) a = (20, n) := hs
    rw [e4, if_neg (by omega), if_pos (by omega), e1, arrV_store]
    exact congrArg (fun z => some (arrV (gC G 20) n z)) (cv_wI (sty_arr (by omega) (by omega) (by omega) _) y)
  · rcases List.mem_append.mp hq with z | z
    · exact hlc q z
    · rw [List.mem_singleton.mp z]
      exact Nat.le_add_right _ _

theorem go_lastore {x : Int32} {y : Int64} (hc : lk M pc = some (.lastore, npc, 1)) (hs : mS h a = (23, n)) (hin : vp_in x n) (kk : Go l G d mc ms M kc ks npc L st (wJ h a x.toNatClampNeg y) r h') : Go l G d mc ms M kc ks pc L (.long y :: .int x :: .ref a :: st) h r h' := by
  intro p e s m args below meth c ls H locs C hL hH hlc
  obtain ⟨hd, rfl⟩ := C.dec hc
  have hx := C.1
  have hb := C.2.1
  have hts : ∀ w ∈ gtbl, w.before args s = true := fun w hw => C.word hw
  have hown : s.vm.findClass M.1.cls = some m.cls := C.2.2.2.2.2.1
  have hK : KX G s := C.2.2.2.2.2.2.2.1
  refine W.last hx hb (hH.arr hs (by omega) (by omega)) ((hK.2.1 23 (by omega) (by omega)).1 n _) (fun q => by cases q) (by rw [arrV_size]; exact hin) rfl rfl hd fun H' e1 e2 e3 => ?_
  refine kk p e s m args below meth c ls H' _ C hL (hH.upd e2 e3 rfl rfl (fun a' kd e => cv_wJ_ne e y) ?_) (fun q hq => ?_)
  · unfold cAt
    have e4 : mS (wJ h a x.toNatClampNeg y) a = (23, n) := hs
    rw [e4, if_neg (by omega), if_pos (by omega), e1, arrV_store]
    exact congrArg (fun z => some (arrV (gC G 23) n z)) (cv_wJ (sty_23 _) y)
  · rcases List.mem_append.mp hq with z | z
    · exact hlc q z
    · rw [List.mem_singleton.mp z]
      exact Nat.le_add_right _ _

theorem go_bastore {x y : Int32} (hc : lk M pc = some (.bastore, npc, 1)) (hs : mS h a = (21, n)) (hin : vp_in x n) (kk : Go l G d mc ms M kc ks npc L st (wI h a x.toNatClampNeg (vp_nar .byte y)) r h') : Go l G d mc ms M kc ks pc L (.int y :: .int x :: .ref a :: st) h r h' := by
  intro p e s m args below meth c ls H locs C hL hH hlc
  obtain ⟨hd, rfl⟩ := C.dec hc
  have hx := C.1
  have hb := C.2.1
  have hts : ∀ w ∈ gtbl, w.before args s = true := fun w hw => C.word hw
  have hown : s.vm.findClass M.1.cls = some m.cls := C.2.2.2.2.2.1
  have hK : KX G s := C.2.2.2.2.2.2.2.1
  refine W.bast hx hb (hH.arr hs (by omega) (by omega)) ((hK.2.1 21 (by omega) (by omega)).1 n _) (fun q => by cases q) (by rw [arrV_size]; exact hin) rfl rfl hd fun H' e1 e2 e3 => ?_
  refine kk p e s m args below meth c ls H' _ C hL (hH.upd e2 e3 rfl rfl (fun a' kd e => cv_wI_ne e _) ?_) (fun q hq => ?_)
  · unfold cAt
    have e4 : mS (wI h a x.toNatClampNeg (vp_nar .byte y)) a = (21, n) := hs
    rw [e4, if_neg (by omega), if_pos (by omega), e1, arrV_store]
    exact congrArg (fun z => some (arrV (gC G 21) n z)) (cv_wI (sty_arr (by omega) (by omega) (by omega) _) _)
  · rcases List.mem_append.mp hq with z | z
    · exact hlc q z
    · rw [List.mem_singleton.mp z]
      exact Nat.le_add_right _ _

theorem go_zastore {x y : Int32} (hc : lk M pc = some (.bastore, npc, 1)) (hs : mS h a = (22, n)) (hin : vp_in x n) (kk : Go l G d mc ms M kc ks npc L st (wI h a x.toNatClampNeg (vp_nar .boolean y)) r h') : Go l G d mc ms M kc ks pc L (.int y :: .int x :: .ref a :: st) h r h' := by
  intro p e s m args below meth c ls H locs C hL hH hlc
  obtain ⟨hd, rfl⟩ := C.dec hc
  have hx := C.1
  have hb := C.2.1
  have hts : ∀ w ∈ gtbl, w.before args s = true := fun w hw => C.word hw
  have hown : s.vm.findClass M.1.cls = some m.cls := C.2.2.2.2.2.1
  have hK : KX G s := C.2.2.2.2.2.2.2.1
  refine W.zast hx hb (hH.arr hs (by omega) (by omega)) ((hK.2.1 22 (by omega) (by omega)).1 n _) (fun q => by cases q) (by rw [arrV_size]; exact hin) rfl rfl hd fun H' e1 e2 e3 => ?_
  refine kk p e s m args below meth c ls H' _ C hL (hH.upd e2 e3 rfl rfl (fun a' kd e => cv_wI_ne e _) ?_) (fun q hq => ?_)
  · unfold cAt
    have e4 : mS (wI h a x.toNatClampNeg (vp_nar .boolean y)) a = (22, n) := hs
    rw [e4, if_neg (by omega), if_pos (by omega), e1, arrV_store]
    exact congrArg (fun z => some (arrV (gC G 22) n z)) (cv_wI (sty_arr (by omega) (by omega) (by omega) _) _)
  · rcases List.mem_append.mp hq with z | z
    · exact hlc q z
    · rw [List.mem_singleton.mp z]
      exact Nat.le_add_right _ _

end RowsE
end
section
section RowsF
variable {l : Launch} {G : GG} {d mc ms kc ks pc npc : Nat} {M : MD} {L st : List Value} {h h1 h' : Hp} {r r1 : Option Value} {kd n i : Nat}
def argF (as : List Value) : List Value := as.flatMap fun v => if v.category = 2 then [v, .null] else [v]
def argL (as : List Value) (n : Nat) : List Value := argF as ++ List.replicate (n - (argF as).length) .null
theorem argF_in {G : GG} : ∀ {as : List Value} {b i : Nat} {v : Value}, (argF as)[i]? = some v → v ≠ .null → (b + i, tv G v) ∈ lv_args b (as.map (tv G))
  | [], b, i, v, h, _ => by simp [argF] at h
  | w :: t, b, i, v, h, hv => by
    have e : argF (w :: t) = (if w.category = 2 then [w, .null] else [w]) ++ argF t := by simp [argF]
    rw [e] at h
    show _ ∈ (b, tv G w) :: lv_args (if (tv G w).category = 2 then b + 2 else b + 1) (t.map (tv G))
    rw [tv_cat]
    by_cases hc : w.category = 2
    · rw [if_pos hc] at h ⊢
      match i, h with
      | 0, h =>
        rw [List.cons_append, List.getElem?_cons_zero] at h
        cases h
        exact List.mem_cons_self
      | 1, h =>
        rw [List.cons_append, List.getElem?_cons_succ, List.cons_append, List.getElem?_cons_zero] at h
        cases h
        exact absurd rfl hv
      | i + 2, h =>
        rw [List.cons_append, List.getElem?_cons_succ, List.cons_append, List.getElem?_cons_succ, List.nil_append] at h
        have h5 := argF_in (G := G) (b := b + 2) h hv
        rw [show b + (i + 2) = b + 2 + i by omega]
        exact List.mem_cons_of_mem _ h5
    · rw [if_neg hc] at h ⊢
      match i, h with
      | 0, h =>
        rw [List.cons_append, List.getElem?_cons_zero] at h
        cases h
        exact List.mem_cons_self
      | i + 1, h =>
        rw [List.cons_append, List.getElem?_cons_succ, List.nil_append] at h
        have h5 := argF_in (G := G) (b := b + 1) h hv
        rw [show b + (i + 1) = b + 1 + i by omega]
        exact List.mem_cons_of_mem _ h5
theorem argF_len {G : GG} (as : List Value) : (lg_sl (as.map (tv G))).length = (argF as).length := by
  induction as with
  | nil => rfl
  | cons v t ih =>
    have e1 : argF (v :: t) = (if v.category = 2 then [v, .null] else [v]) ++ argF t := by simp [argF]
    have e2 : lg_sl ((v :: t).map (tv G)) = (if (tv G v).category = 2 then [.val (tv G v), .second] else [.val (tv G v)]) ++ lg_sl (t.map (tv G)) := by simp [lg_sl]
    rw [e1, e2, List.length_append, List.length_append, ih, tv_cat]
    split <;> rfl
theorem LR.entry {as : List Value} (hn : (argF as).length ≤ n) : LR G (argL as n) ((lg_sl (as.map (tv G)) ++ List.replicate (n - (lg_sl (as.map (tv G))).length) Slot.unset).toArray) n := by
  have h0 := lv_entry (as.map (tv G)) (n := n) (by rw [argF_len]; exact hn)
  refine ⟨h0.1, h0.2.1, fun j v hj hv => ?_⟩
  unfold argL at hj
  by_cases hl : j < (argF as).length
  · rw [List.getElem?_append_left hl] at hj
    have h5 := argF_in (G := G) (b := 0) hj hv
    rw [Nat.zero_add] at h5
    exact h0.2.2 (j, tv G v) h5
  · rw [List.getElem?_append_right (by omega)] at hj
    have h6 := (List.mem_replicate.mp (List.mem_of_getElem? hj)).2
    exact absurd h6 hv
theorem Ct.of {as : List Value} (hM : MOk M) (hn : Nat.ble (argF as).length M.2.2.1 = true) (hl : argL as M.2.2.1 = L) (hg : Go l G d mc ms M 0 0 0 L [] h r h') : Ct l G d mc ms M as h r h' := by
  subst hl
  refine Met.ofW (cc := M.2.1) (maxL := M.2.2.1) (ret := M.2.2.2.1) hM.1 rfl ?_
  intro p e s m args below meth c s₁ B hml hv
  obtain ⟨rfl, hH, hK⟩ := hv
  have C : Cx G M p s m (as.map (tv G)).toArray meth c := ⟨B.exec, B.bytes, B.returns, hml, fun w hw => atoms_spec (ws := wsM M) B.pre w (List.mem_cons_of_mem _ hw), findClass_of_methodNamed B.named, B.notSynchronized, hK, hM.2.2.2.2.2, (name_of_methodNamed B.named B.method).1⟩
  rw [lg_entry_eq]
  exact hg p e s m _ below meth c _ s.heap [] C (LR.entry (Nat.ble_eq.mp hn)) hH (fun q hq => by cases hq)
theorem go_ireturn {v : Int32} (hc : lk M pc = some (.ireturn, npc, 1)) (hr : M.2.2.2.1 = some .int) (e1 : some (.int v) = r) (e2 : h = h') : Go l G d mc ms M mc ms pc L [.int v] h r h' := by
  subst e1; subst e2
  intro p e s m args below meth c ls H locs C hL hH hlc
  obtain ⟨hd, -⟩ := C.dec hc
  have hx := C.1
  have hb := C.2.1
  have hts : ∀ w ∈ gtbl, w.before args s = true := fun w hw => C.word hw
  have hown : s.vm.findClass M.1.cls = some m.cls := C.2.2.2.2.2.1
  have hK : KX G s := C.2.2.2.2.2.2.2.1
  have hml : c.maxLocals = M.2.2.1 := C.2.2.2.1
  exact W.iret (v := v) hx hb (C.2.2.1.trans hr) (fun t ht hW => ⟨rfl, by rw [ht]; exact hH⟩) hlc hd C.2.2.2.2.2.2.1
theorem go_zreturn {v : Int32} (hc : lk M pc = some (.ireturn, npc, 1)) (hr : M.2.2.2.1 = some .boolean) (hv : v = 0 ∨ v = 1) (e1 : some (.int v) = r) (e2 : h = h') : Go l G d mc ms M mc ms pc L [.int v] h r h' := by
  subst e1; subst e2
  intro p e s m args below meth c ls H locs C hL hH hlc
  obtain ⟨hd, -⟩ := C.dec hc
  have hx := C.1
  have hb := C.2.1
  have hts : ∀ w ∈ gtbl, w.before args s = true := fun w hw => C.word hw
  have hown : s.vm.findClass M.1.cls = some m.cls := C.2.2.2.2.2.1
  have hK : KX G s := C.2.2.2.2.2.2.2.1
  have hml : c.maxLocals = M.2.2.1 := C.2.2.2.1
  exact W.zret (v := v) hx hb (C.2.2.1.trans hr) (nar_bool hv).1 (fun t ht hW => ⟨rfl, by rw [ht]; exact hH⟩) hlc hd C.2.2.2.2.2.2.1
theorem go_lreturn {v : Int64} (hc : lk M pc = some (.lreturn, npc, 1)) (hr : M.2.2.2.1 = some .long) (e1 : some (.long v) = r) (e2 : h = h') : Go l G d mc ms M mc ms pc L [.long v] h r h' := by
  subst e1; subst e2
  intro p e s m args below meth c ls H locs C hL hH hlc
  obtain ⟨hd, -⟩ := C.dec hc
  have hx := C.1
  have hb := C.2.1
  have hts : ∀ w ∈ gtbl, w.before args s = true := fun w hw => C.word hw
  have hown : s.vm.findClass M.1.cls = some m.cls := C.2.2.2.2.2.1
  have hK : KX G s := C.2.2.2.2.2.2.2.1
  have hml : c.maxLocals = M.2.2.1 := C.2.2.2.1
  exact W.lret (v := v) hx hb (C.2.2.1.trans hr) (fun t ht hW => ⟨rfl, by rw [ht]; exact hH⟩) hlc hd C.2.2.2.2.2.2.1
theorem go_return (hc : lk M pc = some (.return_, npc, 1)) (hr : M.2.2.2.1 = none) (e1 : none = r) (e2 : h = h') : Go l G d mc ms M mc ms pc L [] h r h' := by
  subst e1; subst e2
  intro p e s m args below meth c ls H locs C hL hH hlc
  obtain ⟨hd, -⟩ := C.dec hc
  have hx := C.1
  have hb := C.2.1
  have hts : ∀ w ∈ gtbl, w.before args s = true := fun w hw => C.word hw
  have hown : s.vm.findClass M.1.cls = some m.cls := C.2.2.2.2.2.1
  have hK : KX G s := C.2.2.2.2.2.2.2.1
  have hml : c.maxLocals = M.2.2.1 := C.2.2.2.1
  exact W.vret hx hb (C.2.2.1.trans hr) (fun t ht hW => ⟨rfl, by rw [ht]; exact hH⟩) hlc hd C.2.2.2.2.2.2.1
theorem go_areturn {b : Nat} {rt : FieldType} (hc : lk M pc = some (.areturn, npc, 1)) (hr : M.2.2.2.1 = some rt) (hrt : (∃ n, rt = .object n) ∨ ∃ t, rt = .array t) (e1 : some (.ref b) = r) (e2 : h = h') : Go l G d mc ms M mc ms pc L [.ref b] h r h' := by
  subst e1; subst e2
  intro p e s m args below meth c ls H locs C hL hH hlc
  obtain ⟨hd, -⟩ := C.dec hc
  have hx := C.1
  have hb := C.2.1
  have hts : ∀ w ∈ gtbl, w.before args s = true := fun w hw => C.word hw
  have hown : s.vm.findClass M.1.cls = some m.cls := C.2.2.2.2.2.1
  have hK : KX G s := C.2.2.2.2.2.2.2.1
  have hml : c.maxLocals = M.2.2.1 := C.2.2.2.1
  exact W.aret (v := .ref (gB G + b)) hx hb (C.2.2.1.trans hr) hrt (Or.inr ⟨_, rfl⟩) (fun t ht hW => ⟨rfl, by rw [ht]; exact hH⟩) hlc hd C.2.2.2.2.2.2.1
/-- a call's links: virtual, static, a constructor; those of nest mates -/
def Lp (y : MethodName) (n : Nat) : Prop := ∀ sig, parseMethodDescriptor y.desc = some sig → n = sig.parameters.length
theorem Lp.of {y : MethodName} (hh : (parseMethodDescriptor y.desc).map (fun d => d.parameters.length) = some n) : Lp y n := fun sig h2 => by
  rw [h2] at hh
  exact (Option.some.inj hh).symm
def Lv (own : String) (i : Nat) (y : MethodName) (n : Nat) : Prop := Cond.methodLink own i y ∈ gtbl ∧ Cond.instanceMethod y ∈ gtbl ∧ Cond.selects y.cls y y ∈ gtbl ∧ Lp y n
def Ls (own : String) (i : Nat) (y : MethodName) (n : Nat) : Prop := Cond.methodLink own i y ∈ gtbl ∧ Cond.static y ∈ gtbl ∧ Lp y n
def Li (own : String) (i : Nat) (y : MethodName) (n : Nat) : Prop := Cond.methodLink own i y ∈ gtbl ∧ Cond.instanceMethod y ∈ gtbl ∧ y.name = "<init>" ∧ Lp y n
def LsN (own : String) (i : Nat) (y : MethodName) (n : Nat) : Prop := (own, i, y) ∈ nws ∧ Cond.static y ∈ gtbl ∧ Lp y n
def LiN (own : String) (i : Nat) (y : MethodName) (n : Nat) : Prop := (own, i, y) ∈ nws ∧ Cond.instanceMethod y ∈ gtbl ∧ y.name = "<init>" ∧ Lp y n
theorem pay_g {s : State} {args : Array Value} {M2 : MD} (hts : ∀ w ∈ gtbl, w.before args s = true) (hM2 : MOk M2) : ∀ w ∈ wsM M2, ∀ (a' : Array Value) (U : State), s.WarmedH U.vm → w.before a' U = true := by
  intro w hw a' U hW
  have hg : w ∈ gtbl := by
    rcases List.mem_cons.mp hw with rfl | hw
    · exact hM2.2.1
    · exact hw
  exact word_at hW (g_good hg) (hts w hg)
theorem cat_sum (G : GG) (st : List Value) : ((st.map (tv G)).map fun v => v.category).sum = (st.map fun v => v.category).sum := by
  induction st with
  | nil => rfl
  | cons v t ih =>
    show (tv G v).category + _ = v.category + _
    rw [tv_cat]
    exact congrArg (fun z => v.category + z) ih
theorem blind (G : GG) (h : Hp) (as : List Value) : FrameBlind (va_Pc (as.map (tv G)) (fun U => HR G h U.heap ∧ KX G U)) := fun a U g mk q => ⟨q.1, q.2.1, KX.same (u := U) (U := U.calling g mk a) rfl q.2.2⟩
theorem go_runs {p : Program} {e : Env} {s : State} {m : MethodId} {args : Array Value} {below : List Frame} {meth : Method} {c : Code} {ls : Array Slot} {H : Heap} {locs : List Loc} {mc1 ms1 : Nat} {stk : List Value} {a : Array Value}
    (run : va_Run p l e (rmm d mc ms) s m args below meth c H locs kc ks mc1 ms1 (F0 m pc ls stk) (st.map (tv G)) (Qx G r1 h1 a) (fun q => gB G ≤ q))
    (C : Cx G M p s m args meth c) (hL : LR G L ls M.2.2.1) (hlc : ∀ q ∈ locs, gB G ≤ q.base) (hn : npc = pc + 3)
    (kk : Go l G d mc ms M (kc + mc1) (ks + ms1) npc L (r1.toList ++ st) h1 r h') : W p l e (rmm d mc ms) s m args below meth c H locs kc ks (MQ below (Qx G r h') args s mc ms (fun q => gB G ≤ q)) (F0 m pc ls stk) := by
  subst hn
  intro T hT X
  obtain ⟨v, st₀, t, T', L', h0, X', hLf, e1, e2, ⟨ho, hH1⟩, stp⟩ := run T hT X
  cases ho
  obtain ⟨t2, a1, b1⟩ := kk p e s m args below meth c ls T'.heap (locs ++ L') C hL (by rw [e1]; exact hH1) (fun q hq => by
    rcases List.mem_append.mp hq with z | z
    · exact hlc q z
    · exact hLf q z) T' rfl X'
  refine ⟨t2, stp t2 ?_, b1⟩
  have e3 : (Option.map (tv G) r1).toList ++ st.map (tv G) = (r1.toList ++ st).map (tv G) := by cases r1 <;> simp
  rw [e3]
  exact a1

theorem go_callV {M2 : MD} {as stk : List Value} {mc1 ms1 : Nat} {b : Nat} (hc : lk M pc = some (.invokevirtual i, npc, 3)) (hl : Lv M.1.cls i M2.1 n) (hM2 : MOk M2) (hct : Ct l G d mc1 ms1 M2 (.ref b :: as) h r1 h1) (hstk : stk = as.reverse ++ .ref b :: st) (hs : kC (mS h b).1 = M2.1.cls) (hkd : Nat.blt (mS h b).1 11 = true) (hn : as.length = n) (hst : Nat.ble (st.map fun v => v.category).sum 8 = true) (hmc : kc + mc1 ≤ mc) (hms : ks + ms1 ≤ ms) (kk : Go l G (d + 1) mc ms M (kc + mc1) (ks + ms1) npc L (r1.toList ++ st) h1 r h') : Go l G (d + 1) mc ms M kc ks pc L stk h r h' := by
  have h3 := hct
  intro p e s m args below meth c ls H locs C hL hH hlc
  obtain ⟨hd, -⟩ := C.dec hc
  have hx := C.1
  have hb := C.2.1
  have hts : ∀ w ∈ gtbl, w.before args s = true := fun w hw => C.word hw
  have hown : s.vm.findClass M.1.cls = some m.cls := C.2.2.2.2.2.1
  have hK : KX G s := C.2.2.2.2.2.2.2.1
  have hml : c.maxLocals = M.2.2.1 := C.2.2.2.1
  have hpc : npc = pc + 3 := (C.dec hc).2
  have hroom : (rmm d mc1 ms1).frames + 1 ≤ (rmm (d + 1) mc ms).frames ∧ 8 + (M2.2.2.1 + 11) + (rmm d mc1 ms1).locals ≤ (rmm (d + 1) mc ms).locals := by
    have h40 : M2.2.2.1 ≤ 40 := hM2.2.2.2.2.1
    exact ⟨Nat.le_refl _, by show 8 + (M2.2.2.1 + 11) + 64 * d ≤ 64 * (d + 1); omega⟩
  have hW : 2 * (F0 m pc ls (stk.map (tv G))).monitorRoom + ((st.map (tv G)).map fun v => v.category).sum ≤ 8 := lv_room (by rw [cat_sum]; exact Nat.ble_eq.mp hst)
  have hkd := Nat.blt_eq.mp hkd
  obtain ⟨cell, q1, q2, q3, q4⟩ := hH.obj rfl hkd
  have hrecv : ∃ cellB : Cell, H[gB G + b]? = some cellB ∧ cellB.vm.isStatics = false ∧ s.vm.findClass M2.1.cls = some cellB.cls := ⟨cell, q1, by rw [q3]; rfl, by rw [q2, ← hs]; exact (hK.1.1 _ _ (k_cl _ hkd)).2.1⟩
  have run := va_runV (e := e) (meth := meth) (locs := locs) (cells := kc) (slots := ks) (rest := st.map (tv G)) (As := as.map (tv G)) (b := gB G + b) (R := rmm (d + 1) mc ms) (H := H) (below := below) (n := n) (C := M2.1.cls) (bytes := M2.2.1) (maxL := M2.2.2.1) (ret := M2.2.2.2.1) (g := F0 m pc ls (stk.map (tv G))) (Ts := gtbl) (nL := M.2.2.1) ⟨hx, hb, hml, hown, hts⟩ h3
    ⟨⟨rfl, rfl, hroom.1, hroom.2, pay_g hts hM2, List.mem_cons_self, hts _ hM2.2.1, hts _ hM2.2.2.1, hM2.2.2.2.1, hl.2.2.2, hts _ hl.1⟩, hts _ hl.2.1, hts _ hl.2.2.1⟩
    ⟨blind G h _, hrecv, fun U hU hW2 => ⟨rfl, by rw [hU]; exact hH, KX.warm hW2 hK⟩⟩ rfl (by rw [List.length_map]; exact hn) hL.1
    (by subst hstk; simp [tv]) hW hd ⟨hmc, hms⟩
  exact go_runs run C hL hlc hpc kk

theorem go_callS {M2 : MD} {as stk : List Value} {mc1 ms1 : Nat} (hc : lk M pc = some (.invokestatic i, npc, 3)) (hl : Ls M.1.cls i M2.1 n) (hM2 : MOk M2) (hct : Ct l G d mc1 ms1 M2 as h r1 h1) (hstk : stk = as.reverse ++ st) (hn : as.length = n) (hst : Nat.ble (st.map fun v => v.category).sum 8 = true) (hmc : kc + mc1 ≤ mc) (hms : ks + ms1 ≤ ms) (kk : Go l G (d + 1) mc ms M (kc + mc1) (ks + ms1) npc L (r1.toList ++ st) h1 r h') : Go l G (d + 1) mc ms M kc ks pc L stk h r h' := by
  have h3 := hct
  intro p e s m args below meth c ls H locs C hL hH hlc
  obtain ⟨hd, -⟩ := C.dec hc
  have hx := C.1
  have hb := C.2.1
  have hts : ∀ w ∈ gtbl, w.before args s = true := fun w hw => C.word hw
  have hown : s.vm.findClass M.1.cls = some m.cls := C.2.2.2.2.2.1
  have hK : KX G s := C.2.2.2.2.2.2.2.1
  have hml : c.maxLocals = M.2.2.1 := C.2.2.2.1
  have hpc : npc = pc + 3 := (C.dec hc).2
  have hroom : (rmm d mc1 ms1).frames + 1 ≤ (rmm (d + 1) mc ms).frames ∧ 8 + (M2.2.2.1 + 11) + (rmm d mc1 ms1).locals ≤ (rmm (d + 1) mc ms).locals := by
    have h40 : M2.2.2.1 ≤ 40 := hM2.2.2.2.2.1
    exact ⟨Nat.le_refl _, by show 8 + (M2.2.2.1 + 11) + 64 * d ≤ 64 * (d + 1); omega⟩
  have hW : 2 * (F0 m pc ls (stk.map (tv G))).monitorRoom + ((st.map (tv G)).map fun v => v.category).sum ≤ 8 := lv_room (by rw [cat_sum]; exact Nat.ble_eq.mp hst)
  have run := va_runS (e := e) (meth := meth) (locs := locs) (cells := kc) (slots := ks) (rest := st.map (tv G)) (As := as.map (tv G)) (R := rmm (d + 1) mc ms) (H := H) (below := below) (n := n) (bytes := M2.2.1) (maxL := M2.2.2.1) (ret := M2.2.2.2.1) (g := F0 m pc ls (stk.map (tv G))) (Ts := gtbl) (nL := M.2.2.1) ⟨hx, hb, hml, hown, hts⟩ h3
    ⟨⟨rfl, rfl, hroom.1, hroom.2, pay_g hts hM2, List.mem_cons_self, hts _ hM2.2.1, hts _ hM2.2.2.1, hM2.2.2.2.1, hl.2.2, hts _ hl.1⟩, hts _ hl.2.1⟩
    ⟨blind G h _, fun U hU hW2 => ⟨rfl, by rw [hU]; exact hH, KX.warm hW2 hK⟩⟩ rfl (by rw [List.length_map]; exact hn) hL.1
    (by subst hstk; simp [tv]) hW hd ⟨hmc, hms⟩
  exact go_runs run C hL hlc hpc kk

theorem go_callSN {M2 : MD} {as stk : List Value} {mc1 ms1 : Nat} (hc : lk M pc = some (.invokestatic i, npc, 3)) (hl : LsN M.1.cls i M2.1 n) (hM2 : MOk M2) (hct : Ct l G d mc1 ms1 M2 as h r1 h1) (hstk : stk = as.reverse ++ st) (hn : as.length = n) (hst : Nat.ble (st.map fun v => v.category).sum 8 = true) (hmc : kc + mc1 ≤ mc) (hms : ks + ms1 ≤ ms) (kk : Go l G (d + 1) mc ms M (kc + mc1) (ks + ms1) npc L (r1.toList ++ st) h1 r h') : Go l G (d + 1) mc ms M kc ks pc L stk h r h' := by
  have h3 := hct
  intro p e s m args below meth c ls H locs C hL hH hlc
  obtain ⟨hd, -⟩ := C.dec hc
  have hx := C.1
  have hb := C.2.1
  have hts : ∀ w ∈ gtbl, w.before args s = true := fun w hw => C.word hw
  have hown : s.vm.findClass M.1.cls = some m.cls := C.2.2.2.2.2.1
  have hK : KX G s := C.2.2.2.2.2.2.2.1
  have hml : c.maxLocals = M.2.2.1 := C.2.2.2.1
  have hpc : npc = pc + 3 := (C.dec hc).2
  have hroom : (rmm d mc1 ms1).frames + 1 ≤ (rmm (d + 1) mc ms).frames ∧ 8 + (M2.2.2.1 + 11) + (rmm d mc1 ms1).locals ≤ (rmm (d + 1) mc ms).locals := by
    have h40 : M2.2.2.1 ≤ 40 := hM2.2.2.2.2.1
    exact ⟨Nat.le_refl _, by show 8 + (M2.2.2.1 + 11) + 64 * d ≤ 64 * (d + 1); omega⟩
  have hW : 2 * (F0 m pc ls (stk.map (tv G))).monitorRoom + ((st.map (tv G)).map fun v => v.category).sum ≤ 8 := lv_room (by rw [cat_sum]; exact Nat.ble_eq.mp hst)
  have run := va_runSN (e := e) (meth := meth) (locs := locs) (cells := kc) (slots := ks) (rest := st.map (tv G)) (As := as.map (tv G)) (R := rmm (d + 1) mc ms) (H := H) (below := below) (n := n) (host := "TinNation") (bytes := M2.2.1) (maxL := M2.2.2.1) (ret := M2.2.2.2.1) (g := F0 m pc ls (stk.map (tv G))) (Ts := gtbl) (nL := M.2.2.1) ⟨hx, hb, hml, hown, hts⟩ h3
    ⟨⟨⟨rfl, rfl, hroom.1, hroom.2, pay_g hts hM2, List.mem_cons_self⟩, hts _ hM2.2.1, hts _ hM2.2.2.1, hM2.2.2.2.1, hl.2.2, va_Nw.use rfl (hK.2.2.1 _ hl.1)⟩, hts _ hl.2.1, trivial⟩
    ⟨blind G h _, fun U hU hW2 => ⟨rfl, by rw [hU]; exact hH, KX.warm hW2 hK⟩⟩ rfl (by rw [List.length_map]; exact hn) hL.1
    (by subst hstk; simp [tv]) hW hd ⟨hmc, hms⟩
  exact go_runs run C hL hlc hpc kk

theorem go_callI {M2 : MD} {as stk : List Value} {mc1 ms1 : Nat} {b : Nat} (hc : lk M pc = some (.invokespecial i, npc, 3)) (hl : Li M.1.cls i M2.1 n) (hM2 : MOk M2) (hret : M2.2.2.2.1 = none) (hct : Ct l G d mc1 ms1 M2 (.ref b :: as) h r1 h1) (hstk : stk = as.reverse ++ .ref b :: st) (hn : as.length = n) (hst : Nat.ble (st.map fun v => v.category).sum 8 = true) (hmc : kc + mc1 ≤ mc) (hms : ks + ms1 ≤ ms) (kk : Go l G (d + 1) mc ms M (kc + mc1) (ks + ms1) npc L (r1.toList ++ st) h1 r h') : Go l G (d + 1) mc ms M kc ks pc L stk h r h' := by
  have h3 := hct
  intro p e s m args below meth c ls H locs C hL hH hlc
  obtain ⟨hd, -⟩ := C.dec hc
  have hx := C.1
  have hb := C.2.1
  have hts : ∀ w ∈ gtbl, w.before args s = true := fun w hw => C.word hw
  have hown : s.vm.findClass M.1.cls = some m.cls := C.2.2.2.2.2.1
  have hK : KX G s := C.2.2.2.2.2.2.2.1
  have hml : c.maxLocals = M.2.2.1 := C.2.2.2.1
  have hpc : npc = pc + 3 := (C.dec hc).2
  have hroom : (rmm d mc1 ms1).frames + 1 ≤ (rmm (d + 1) mc ms).frames ∧ 8 + (M2.2.2.1 + 11) + (rmm d mc1 ms1).locals ≤ (rmm (d + 1) mc ms).locals := by
    have h40 : M2.2.2.1 ≤ 40 := hM2.2.2.2.2.1
    exact ⟨Nat.le_refl _, by show 8 + (M2.2.2.1 + 11) + 64 * d ≤ 64 * (d + 1); omega⟩
  have hW : 2 * (F0 m pc ls (stk.map (tv G))).monitorRoom + ((st.map (tv G)).map fun v => v.category).sum ≤ 8 := lv_room (by rw [cat_sum]; exact Nat.ble_eq.mp hst)
  have hret : M2.2.2.2.1 = none := hret
  have run := va_runI (e := e) (meth := meth) (locs := locs) (cells := kc) (slots := ks) (rest := st.map (tv G)) (As := as.map (tv G)) (b := gB G + b) (R := rmm (d + 1) mc ms) (H := H) (below := below) (n := n) (bytes := M2.2.1) (maxL := M2.2.2.1) (g := F0 m pc ls (stk.map (tv G))) (Ts := gtbl) (nL := M.2.2.1) ⟨hx, hb, hml, hown, hts⟩ h3
    ⟨⟨rfl, rfl, hroom.1, hroom.2, pay_g hts hM2, by rw [← hret]; exact List.mem_cons_self, by rw [← hret]; exact hts _ hM2.2.1, hts _ hM2.2.2.1, hM2.2.2.2.1, hl.2.2.2, hts _ hl.1⟩, hl.2.2.1, hts _ hl.2.1⟩
    ⟨blind G h _, fun U hU hW2 => ⟨rfl, by rw [hU]; exact hH, KX.warm hW2 hK⟩⟩ rfl (by rw [List.length_map]; exact hn) hL.1
    (by subst hstk; simp [tv]) hW hd ⟨hmc, hms⟩
  exact go_runs run C hL hlc hpc kk

theorem go_callIN {M2 : MD} {as stk : List Value} {mc1 ms1 : Nat} {b : Nat} (hc : lk M pc = some (.invokespecial i, npc, 3)) (hl : LiN M.1.cls i M2.1 n) (hM2 : MOk M2) (hret : M2.2.2.2.1 = none) (hct : Ct l G d mc1 ms1 M2 (.ref b :: as) h r1 h1) (hstk : stk = as.reverse ++ .ref b :: st) (hn : as.length = n) (hst : Nat.ble (st.map fun v => v.category).sum 8 = true) (hmc : kc + mc1 ≤ mc) (hms : ks + ms1 ≤ ms) (kk : Go l G (d + 1) mc ms M (kc + mc1) (ks + ms1) npc L (r1.toList ++ st) h1 r h') : Go l G (d + 1) mc ms M kc ks pc L stk h r h' := by
  have h3 := hct
  intro p e s m args below meth c ls H locs C hL hH hlc
  obtain ⟨hd, -⟩ := C.dec hc
  have hx := C.1
  have hb := C.2.1
  have hts : ∀ w ∈ gtbl, w.before args s = true := fun w hw => C.word hw
  have hown : s.vm.findClass M.1.cls = some m.cls := C.2.2.2.2.2.1
  have hK : KX G s := C.2.2.2.2.2.2.2.1
  have hml : c.maxLocals = M.2.2.1 := C.2.2.2.1
  have hpc : npc = pc + 3 := (C.dec hc).2
  have hroom : (rmm d mc1 ms1).frames + 1 ≤ (rmm (d + 1) mc ms).frames ∧ 8 + (M2.2.2.1 + 11) + (rmm d mc1 ms1).locals ≤ (rmm (d + 1) mc ms).locals := by
    have h40 : M2.2.2.1 ≤ 40 := hM2.2.2.2.2.1
    exact ⟨Nat.le_refl _, by show 8 + (M2.2.2.1 + 11) + 64 * d ≤ 64 * (d + 1); omega⟩
  have hW : 2 * (F0 m pc ls (stk.map (tv G))).monitorRoom + ((st.map (tv G)).map fun v => v.category).sum ≤ 8 := lv_room (by rw [cat_sum]; exact Nat.ble_eq.mp hst)
  have hret : M2.2.2.2.1 = none := hret
  have run := va_runIN (e := e) (meth := meth) (locs := locs) (cells := kc) (slots := ks) (rest := st.map (tv G)) (As := as.map (tv G)) (b := gB G + b) (R := rmm (d + 1) mc ms) (H := H) (below := below) (n := n) (host := "TinNation") (bytes := M2.2.1) (maxL := M2.2.2.1) (g := F0 m pc ls (stk.map (tv G))) (Ts := gtbl) (nL := M.2.2.1) ⟨hx, hb, hml, hown, hts⟩ h3
    ⟨⟨⟨rfl, rfl, hroom.1, hroom.2, pay_g hts hM2, by rw [← hret]; exact List.mem_cons_self⟩, by rw [← hret]; exact hts _ hM2.2.1, hts _ hM2.2.2.1, hM2.2.2.2.1, hl.2.2.2, va_Nw.use rfl (hK.2.2.1 _ hl.1)⟩, hl.2.2.1, hts _ hl.2.1⟩
    ⟨blind G h _, fun U hU hW2 => ⟨rfl, by rw [hU]; exact hH, KX.warm hW2 hK⟩⟩ rfl (by rw [List.length_map]; exact hn) hL.1
    (by subst hstk; simp [tv]) hW hd ⟨hmc, hms⟩
  exact go_runs run C hL hlc hpc kk

end RowsF
end
section
theorem w_ini_math : Cond.initialized "java/lang/Math" ∈ gtbl := mem_g 119 (by decide +kernel) rfl
theorem w_ini_sys : Cond.initialized "java/lang/System" ∈ gtbl := mem_g 122 (by decide +kernel) rfl
theorem w_min : Cond.static Lib.Math.min.name ∈ gtbl ∧ Cond.code Lib.Math.min.name Lib.Math.min.code 2 (some .int) ∈ gtbl := ⟨mem_g 503 (by decide +kernel) rfl, mem_g 504 (by decide +kernel) rfl⟩
theorem w_max : Cond.static Lib.Math.max.name ∈ gtbl ∧ Cond.code Lib.Math.max.name Lib.Math.max.code 2 (some .int) ∈ gtbl := ⟨mem_g 627 (by decide +kernel) rfl, mem_g 628 (by decide +kernel) rfl⟩
theorem w_minl : Cond.static Lib.MathLoose.min_long.x ∈ gtbl ∧ Cond.code Lib.MathLoose.min_long.x Lib.MathLoose.min_long.code 4 (some .long) ∈ gtbl := ⟨mem_g 907 (by decide +kernel) rfl, mem_g 908 (by decide +kernel) rfl⟩
theorem w_maxl : Cond.static Lib.MathLoose.max_long.x ∈ gtbl ∧ Cond.code Lib.MathLoose.max_long.x Lib.MathLoose.max_long.code 4 (some .long) ∈ gtbl := ⟨mem_g 910 (by decide +kernel) rfl, mem_g 911 (by decide +kernel) rfl⟩
theorem w_absl : Cond.static Lib.MathLoose.abs_long.x ∈ gtbl ∧ Cond.code Lib.MathLoose.abs_long.x Lib.MathLoose.abs_long.code 2 (some .long) ∈ gtbl := ⟨mem_g 1723 (by decide +kernel) rfl, mem_g 1724 (by decide +kernel) rfl⟩
theorem w_copy : Cond.native arraycopyName ∈ gtbl ∧ Cond.static arraycopyName ∈ gtbl := ⟨mem_g 812 (by decide +kernel) rfl, mem_g 811 (by decide +kernel) rfl⟩
theorem w_obj : Cond.instanceMethod objectInit ∈ gtbl ∧ Cond.code objectInit ⟨#[0xb1]⟩ 1 none ∈ gtbl := ⟨mem_g 135 (by decide +kernel) rfl, mem_g 136 (by decide +kernel) rfl⟩
section RowsG
variable {l : Launch} {G : GG} {d mc ms kc ks pc npc : Nat} {M : MD} {L st : List Value} {h h1 h' : Hp} {r : Option Value} {n i : Nat}
theorem go_ldc {v : Int32} (hc : lk M pc = some (.ldc i, npc, 2)) (hk : Cond.constant M.1.cls i v ∈ gtbl) (kk : Go l G d mc ms M kc ks npc L (.int v :: st) h r h') : Go l G d mc ms M kc ks pc L st h r h' := by
  intro p e s m args below meth c ls H locs C hL hH hlc
  obtain ⟨hd, rfl⟩ := C.dec hc
  have hx := C.1
  have hb := C.2.1
  have hts : ∀ w ∈ gtbl, w.before args s = true := fun w hw => C.word hw
  have hown : s.vm.findClass M.1.cls = some m.cls := C.2.2.2.2.2.1
  have hK : KX G s := C.2.2.2.2.2.2.2.1
  have hml : c.maxLocals = M.2.2.1 := C.2.2.2.1
  exact lv_ldc hx hb hown (hts _ hk) hd (kk p e s m args below meth c ls H locs C hL hH hlc)
theorem go_ldcw {v : Int32} (hc : lk M pc = some (.ldc_w i, npc, 3)) (hk : Cond.constant M.1.cls i v ∈ gtbl) (kk : Go l G d mc ms M kc ks npc L (.int v :: st) h r h') : Go l G d mc ms M kc ks pc L st h r h' := by
  intro p e s m args below meth c ls H locs C hL hH hlc
  obtain ⟨hd, rfl⟩ := C.dec hc
  have hx := C.1
  have hb := C.2.1
  have hts : ∀ w ∈ gtbl, w.before args s = true := fun w hw => C.word hw
  have hown : s.vm.findClass M.1.cls = some m.cls := C.2.2.2.2.2.1
  have hK : KX G s := C.2.2.2.2.2.2.2.1
  have hml : c.maxLocals = M.2.2.1 := C.2.2.2.1
  exact lv_ldcw hx hb hown (hts _ hk) hd (kk p e s m args below meth c ls H locs C hL hH hlc)
theorem go_ldc2 {v : Int64} (hc : lk M pc = some (.ldc2_w i, npc, 3)) (hk : Cond.constantLong M.1.cls i v ∈ gtbl) (kk : Go l G d mc ms M kc ks npc L (.long v :: st) h r h') : Go l G d mc ms M kc ks pc L st h r h' := by
  intro p e s m args below meth c ls H locs C hL hH hlc
  obtain ⟨hd, rfl⟩ := C.dec hc
  have hx := C.1
  have hb := C.2.1
  have hts : ∀ w ∈ gtbl, w.before args s = true := fun w hw => C.word hw
  have hown : s.vm.findClass M.1.cls = some m.cls := C.2.2.2.2.2.1
  have hK : KX G s := C.2.2.2.2.2.2.2.1
  have hml : c.maxLocals = M.2.2.1 := C.2.2.2.1
  exact lv_ldc2 hx hb hown (hts _ hk) hd (kk p e s m args below meth c ls H locs C hL hH hlc)
theorem go_min {x y : Int32} (hc : lk M pc = some (.invokestatic i, npc, 3)) (hl : Cond.methodLink M.1.cls i Lib.Math.min.name ∈ gtbl) (hst : Nat.ble (st.map fun v => v.category).sum 8 = true) (hmc : kc ≤ mc) (hms : ks ≤ ms) (kk : Go l G (d + 1) mc ms M kc ks npc L (.int (if y < x then y else x) :: st) h r h') : Go l G (d + 1) mc ms M kc ks pc L (.int y :: .int x :: st) h r h' := by
  intro p e s m args below meth c ls H locs C hL hH hlc
  obtain ⟨hd, rfl⟩ := C.dec hc
  have hx := C.1
  have hb := C.2.1
  have hts : ∀ w ∈ gtbl, w.before args s = true := fun w hw => C.word hw
  have hown : s.vm.findClass M.1.cls = some m.cls := C.2.2.2.2.2.1
  have hK : KX G s := C.2.2.2.2.2.2.2.1
  have hml : c.maxLocals = M.2.2.1 := C.2.2.2.1
  exact va_mmin hx hb (hml.trans hL.1.symm) hown (hts _ hl) (hts _ w_min.1) (hts _ w_ini_math) (hts _ w_min.2) (Nat.le_add_left 1 d) (by rw [cat_sum]; have := Nat.ble_eq.mp hst; show _ + 13 ≤ 64 * (d + 1); omega) hmc hms hd (kk p e s m args below meth c ls H locs C hL hH hlc)
theorem go_max {x y : Int32} (hc : lk M pc = some (.invokestatic i, npc, 3)) (hl : Cond.methodLink M.1.cls i Lib.Math.max.name ∈ gtbl) (hst : Nat.ble (st.map fun v => v.category).sum 8 = true) (hmc : kc ≤ mc) (hms : ks ≤ ms) (kk : Go l G (d + 1) mc ms M kc ks npc L (.int (if x < y then y else x) :: st) h r h') : Go l G (d + 1) mc ms M kc ks pc L (.int y :: .int x :: st) h r h' := by
  intro p e s m args below meth c ls H locs C hL hH hlc
  obtain ⟨hd, rfl⟩ := C.dec hc
  have hx := C.1
  have hb := C.2.1
  have hts : ∀ w ∈ gtbl, w.before args s = true := fun w hw => C.word hw
  have hown : s.vm.findClass M.1.cls = some m.cls := C.2.2.2.2.2.1
  have hK : KX G s := C.2.2.2.2.2.2.2.1
  have hml : c.maxLocals = M.2.2.1 := C.2.2.2.1
  exact va_mmax hx hb (hml.trans hL.1.symm) hown (hts _ hl) (hts _ w_max.1) (hts _ w_ini_math) (hts _ w_max.2) (Nat.le_add_left 1 d) (by rw [cat_sum]; have := Nat.ble_eq.mp hst; show _ + 13 ≤ 64 * (d + 1); omega) hmc hms hd (kk p e s m args below meth c ls H locs C hL hH hlc)
theorem go_minl {x y : Int64} (hc : lk M pc = some (.invokestatic i, npc, 3)) (hl : Cond.methodLink M.1.cls i Lib.MathLoose.min_long.x ∈ gtbl) (hst : Nat.ble (st.map fun v => v.category).sum 8 = true) (hmc : kc ≤ mc) (hms : ks ≤ ms) (kk : Go l G (d + 1) mc ms M kc ks npc L (.long (if y < x then y else x) :: st) h r h') : Go l G (d + 1) mc ms M kc ks pc L (.long y :: .long x :: st) h r h' := by
  intro p e s m args below meth c ls H locs C hL hH hlc
  obtain ⟨hd, rfl⟩ := C.dec hc
  have hx := C.1
  have hb := C.2.1
  have hts : ∀ w ∈ gtbl, w.before args s = true := fun w hw => C.word hw
  have hown : s.vm.findClass M.1.cls = some m.cls := C.2.2.2.2.2.1
  have hK : KX G s := C.2.2.2.2.2.2.2.1
  have hml : c.maxLocals = M.2.2.1 := C.2.2.2.1
  exact va_mmin_long hx hb (hml.trans hL.1.symm) hown (hts _ hl) (hts _ w_minl.1) (hts _ w_ini_math) (hts _ w_minl.2) (Nat.le_add_left 1 d) (by rw [cat_sum]; have := Nat.ble_eq.mp hst; show _ + 15 ≤ 64 * (d + 1); omega) hmc hms hd (kk p e s m args below meth c ls H locs C hL hH hlc)
theorem go_maxl {x y : Int64} (hc : lk M pc = some (.invokestatic i, npc, 3)) (hl : Cond.methodLink M.1.cls i Lib.MathLoose.max_long.x ∈ gtbl) (hst : Nat.ble (st.map fun v => v.category).sum 8 = true) (hmc : kc ≤ mc) (hms : ks ≤ ms) (kk : Go l G (d + 1) mc ms M kc ks npc L (.long (if y < x then x else y) :: st) h r h') : Go l G (d + 1) mc ms M kc ks pc L (.long y :: .long x :: st) h r h' := by
  intro p e s m args below meth c ls H locs C hL hH hlc
  obtain ⟨hd, rfl⟩ := C.dec hc
  have hx := C.1
  have hb := C.2.1
  have hts : ∀ w ∈ gtbl, w.before args s = true := fun w hw => C.word hw
  have hown : s.vm.findClass M.1.cls = some m.cls := C.2.2.2.2.2.1
  have hK : KX G s := C.2.2.2.2.2.2.2.1
  have hml : c.maxLocals = M.2.2.1 := C.2.2.2.1
  exact va_mmax_long hx hb (hml.trans hL.1.symm) hown (hts _ hl) (hts _ w_maxl.1) (hts _ w_ini_math) (hts _ w_maxl.2) (Nat.le_add_left 1 d) (by rw [cat_sum]; have := Nat.ble_eq.mp hst; show _ + 15 ≤ 64 * (d + 1); omega) hmc hms hd (kk p e s m args below meth c ls H locs C hL hH hlc)
theorem go_absl {x : Int64} (hc : lk M pc = some (.invokestatic i, npc, 3)) (hl : Cond.methodLink M.1.cls i Lib.MathLoose.abs_long.x ∈ gtbl) (hst : Nat.ble (st.map fun v => v.category).sum 8 = true) (hmc : kc ≤ mc) (hms : ks ≤ ms) (kk : Go l G (d + 1) mc ms M kc ks npc L (.long (if 0 < x then x else -x) :: st) h r h') : Go l G (d + 1) mc ms M kc ks pc L (.long x :: st) h r h' := by
  intro p e s m args below meth c ls H locs C hL hH hlc
  obtain ⟨hd, rfl⟩ := C.dec hc
  have hx := C.1
  have hb := C.2.1
  have hts : ∀ w ∈ gtbl, w.before args s = true := fun w hw => C.word hw
  have hown : s.vm.findClass M.1.cls = some m.cls := C.2.2.2.2.2.1
  have hK : KX G s := C.2.2.2.2.2.2.2.1
  have hml : c.maxLocals = M.2.2.1 := C.2.2.2.1
  exact va_mabs_long hx hb (hml.trans hL.1.symm) hown (hts _ hl) (hts _ w_absl.1) (hts _ w_ini_math) (hts _ w_absl.2) (Nat.le_add_left 1 d) (by rw [cat_sum]; have := Nat.ble_eq.mp hst; show _ + 13 ≤ 64 * (d + 1); omega) hmc hms hd (kk p e s m args below meth c ls H locs C hL hH hlc)
theorem go_objInit {b : Nat} (hc : lk M pc = some (.invokespecial i, npc, 3)) (hl : Cond.methodLink M.1.cls i objectInit ∈ gtbl) (hst : Nat.ble (st.map fun v => v.category).sum 8 = true) (kk : Go l G (d + 1) mc ms M kc ks npc L st h r h') : Go l G (d + 1) mc ms M kc ks pc L (.ref b :: st) h r h' := by
  intro p e s m args below meth c ls H locs C hL hH hlc
  obtain ⟨hd, rfl⟩ := C.dec hc
  have hx := C.1
  have hb := C.2.1
  have hts : ∀ w ∈ gtbl, w.before args s = true := fun w hw => C.word hw
  have hown : s.vm.findClass M.1.cls = some m.cls := C.2.2.2.2.2.1
  have hK : KX G s := C.2.2.2.2.2.2.2.1
  have hml : c.maxLocals = M.2.2.1 := C.2.2.2.1
  exact W.objInit hx hb hown (hts _ hl) (hts _ w_obj.1) (hts _ w_obj.2) rfl (hL.1.trans hml.symm) rfl hd (Nat.le_add_left 1 d) (by have h5 := Nat.ble_eq.mp hst; rw [cat_sum]; show 2 * 0 + _ + 12 ≤ 64 * (d + 1); omega) (kk p e s m args below meth c ls H locs C hL hH hlc)
theorem go_copy {a a0 n0 n1 : Nat} {sp dp n : Int32} (hc : lk M pc = some (.invokestatic i, npc, 3)) (hl : Cond.methodLink M.1.cls i arraycopyName ∈ gtbl) (hs0 : mS h a0 = (20, n0)) (hs1 : mS h a = (20, n1)) (h1 : ¬ sp < 0) (h2 : ¬ dp < 0) (h3 : ¬ n < 0) (h4 : sp.toNatClampNeg + n.toNatClampNeg ≤ n0) (h5 : dp.toNatClampNeg + n.toNatClampNeg ≤ n1) (hst : Nat.ble (st.map fun v => v.category).sum 8 = true)
    (kk : Go l G (d + 1) mc ms M kc ks npc L st (wR h a (va_cpy (mI h a0) (mI h a) sp.toNatClampNeg dp.toNatClampNeg n.toNatClampNeg)) r h') : Go l G (d + 1) mc ms M kc ks pc L (.int n :: .int dp :: .ref a :: .int sp :: .ref a0 :: st) h r h' := by
  intro p e s m args below meth c ls H locs C hL hH hlc
  obtain ⟨hd, rfl⟩ := C.dec hc
  have hx := C.1
  have hb := C.2.1
  have hts : ∀ w ∈ gtbl, w.before args s = true := fun w hw => C.word hw
  have hown : s.vm.findClass M.1.cls = some m.cls := C.2.2.2.2.2.1
  have hK : KX G s := C.2.2.2.2.2.2.2.1
  have hml : c.maxLocals = M.2.2.1 := C.2.2.2.1
  have nn : ∀ z : Int32, ¬ z < 0 → z.toInt = (z.toNatClampNeg : Int) := by
    intro z hz
    have hz0 : (0 : Int) ≤ z.toInt := by
      have := Int32.not_lt.mp hz
      simpa using Int32.le_iff_toInt_le.mp this
    show z.toInt = ((z.toInt.toNat : Nat) : Int)
    omega
  have cvi : ∀ b, cv G h 20 b = fun j => .int (mI h b j) := fun b => by
    funext j
    unfold cv
    rw [if_pos (sty_arr (by omega) (by omega) (by omega) j)]
  have hc0 : H[gB G + a0]? = some (vp_cell (gC G 20) (n0, .inl (mI h a0))) := by rw [vp_cell_i, ← cvi a0]; exact hH.arr hs0 (by omega) (by omega)
  have hc1 : H[gB G + a]? = some (vp_cell (gC G 20) (n1, .inl (mI h a))) := by rw [vp_cell_i, ← cvi a]; exact hH.arr hs1 (by omega) (by omega)
  have hA := (hK.2.1 20 (by omega) (by omega)).1
  intro T hT X
  obtain ⟨-, k0, hk0, cm0, hkk0⟩ := hA n0 (fun j => .int (mI h a0 j))
  obtain ⟨-, k1, hk1, cm1, hkk1⟩ := hA n1 (fun j => .int (mI h a j))
  obtain ⟨vm', X', step⟩ := X.arraycopy hx hown (hts _ hl) (hts _ w_copy.1) (hts _ w_copy.2) (hts _ w_ini_sys) (src := gB G + a0) (dst := gB G + a) (cs := vp_cell (gC G 20) (n0, .inl (mI h a0))) (cd := vp_cell (gC G 20) (n1, .inl (mI h a))) (srcPos := sp) (destPos := dp) (n := n) (by rw [hT]; exact hc0) (by rw [hT]; exact hc1)
    (fun _ h => by cases h) (fun _ h => by cases h) (fun h => by cases h) (fun h => by cases h) hk0 hk1 hkk0 hkk1 (by simp [aTy, refKind]) h1 h2 h3
    (by rw [nn sp h1, nn n h3]; show ¬ _ > ((arrV (gC G 20) n0 (fun j => .int (mI h a0 j))).slots.size : Int); rw [arrV_size]; omega)
    (by rw [nn dp h2, nn n h3]; show ¬ _ > ((arrV (gC G 20) n1 (fun j => .int (mI h a j))).slots.size : Int); rw [arrV_size]; omega)
    (fun vm₁ _ i hi => by
      have e : (vp_cell (gC G 20) (n0, .inl (mI h a0))).slots.getD (sp.toNatClampNeg + i) .null = .int (mI h a0 (sp.toNatClampNeg + i)) := by
        show (arrV (gC G 20) n0 (fun j => .int (mI h a0 j))).slots.getD _ _ = _
        rw [Array.getD_eq_getD_getElem?, arrV_read _ _ (by omega)]
        rfl
      refine ⟨?_, ?_⟩
      · rw [e]
        rfl
      · rw [e]
        exact trivial)
    (g := F0 m pc ls ((.int n :: .int dp :: .ref a :: .int sp :: .ref a0 :: st).map (tv G))) rfl (hL.1.trans hml.symm) (rest := st.map (tv G)) rfl (by rw [hb]; exact hd) (Nat.le_add_left 1 d) (by
      have h6 := Nat.ble_eq.mp hst
      rw [cat_sum]
      show 2 * 0 + _ + (nativeFrameWords "java/lang/System" "arraycopy" 5 + 11) ≤ 64 * (d + 1)
      have h7 : nativeFrameWords "java/lang/System" "arraycopy" 5 + 11 ≤ 40 := by decide +kernel
      omega)
  have e1 : copied (vp_cell (gC G 20) (n0, .inl (mI h a0))) (vp_cell (gC G 20) (n1, .inl (mI h a))) sp dp n = vp_cell (gC G 20) (n1, .inl (va_cpy (mI h a0) (mI h a) sp.toNatClampNeg dp.toNatClampNeg n.toNatClampNeg)) := va_copied (fun z => .int z) (gC G 20) (gC G 20) (mI h a0) (mI h a) h4
  rw [e1] at X' step
  generalize hw : va_cpy (mI h a0) (mI h a) sp.toNatClampNeg dp.toNatClampNeg n.toNatClampNeg = w at X' step kk
  have hlt : gB G + a < H.size := (Array.getElem?_eq_some_iff.mp hc1).1
  have hheap : ((T.setVm vm').setCell (gB G + a) (vp_cell (gC G 20) (n1, .inl w))).heap = H.setIfInBounds (gB G + a) (vp_cell (gC G 20) (n1, .inl w)) := by rw [← hT]; rfl
  have oq : ∀ q : Nat, q ≠ gB G + a → (H.setIfInBounds (gB G + a) (vp_cell (gC G 20) (n1, .inl w)))[q]? = H[q]? := fun q hq => by simp [Array.getElem?_setIfInBounds, Ne.symm hq]
  have hH2 : HR G (wR h a w) (H.setIfInBounds (gB G + a) (vp_cell (gC G 20) (n1, .inl w))) := by
    refine hH.upd (a := a) (by simp) oq rfl rfl (fun a' kd e => cv_wR_ne e w) ?_
    unfold cAt
    have e4 : mS (wR h a w) a = (20, n1) := hs1
    rw [e4, if_neg (by omega), if_pos (by omega), cv_wR (fun j => sty_arr (by omega) (by omega) (by omega) j)]
    simp [Array.getElem?_setIfInBounds, hlt, vp_cell_i]
  obtain ⟨t, a1, b1⟩ := kk p e s m args below meth c ls _ _ C hL hH2 (fun q hq => by
    rcases List.mem_append.mp hq with z | z
    · exact hlc q z
    · obtain ⟨y, -, hy⟩ := List.mem_map.mp z
      rw [← hy]
      exact Nat.le_add_right _ _) _ hheap X'
  exact ⟨t, step t a1, b1⟩

end RowsG
end
section
/-- what stays while nothing is made: references, shapes, how many -/
abbrev Kt : Type := (Nat → Nat → Option Nat) × (Nat → Nat × Nat) × Nat
abbrev IM : Type := Nat → Nat → Int32
abbrev JM : Type := Nat → Nat → Int64
def u2 {α : Type} (I : Nat → Nat → α) (a k : Nat) (v : α) : Nat → Nat → α := fun a' k' => if a' = a ∧ k' = k then v else I a' k'
/-- a whole row -/
def uR {α : Type} (I : Nat → Nat → α) (a : Nat) (f : Nat → α) : Nat → Nat → α := fun a' k' => if a' = a then f k' else I a' k'
theorem u2_at {α : Type} (I : Nat → Nat → α) (a k : Nat) (v : α) : u2 I a k v a k = v := by simp [u2]
theorem u2_ne {α : Type} (I : Nat → Nat → α) {a k a' k' : Nat} (v : α) (h : a' ≠ a) : u2 I a k v a' k' = I a' k' := by simp [u2, h]
theorem u2_nk {α : Type} (I : Nat → Nat → α) {a k a' k' : Nat} (v : α) (h : k' ≠ k) : u2 I a k v a' k' = I a' k' := by simp [u2, h]
theorem u2_row {α : Type} (I : Nat → Nat → α) {a k a' : Nat} (v : α) (h : a' ≠ a) : u2 I a k v a' = I a' := by funext k'; simp [u2, h]
theorem uR_at {α : Type} (I : Nat → Nat → α) (a : Nat) (f : Nat → α) : uR I a f a = f := by funext k; simp [uR]
theorem uR_ne {α : Type} (I : Nat → Nat → α) {a a' : Nat} (f : Nat → α) (h : a' ≠ a) : uR I a f a' = I a' := by funext k; simp [uR, h]
def Gw (l : Launch) (G : GG) (d : Nat) (M : MD) (pc : Nat) (L st : List Value) (h : Hp) (Q : Option Value → Hp → Prop) : Prop := ∃ r h', Go l G d 0 0 M 0 0 pc L st h r h' ∧ Q r h'
def Cw (l : Launch) (G : GG) (d : Nat) (M : MD) (as : List Value) (h : Hp) (Q : Option Value → Hp → Prop) : Prop := ∃ r h', Ct l G d 0 0 M as h r h' ∧ Q r h'
/-- a method that only answers -/
def Cp (l : Launch) (G : GG) (d : Nat) (M : MD) (as : List Value) (h : Hp) (v : Value) : Prop := Ct l G d 0 0 M as h (some v) h
section RowsW
variable {l : Launch} {G : GG} {d pc npc : Nat} {M : MD} {L st : List Value} {h : Hp} {I : IM} {J : JM} {K : Kt} {Q Q1 : Option Value → Hp → Prop} {a k kd n i : Nat}
theorem Cw.of {as : List Value} (hM : MOk M) (hn : Nat.ble (argF as).length M.2.2.1 = true) (hl : argL as M.2.2.1 = L) (hg : Gw l G d M 0 L [] h Q) : Cw l G d M as h Q := by
  obtain ⟨r, h', k, q⟩ := hg
  exact ⟨r, h', Ct.of hM hn hl k, q⟩
theorem Cp.of {as : List Value} {v : Value} (hM : MOk M) (hn : Nat.ble (argF as).length M.2.2.1 = true) (hl : argL as M.2.2.1 = L) (hg : Gw l G d M 0 L [] h (fun r h' => r = some v ∧ h' = h)) : Cp l G d M as h v := by
  obtain ⟨r, h', k, rfl, rfl⟩ := hg
  exact Ct.of hM hn hl k
theorem Cw.mono {as : List Value} (hc : Cw l G d M as h Q1) (hq : ∀ r h', Q1 r h' → Q r h') : Cw l G d M as h Q := by
  obtain ⟨r, h', k, q⟩ := hc
  exact ⟨r, h', k, hq r h' q⟩

theorem e_iconst {n : Int} {v : Int32} (hc : lk M pc = some (.iconst n, npc, 1)) (hv : Int32.ofInt n = v) (kk : Gw l G d M npc L (.int v :: st) h Q) : Gw l G d M pc L st h Q := by
  obtain ⟨r, h', kk, q⟩ := kk
  exact ⟨r, h', go_iconst hc hv kk, q⟩
theorem e_bipush {n : Int} {v : Int32} (hc : lk M pc = some (.bipush n, npc, 2)) (hv : (Int8.ofInt n).toInt32 = v) (kk : Gw l G d M npc L (.int v :: st) h Q) : Gw l G d M pc L st h Q := by
  obtain ⟨r, h', kk, q⟩ := kk
  exact ⟨r, h', go_bipush hc hv kk, q⟩
theorem e_sipush {n : Int} {v : Int32} (hc : lk M pc = some (.sipush n, npc, 3)) (hv : (Int16.ofInt n).toInt32 = v) (kk : Gw l G d M npc L (.int v :: st) h Q) : Gw l G d M pc L st h Q := by
  obtain ⟨r, h', kk, q⟩ := kk
  exact ⟨r, h', go_sipush hc hv kk, q⟩
theorem e_lconst {n : Fin 2} {v : Int64} (hc : lk M pc = some (.lconst n, npc, 1)) (hv : Int64.ofNat (n : Nat) = v) (kk : Gw l G d M npc L (.long v :: st) h Q) : Gw l G d M pc L st h Q := by
  obtain ⟨r, h', kk, q⟩ := kk
  exact ⟨r, h', go_lconst hc hv kk, q⟩
theorem e_iadd {x y : Int32} (hc : lk M pc = some (.iadd, npc, 1)) (kk : Gw l G d M npc L (.int (x + y) :: st) h Q) : Gw l G d M pc L (.int y :: .int x :: st) h Q := by
  obtain ⟨r, h', kk, q⟩ := kk
  exact ⟨r, h', go_iadd hc kk, q⟩
theorem e_isub {x y : Int32} (hc : lk M pc = some (.isub, npc, 1)) (kk : Gw l G d M npc L (.int (x - y) :: st) h Q) : Gw l G d M pc L (.int y :: .int x :: st) h Q := by
  obtain ⟨r, h', kk, q⟩ := kk
  exact ⟨r, h', go_isub hc kk, q⟩
theorem e_imul {x y : Int32} (hc : lk M pc = some (.imul, npc, 1)) (kk : Gw l G d M npc L (.int (x * y) :: st) h Q) : Gw l G d M pc L (.int y :: .int x :: st) h Q := by
  obtain ⟨r, h', kk, q⟩ := kk
  exact ⟨r, h', go_imul hc kk, q⟩
theorem e_iand {x y : Int32} (hc : lk M pc = some (.iand, npc, 1)) (kk : Gw l G d M npc L (.int (x &&& y) :: st) h Q) : Gw l G d M pc L (.int y :: .int x :: st) h Q := by
  obtain ⟨r, h', kk, q⟩ := kk
  exact ⟨r, h', go_iand hc kk, q⟩
theorem e_ior {x y : Int32} (hc : lk M pc = some (.ior, npc, 1)) (kk : Gw l G d M npc L (.int (x ||| y) :: st) h Q) : Gw l G d M pc L (.int y :: .int x :: st) h Q := by
  obtain ⟨r, h', kk, q⟩ := kk
  exact ⟨r, h', go_ior hc kk, q⟩
theorem e_ixor {x y : Int32} (hc : lk M pc = some (.ixor, npc, 1)) (kk : Gw l G d M npc L (.int (x ^^^ y) :: st) h Q) : Gw l G d M pc L (.int y :: .int x :: st) h Q := by
  obtain ⟨r, h', kk, q⟩ := kk
  exact ⟨r, h', go_ixor hc kk, q⟩
theorem e_ishl {x y : Int32} (hc : lk M pc = some (.ishl, npc, 1)) (kk : Gw l G d M npc L (.int (x <<< (y &&& 31)) :: st) h Q) : Gw l G d M pc L (.int y :: .int x :: st) h Q := by
  obtain ⟨r, h', kk, q⟩ := kk
  exact ⟨r, h', go_ishl hc kk, q⟩
theorem e_ishr {x y : Int32} (hc : lk M pc = some (.ishr, npc, 1)) (kk : Gw l G d M npc L (.int (x >>> (y &&& 31)) :: st) h Q) : Gw l G d M pc L (.int y :: .int x :: st) h Q := by
  obtain ⟨r, h', kk, q⟩ := kk
  exact ⟨r, h', go_ishr hc kk, q⟩
theorem e_ladd {x y : Int64} (hc : lk M pc = some (.ladd, npc, 1)) (kk : Gw l G d M npc L (.long (x + y) :: st) h Q) : Gw l G d M pc L (.long y :: .long x :: st) h Q := by
  obtain ⟨r, h', kk, q⟩ := kk
  exact ⟨r, h', go_ladd hc kk, q⟩
theorem e_lsub {x y : Int64} (hc : lk M pc = some (.lsub, npc, 1)) (kk : Gw l G d M npc L (.long (x - y) :: st) h Q) : Gw l G d M pc L (.long y :: .long x :: st) h Q := by
  obtain ⟨r, h', kk, q⟩ := kk
  exact ⟨r, h', go_lsub hc kk, q⟩
theorem e_lmul {x y : Int64} (hc : lk M pc = some (.lmul, npc, 1)) (kk : Gw l G d M npc L (.long (x * y) :: st) h Q) : Gw l G d M pc L (.long y :: .long x :: st) h Q := by
  obtain ⟨r, h', kk, q⟩ := kk
  exact ⟨r, h', go_lmul hc kk, q⟩
theorem e_land {x y : Int64} (hc : lk M pc = some (.land, npc, 1)) (kk : Gw l G d M npc L (.long (x &&& y) :: st) h Q) : Gw l G d M pc L (.long y :: .long x :: st) h Q := by
  obtain ⟨r, h', kk, q⟩ := kk
  exact ⟨r, h', go_land hc kk, q⟩
theorem e_idiv {x y : Int32} (hc : lk M pc = some (.idiv, npc, 1)) (hne : ¬ y = 0) (kk : Gw l G d M npc L (.int (x / y) :: st) h Q) : Gw l G d M pc L (.int y :: .int x :: st) h Q := by
  obtain ⟨r, h', kk, q⟩ := kk
  exact ⟨r, h', go_idiv hc hne kk, q⟩
theorem e_irem {x y : Int32} (hc : lk M pc = some (.irem, npc, 1)) (hne : ¬ y = 0) (kk : Gw l G d M npc L (.int (x - x / y * y) :: st) h Q) : Gw l G d M pc L (.int y :: .int x :: st) h Q := by
  obtain ⟨r, h', kk, q⟩ := kk
  exact ⟨r, h', go_irem hc hne kk, q⟩
theorem e_ldiv {x y : Int64} (hc : lk M pc = some (.ldiv, npc, 1)) (hne : ¬ y = 0) (kk : Gw l G d M npc L (.long (x / y) :: st) h Q) : Gw l G d M pc L (.long y :: .long x :: st) h Q := by
  obtain ⟨r, h', kk, q⟩ := kk
  exact ⟨r, h', go_ldiv hc hne kk, q⟩
theorem e_lrem {x y : Int64} (hc : lk M pc = some (.lrem, npc, 1)) (hne : ¬ y = 0) (kk : Gw l G d M npc L (.long (x - x / y * y) :: st) h Q) : Gw l G d M pc L (.long y :: .long x :: st) h Q := by
  obtain ⟨r, h', kk, q⟩ := kk
  exact ⟨r, h', go_lrem hc hne kk, q⟩
theorem e_ineg {x : Int32} (hc : lk M pc = some (.ineg, npc, 1)) (kk : Gw l G d M npc L (.int (-x) :: st) h Q) : Gw l G d M pc L (.int x :: st) h Q := by
  obtain ⟨r, h', kk, q⟩ := kk
  exact ⟨r, h', go_ineg hc kk, q⟩
theorem e_lneg {x : Int64} (hc : lk M pc = some (.lneg, npc, 1)) (kk : Gw l G d M npc L (.long (-x) :: st) h Q) : Gw l G d M pc L (.long x :: st) h Q := by
  obtain ⟨r, h', kk, q⟩ := kk
  exact ⟨r, h', go_lneg hc kk, q⟩
theorem e_i2l {x : Int32} (hc : lk M pc = some (.i2l, npc, 1)) (kk : Gw l G d M npc L (.long x.toInt64 :: st) h Q) : Gw l G d M pc L (.int x :: st) h Q := by
  obtain ⟨r, h', kk, q⟩ := kk
  exact ⟨r, h', go_i2l hc kk, q⟩
theorem e_l2i {x : Int64} (hc : lk M pc = some (.l2i, npc, 1)) (kk : Gw l G d M npc L (.int x.toInt32 :: st) h Q) : Gw l G d M pc L (.long x :: st) h Q := by
  obtain ⟨r, h', kk, q⟩ := kk
  exact ⟨r, h', go_l2i hc kk, q⟩
theorem e_i2b {x : Int32} (hc : lk M pc = some (.i2b, npc, 1)) (kk : Gw l G d M npc L (.int x.toInt8.toInt32 :: st) h Q) : Gw l G d M pc L (.int x :: st) h Q := by
  obtain ⟨r, h', kk, q⟩ := kk
  exact ⟨r, h', go_i2b hc kk, q⟩
theorem e_i2c {x : Int32} (hc : lk M pc = some (.i2c, npc, 1)) (kk : Gw l G d M npc L (.int (x.toUInt32 % 65536).toInt32 :: st) h Q) : Gw l G d M pc L (.int x :: st) h Q := by
  obtain ⟨r, h', kk, q⟩ := kk
  exact ⟨r, h', go_i2c hc kk, q⟩
theorem e_iushr {x y : Int32} (hc : lk M pc = some (.iushr, npc, 1)) (kk : Gw l G d M npc L (.int (x.toUInt32 >>> (y.toUInt32 &&& Int32.toUInt32 31)).toInt32 :: st) h Q) : Gw l G d M pc L (.int y :: .int x :: st) h Q := by
  obtain ⟨r, h', kk, q⟩ := kk
  exact ⟨r, h', go_iushr hc kk, q⟩
theorem e_lcmp {x y : Int64} (hc : lk M pc = some (.lcmp, npc, 1)) (kk : Gw l G d M npc L (.int (lg_cmp x y) :: st) h Q) : Gw l G d M pc L (.long y :: .long x :: st) h Q := by
  obtain ⟨r, h', kk, q⟩ := kk
  exact ⟨r, h', go_lcmp hc kk, q⟩
theorem e_dup {v : Value} (hc : lk M pc = some (.dup, npc, 1)) (hv : v.category = 1) (kk : Gw l G d M npc L (v :: v :: st) h Q) : Gw l G d M pc L (v :: st) h Q := by
  obtain ⟨r, h', kk, q⟩ := kk
  exact ⟨r, h', go_dup hc hv kk, q⟩
theorem e_dup2 {v w : Value} (hc : lk M pc = some (.dup2, npc, 1)) (hv : v.category = 1) (hw : w.category = 1) (kk : Gw l G d M npc L (v :: w :: v :: w :: st) h Q) : Gw l G d M pc L (v :: w :: st) h Q := by
  obtain ⟨r, h', kk, q⟩ := kk
  exact ⟨r, h', go_dup2 hc hv hw kk, q⟩
theorem e_iload {i : Nat} {x : Int32} (hc : lk M pc = some (.iload i, npc, 2)) (hl : L[i]? = some (.int x)) (kk : Gw l G d M npc L (.int x :: st) h Q) : Gw l G d M pc L st h Q := by
  obtain ⟨r, h', kk, q⟩ := kk
  exact ⟨r, h', go_iload hc hl kk, q⟩
theorem e_iload_n {i : Fin 4} {x : Int32} (hc : lk M pc = some (.iload_n i, npc, 1)) (hl : L[(i : Nat)]? = some (.int x)) (kk : Gw l G d M npc L (.int x :: st) h Q) : Gw l G d M pc L st h Q := by
  obtain ⟨r, h', kk, q⟩ := kk
  exact ⟨r, h', go_iload_n hc hl kk, q⟩
theorem e_lload {i : Nat} {x : Int64} (hc : lk M pc = some (.lload i, npc, 2)) (hl : L[i]? = some (.long x)) (kk : Gw l G d M npc L (.long x :: st) h Q) : Gw l G d M pc L st h Q := by
  obtain ⟨r, h', kk, q⟩ := kk
  exact ⟨r, h', go_lload hc hl kk, q⟩
theorem e_lload_n {i : Fin 4} {x : Int64} (hc : lk M pc = some (.lload_n i, npc, 1)) (hl : L[(i : Nat)]? = some (.long x)) (kk : Gw l G d M npc L (.long x :: st) h Q) : Gw l G d M pc L st h Q := by
  obtain ⟨r, h', kk, q⟩ := kk
  exact ⟨r, h', go_lload_n hc hl kk, q⟩
theorem e_aload {i : Nat} {x : Nat} (hc : lk M pc = some (.aload i, npc, 2)) (hl : L[i]? = some (.ref x)) (kk : Gw l G d M npc L (.ref x :: st) h Q) : Gw l G d M pc L st h Q := by
  obtain ⟨r, h', kk, q⟩ := kk
  exact ⟨r, h', go_aload hc hl kk, q⟩
theorem e_aload_n {i : Fin 4} {x : Nat} (hc : lk M pc = some (.aload_n i, npc, 1)) (hl : L[(i : Nat)]? = some (.ref x)) (kk : Gw l G d M npc L (.ref x :: st) h Q) : Gw l G d M pc L st h Q := by
  obtain ⟨r, h', kk, q⟩ := kk
  exact ⟨r, h', go_aload_n hc hl kk, q⟩
theorem e_goto {off : Int} {tgt : Nat} (hc : lk M pc = some (.goto off, npc, 3)) (ht : (pc : Int) + off = (tgt : Int)) (kk : Gw l G d M tgt L st h Q) : Gw l G d M pc L st h Q := by
  obtain ⟨r, h', kk, q⟩ := kk
  exact ⟨r, h', go_goto hc ht kk, q⟩
theorem e_tableOut {dflt lo hi : Int} {offs : Array Int} {len : Nat} {x : Int32} {tgt : Nat} (hc : lk M pc = some (.tableswitch dflt lo hi offs, npc, len)) (hh : x.toInt < lo ∨ hi < x.toInt) (ht : (pc : Int) + dflt = (tgt : Int)) (kk : Gw l G d M tgt L st h Q) : Gw l G d M pc L (.int x :: st) h Q := by
  obtain ⟨r, h', kk, q⟩ := kk
  exact ⟨r, h', go_tableOut hc hh ht kk, q⟩
theorem e_tableIn {dflt lo hi : Int} {offs : Array Int} {len : Nat} {x : Int32} {off : Int} {tgt : Nat} (hc : lk M pc = some (.tableswitch dflt lo hi offs, npc, len)) (h1 : ¬ x.toInt < lo) (h2 : ¬ hi < x.toInt) (ho : offs[(x.toInt - lo).toNat]? = some off) (ht : (pc : Int) + off = (tgt : Int)) (kk : Gw l G d M tgt L st h Q) : Gw l G d M pc L (.int x :: st) h Q := by
  obtain ⟨r, h', kk, q⟩ := kk
  exact ⟨r, h', go_tableIn hc h1 h2 ho ht kk, q⟩
theorem e_lookup {dflt : Int} {ps : Array (Int × Int)} {len : Nat} {x : Int32} {off : Int} {tgt : Nat} (hc : lk M pc = some (.lookupswitch dflt ps, npc, len)) (hp : (ps.toList.zip (ps.toList.drop 1)).all (fun (a, next) => a.1 < next.1) = true) (ho : Op.lookupswitch.offset ps.toList dflt x.toInt = off) (ht : (pc : Int) + off = (tgt : Int)) (kk : Gw l G d M tgt L st h Q) : Gw l G d M pc L (.int x :: st) h Q := by
  obtain ⟨r, h', kk, q⟩ := kk
  exact ⟨r, h', go_lookup hc hp ho ht kk, q⟩
theorem e_istore {i : Nat} {x : Int32} {L' : List Value} (hc : lk M pc = some (.istore i, npc, 2)) (hi : Nat.blt i M.2.2.1 = true) (ho : okL L i = true) (hl : L.set i (.int x) = L') (kk : Gw l G d M npc L' st h Q) : Gw l G d M pc L (.int x :: st) h Q := by
  obtain ⟨r, h', kk, q⟩ := kk
  exact ⟨r, h', go_istore hc hi ho hl kk, q⟩
theorem e_istore_n {i : Fin 4} {x : Int32} {L' : List Value} (hc : lk M pc = some (.istore_n i, npc, 1)) (hi : Nat.blt (i : Nat) M.2.2.1 = true) (ho : okL L (i : Nat) = true) (hl : L.set (i : Nat) (.int x) = L') (kk : Gw l G d M npc L' st h Q) : Gw l G d M pc L (.int x :: st) h Q := by
  obtain ⟨r, h', kk, q⟩ := kk
  exact ⟨r, h', go_istore_n hc hi ho hl kk, q⟩
theorem e_astore {i : Nat} {x : Nat} {L' : List Value} (hc : lk M pc = some (.astore i, npc, 2)) (hi : Nat.blt i M.2.2.1 = true) (ho : okL L i = true) (hl : L.set i (.ref x) = L') (kk : Gw l G d M npc L' st h Q) : Gw l G d M pc L (.ref x :: st) h Q := by
  obtain ⟨r, h', kk, q⟩ := kk
  exact ⟨r, h', go_astore hc hi ho hl kk, q⟩
theorem e_astore_n {i : Fin 4} {x : Nat} {L' : List Value} (hc : lk M pc = some (.astore_n i, npc, 1)) (hi : Nat.blt (i : Nat) M.2.2.1 = true) (ho : okL L (i : Nat) = true) (hl : L.set (i : Nat) (.ref x) = L') (kk : Gw l G d M npc L' st h Q) : Gw l G d M pc L (.ref x :: st) h Q := by
  obtain ⟨r, h', kk, q⟩ := kk
  exact ⟨r, h', go_astore_n hc hi ho hl kk, q⟩
theorem e_lstore {i : Nat} {x : Int64} {L' : List Value} (hc : lk M pc = some (.lstore i, npc, 2)) (hi : Nat.blt (i + 1) M.2.2.1 = true) (ho : okL L i = true) (hl : (L.set i (.long x)).set (i + 1) .null = L') (kk : Gw l G d M npc L' st h Q) : Gw l G d M pc L (.long x :: st) h Q := by
  obtain ⟨r, h', kk, q⟩ := kk
  exact ⟨r, h', go_lstore hc hi ho hl kk, q⟩
theorem e_lstore_n {i : Fin 4} {x : Int64} {L' : List Value} (hc : lk M pc = some (.lstore_n i, npc, 1)) (hi : Nat.blt ((i : Nat) + 1) M.2.2.1 = true) (ho : okL L (i : Nat) = true) (hl : (L.set (i : Nat) (.long x)).set ((i : Nat) + 1) .null = L') (kk : Gw l G d M npc L' st h Q) : Gw l G d M pc L (.long x :: st) h Q := by
  obtain ⟨r, h', kk, q⟩ := kk
  exact ⟨r, h', go_lstore_n hc hi ho hl kk, q⟩
theorem e_iinc {i : Nat} {n : Int} {x : Int32} {L' : List Value} (hc : lk M pc = some (.iinc i n, npc, 3)) (hg : L[i]? = some (.int x)) (hi : Nat.blt i M.2.2.1 = true) (ho : okL L i = true) (hl : L.set i (.int (x + Int32.ofInt n)) = L') (kk : Gw l G d M npc L' st h Q) : Gw l G d M pc L st h Q := by
  obtain ⟨r, h', kk, q⟩ := kk
  exact ⟨r, h', go_iinc hc hg hi ho hl kk, q⟩
theorem e_ldc {v : Int32} (hc : lk M pc = some (.ldc i, npc, 2)) (hk : Cond.constant M.1.cls i v ∈ gtbl) (kk : Gw l G d M npc L (.int v :: st) h Q) : Gw l G d M pc L st h Q := by
  obtain ⟨r, h', kk, q⟩ := kk
  exact ⟨r, h', go_ldc hc hk kk, q⟩
theorem e_ldcw {v : Int32} (hc : lk M pc = some (.ldc_w i, npc, 3)) (hk : Cond.constant M.1.cls i v ∈ gtbl) (kk : Gw l G d M npc L (.int v :: st) h Q) : Gw l G d M pc L st h Q := by
  obtain ⟨r, h', kk, q⟩ := kk
  exact ⟨r, h', go_ldcw hc hk kk, q⟩
theorem e_ldc2 {v : Int64} (hc : lk M pc = some (.ldc2_w i, npc, 3)) (hk : Cond.constantLong M.1.cls i v ∈ gtbl) (kk : Gw l G d M npc L (.long v :: st) h Q) : Gw l G d M pc L st h Q := by
  obtain ⟨r, h', kk, q⟩ := kk
  exact ⟨r, h', go_ldc2 hc hk kk, q⟩
theorem e_min {x y : Int32} (hc : lk M pc = some (.invokestatic i, npc, 3)) (hl : Cond.methodLink M.1.cls i Lib.Math.min.name ∈ gtbl) (hst : Nat.ble (st.map fun v => v.category).sum 8 = true)  (kk : Gw l G (d + 1) M npc L (.int (if y < x then y else x) :: st) h Q) : Gw l G (d + 1) M pc L (.int y :: .int x :: st) h Q := by
  obtain ⟨r, h', kk, q⟩ := kk
  exact ⟨r, h', go_min hc hl hst (Nat.le_refl _) (Nat.le_refl _) kk, q⟩
theorem e_max {x y : Int32} (hc : lk M pc = some (.invokestatic i, npc, 3)) (hl : Cond.methodLink M.1.cls i Lib.Math.max.name ∈ gtbl) (hst : Nat.ble (st.map fun v => v.category).sum 8 = true)  (kk : Gw l G (d + 1) M npc L (.int (if x < y then y else x) :: st) h Q) : Gw l G (d + 1) M pc L (.int y :: .int x :: st) h Q := by
  obtain ⟨r, h', kk, q⟩ := kk
  exact ⟨r, h', go_max hc hl hst (Nat.le_refl _) (Nat.le_refl _) kk, q⟩
theorem e_minl {x y : Int64} (hc : lk M pc = some (.invokestatic i, npc, 3)) (hl : Cond.methodLink M.1.cls i Lib.MathLoose.min_long.x ∈ gtbl) (hst : Nat.ble (st.map fun v => v.category).sum 8 = true)  (kk : Gw l G (d + 1) M npc L (.long (if y < x then y else x) :: st) h Q) : Gw l G (d + 1) M pc L (.long y :: .long x :: st) h Q := by
  obtain ⟨r, h', kk, q⟩ := kk
  exact ⟨r, h', go_minl hc hl hst (Nat.le_refl _) (Nat.le_refl _) kk, q⟩
theorem e_maxl {x y : Int64} (hc : lk M pc = some (.invokestatic i, npc, 3)) (hl : Cond.methodLink M.1.cls i Lib.MathLoose.max_long.x ∈ gtbl) (hst : Nat.ble (st.map fun v => v.category).sum 8 = true)  (kk : Gw l G (d + 1) M npc L (.long (if y < x then x else y) :: st) h Q) : Gw l G (d + 1) M pc L (.long y :: .long x :: st) h Q := by
  obtain ⟨r, h', kk, q⟩ := kk
  exact ⟨r, h', go_maxl hc hl hst (Nat.le_refl _) (Nat.le_refl _) kk, q⟩
theorem e_absl {x : Int64} (hc : lk M pc = some (.invokestatic i, npc, 3)) (hl : Cond.methodLink M.1.cls i Lib.MathLoose.abs_long.x ∈ gtbl) (hst : Nat.ble (st.map fun v => v.category).sum 8 = true)  (kk : Gw l G (d + 1) M npc L (.long (if 0 < x then x else -x) :: st) h Q) : Gw l G (d + 1) M pc L (.long x :: st) h Q := by
  obtain ⟨r, h', kk, q⟩ := kk
  exact ⟨r, h', go_absl hc hl hst (Nat.le_refl _) (Nat.le_refl _) kk, q⟩
theorem e_objInit {b : Nat} (hc : lk M pc = some (.invokespecial i, npc, 3)) (hl : Cond.methodLink M.1.cls i objectInit ∈ gtbl) (hst : Nat.ble (st.map fun v => v.category).sum 8 = true) (kk : Gw l G (d + 1) M npc L st h Q) : Gw l G (d + 1) M pc L (.ref b :: st) h Q := by
  obtain ⟨r, h', kk, q⟩ := kk
  exact ⟨r, h', go_objInit hc hl hst kk, q⟩
theorem e_if_eq {x : Int32} {off : Int} {tgt : Nat} (hc : lk M pc = some (.ifCond .eq off, npc, 3)) (ht : (pc : Int) + off = (tgt : Int)) (kt : x = 0 → Gw l G d M tgt L st h Q) (kf : ¬ x = 0 → Gw l G d M npc L st h Q) : Gw l G d M pc L (.int x :: st) h Q := by
  by_cases z : x = 0
  · obtain ⟨r, h', kk, q⟩ := kt z
    exact ⟨r, h', go_if_eq hc ht (fun _ => kk) (fun y => absurd z y), q⟩
  · obtain ⟨r, h', kk, q⟩ := kf z
    exact ⟨r, h', go_if_eq hc ht (fun y => absurd y z) (fun _ => kk), q⟩
theorem e_if_ne {x : Int32} {off : Int} {tgt : Nat} (hc : lk M pc = some (.ifCond .ne off, npc, 3)) (ht : (pc : Int) + off = (tgt : Int)) (kt : ¬ x = 0 → Gw l G d M tgt L st h Q) (kf : x = 0 → Gw l G d M npc L st h Q) : Gw l G d M pc L (.int x :: st) h Q := by
  by_cases z : x = 0
  · obtain ⟨r, h', kk, q⟩ := kf z
    exact ⟨r, h', go_if_ne hc ht (fun y => absurd z y) (fun _ => kk), q⟩
  · obtain ⟨r, h', kk, q⟩ := kt z
    exact ⟨r, h', go_if_ne hc ht (fun _ => kk) (fun y => absurd y z), q⟩
theorem e_if_lt {x : Int32} {off : Int} {tgt : Nat} (hc : lk M pc = some (.ifCond .lt off, npc, 3)) (ht : (pc : Int) + off = (tgt : Int)) (kt : x < 0 → Gw l G d M tgt L st h Q) (kf : ¬ x < 0 → Gw l G d M npc L st h Q) : Gw l G d M pc L (.int x :: st) h Q := by
  by_cases z : x < 0
  · obtain ⟨r, h', kk, q⟩ := kt z
    exact ⟨r, h', go_if_lt hc ht (fun _ => kk) (fun y => absurd z y), q⟩
  · obtain ⟨r, h', kk, q⟩ := kf z
    exact ⟨r, h', go_if_lt hc ht (fun y => absurd y z) (fun _ => kk), q⟩
theorem e_if_ge {x : Int32} {off : Int} {tgt : Nat} (hc : lk M pc = some (.ifCond .ge off, npc, 3)) (ht : (pc : Int) + off = (tgt : Int)) (kt : 0 ≤ x → Gw l G d M tgt L st h Q) (kf : ¬ 0 ≤ x → Gw l G d M npc L st h Q) : Gw l G d M pc L (.int x :: st) h Q := by
  by_cases z : 0 ≤ x
  · obtain ⟨r, h', kk, q⟩ := kt z
    exact ⟨r, h', go_if_ge hc ht (fun _ => kk) (fun y => absurd z y), q⟩
  · obtain ⟨r, h', kk, q⟩ := kf z
    exact ⟨r, h', go_if_ge hc ht (fun y => absurd y z) (fun _ => kk), q⟩
theorem e_if_gt {x : Int32} {off : Int} {tgt : Nat} (hc : lk M pc = some (.ifCond .gt off, npc, 3)) (ht : (pc : Int) + off = (tgt : Int)) (kt : 0 < x → Gw l G d M tgt L st h Q) (kf : ¬ 0 < x → Gw l G d M npc L st h Q) : Gw l G d M pc L (.int x :: st) h Q := by
  by_cases z : 0 < x
  · obtain ⟨r, h', kk, q⟩ := kt z
    exact ⟨r, h', go_if_gt hc ht (fun _ => kk) (fun y => absurd z y), q⟩
  · obtain ⟨r, h', kk, q⟩ := kf z
    exact ⟨r, h', go_if_gt hc ht (fun y => absurd y z) (fun _ => kk), q⟩
theorem e_if_le {x : Int32} {off : Int} {tgt : Nat} (hc : lk M pc = some (.ifCond .le off, npc, 3)) (ht : (pc : Int) + off = (tgt : Int)) (kt : x ≤ 0 → Gw l G d M tgt L st h Q) (kf : ¬ x ≤ 0 → Gw l G d M npc L st h Q) : Gw l G d M pc L (.int x :: st) h Q := by
  by_cases z : x ≤ 0
  · obtain ⟨r, h', kk, q⟩ := kt z
    exact ⟨r, h', go_if_le hc ht (fun _ => kk) (fun y => absurd z y), q⟩
  · obtain ⟨r, h', kk, q⟩ := kf z
    exact ⟨r, h', go_if_le hc ht (fun y => absurd y z) (fun _ => kk), q⟩
theorem e_icmp_eq {x y : Int32} {off : Int} {tgt : Nat} (hc : lk M pc = some (.if_icmp .eq off, npc, 3)) (ht : (pc : Int) + off = (tgt : Int)) (kt : x = y → Gw l G d M tgt L st h Q) (kf : ¬ x = y → Gw l G d M npc L st h Q) : Gw l G d M pc L (.int y :: .int x :: st) h Q := by
  by_cases z : x = y
  · obtain ⟨r, h', kk, q⟩ := kt z
    exact ⟨r, h', go_icmp_eq hc ht (fun _ => kk) (fun y => absurd z y), q⟩
  · obtain ⟨r, h', kk, q⟩ := kf z
    exact ⟨r, h', go_icmp_eq hc ht (fun y => absurd y z) (fun _ => kk), q⟩
theorem e_icmp_ne {x y : Int32} {off : Int} {tgt : Nat} (hc : lk M pc = some (.if_icmp .ne off, npc, 3)) (ht : (pc : Int) + off = (tgt : Int)) (kt : ¬ x = y → Gw l G d M tgt L st h Q) (kf : x = y → Gw l G d M npc L st h Q) : Gw l G d M pc L (.int y :: .int x :: st) h Q := by
  by_cases z : x = y
  · obtain ⟨r, h', kk, q⟩ := kf z
    exact ⟨r, h', go_icmp_ne hc ht (fun y => absurd z y) (fun _ => kk), q⟩
  · obtain ⟨r, h', kk, q⟩ := kt z
    exact ⟨r, h', go_icmp_ne hc ht (fun _ => kk) (fun y => absurd y z), q⟩
theorem e_icmp_lt {x y : Int32} {off : Int} {tgt : Nat} (hc : lk M pc = some (.if_icmp .lt off, npc, 3)) (ht : (pc : Int) + off = (tgt : Int)) (kt : x < y → Gw l G d M tgt L st h Q) (kf : ¬ x < y → Gw l G d M npc L st h Q) : Gw l G d M pc L (.int y :: .int x :: st) h Q := by
  by_cases z : x < y
  · obtain ⟨r, h', kk, q⟩ := kt z
    exact ⟨r, h', go_icmp_lt hc ht (fun _ => kk) (fun y => absurd z y), q⟩
  · obtain ⟨r, h', kk, q⟩ := kf z
    exact ⟨r, h', go_icmp_lt hc ht (fun y => absurd y z) (fun _ => kk), q⟩
theorem e_icmp_ge {x y : Int32} {off : Int} {tgt : Nat} (hc : lk M pc = some (.if_icmp .ge off, npc, 3)) (ht : (pc : Int) + off = (tgt : Int)) (kt : y ≤ x → Gw l G d M tgt L st h Q) (kf : ¬ y ≤ x → Gw l G d M npc L st h Q) : Gw l G d M pc L (.int y :: .int x :: st) h Q := by
  by_cases z : y ≤ x
  · obtain ⟨r, h', kk, q⟩ := kt z
    exact ⟨r, h', go_icmp_ge hc ht (fun _ => kk) (fun y => absurd z y), q⟩
  · obtain ⟨r, h', kk, q⟩ := kf z
    exact ⟨r, h', go_icmp_ge hc ht (fun y => absurd y z) (fun _ => kk), q⟩
theorem e_icmp_gt {x y : Int32} {off : Int} {tgt : Nat} (hc : lk M pc = some (.if_icmp .gt off, npc, 3)) (ht : (pc : Int) + off = (tgt : Int)) (kt : y < x → Gw l G d M tgt L st h Q) (kf : ¬ y < x → Gw l G d M npc L st h Q) : Gw l G d M pc L (.int y :: .int x :: st) h Q := by
  by_cases z : y < x
  · obtain ⟨r, h', kk, q⟩ := kt z
    exact ⟨r, h', go_icmp_gt hc ht (fun _ => kk) (fun y => absurd z y), q⟩
  · obtain ⟨r, h', kk, q⟩ := kf z
    exact ⟨r, h', go_icmp_gt hc ht (fun y => absurd y z) (fun _ => kk), q⟩
theorem e_icmp_le {x y : Int32} {off : Int} {tgt : Nat} (hc : lk M pc = some (.if_icmp .le off, npc, 3)) (ht : (pc : Int) + off = (tgt : Int)) (kt : x ≤ y → Gw l G d M tgt L st h Q) (kf : ¬ x ≤ y → Gw l G d M npc L st h Q) : Gw l G d M pc L (.int y :: .int x :: st) h Q := by
  by_cases z : x ≤ y
  · obtain ⟨r, h', kk, q⟩ := kt z
    exact ⟨r, h', go_icmp_le hc ht (fun _ => kk) (fun y => absurd z y), q⟩
  · obtain ⟨r, h', kk, q⟩ := kf z
    exact ⟨r, h', go_icmp_le hc ht (fun y => absurd y z) (fun _ => kk), q⟩
theorem e_getI (hc : lk M pc = some (.getfield i, npc, 3)) (hf : Fl M.1.cls i kd k) (hs : (K.2.1 a).1 = kd) (ht : sty kd k = 0) (kk : Gw l G d M npc L (.int (I a k) :: st) (I, J, K) Q) : Gw l G d M pc L (.ref a :: st) (I, J, K) Q := by
  obtain ⟨r, h', kk, q⟩ := kk
  exact ⟨r, h', go_getI hc hf hs ht kk, q⟩
theorem e_getJ (hc : lk M pc = some (.getfield i, npc, 3)) (hf : Fl M.1.cls i kd k) (hs : (K.2.1 a).1 = kd) (ht : sty kd k = 1) (kk : Gw l G d M npc L (.long (J a k) :: st) (I, J, K) Q) : Gw l G d M pc L (.ref a :: st) (I, J, K) Q := by
  obtain ⟨r, h', kk, q⟩ := kk
  exact ⟨r, h', go_getJ hc hf hs ht kk, q⟩
theorem e_getP {b : Nat} (hc : lk M pc = some (.getfield i, npc, 3)) (hf : Fl M.1.cls i kd k) (hs : (K.2.1 a).1 = kd) (ht : sty kd k = 2) (hp : K.1 a k = some b) (kk : Gw l G d M npc L (.ref b :: st) (I, J, K) Q) : Gw l G d M pc L (.ref a :: st) (I, J, K) Q := by
  obtain ⟨r, h', kk, q⟩ := kk
  exact ⟨r, h', go_getP hc hf hs ht hp kk, q⟩
theorem e_putI {v : Int32} (hc : lk M pc = some (.putfield i, npc, 3)) (hf : Fl M.1.cls i kd k) (hs : (K.2.1 a).1 = kd) (hfin : (kT kd k).2.2.2 = false) (ht : kTy kd k = .int) (kk : Gw l G d M npc L st (u2 I a k v, J, K) Q) : Gw l G d M pc L (.int v :: .ref a :: st) (I, J, K) Q := by
  obtain ⟨r, h', kk, q⟩ := kk
  exact ⟨r, h', go_putI hc hf hs hfin ht kk, q⟩
theorem e_putZ {v : Int32} (hc : lk M pc = some (.putfield i, npc, 3)) (hf : Fl M.1.cls i kd k) (hs : (K.2.1 a).1 = kd) (hfin : (kT kd k).2.2.2 = false) (ht : kTy kd k = .boolean) (hv : v = 0 ∨ v = 1) (kk : Gw l G d M npc L st (u2 I a k v, J, K) Q) : Gw l G d M pc L (.int v :: .ref a :: st) (I, J, K) Q := by
  obtain ⟨r, h', kk, q⟩ := kk
  exact ⟨r, h', go_putZ hc hf hs hfin ht hv kk, q⟩
theorem e_putJ {v : Int64} (hc : lk M pc = some (.putfield i, npc, 3)) (hf : Fl M.1.cls i kd k) (hs : (K.2.1 a).1 = kd) (hfin : (kT kd k).2.2.2 = false) (ht : kTy kd k = .long) (kk : Gw l G d M npc L st (I, u2 J a k v, K) Q) : Gw l G d M pc L (.long v :: .ref a :: st) (I, J, K) Q := by
  obtain ⟨r, h', kk, q⟩ := kk
  exact ⟨r, h', go_putJ hc hf hs hfin ht kk, q⟩
theorem e_iaload {x : Int32} (hc : lk M pc = some (.iaload, npc, 1)) (hs : K.2.1 a = (20, n)) (hin : vp_in x n) (kk : Gw l G d M npc L (.int (I a x.toNatClampNeg) :: st) (I, J, K) Q) : Gw l G d M pc L (.int x :: .ref a :: st) (I, J, K) Q := by
  obtain ⟨r, h', kk, q⟩ := kk
  exact ⟨r, h', go_iaload hc hs hin kk, q⟩
theorem e_baload {x : Int32} (hc : lk M pc = some (.baload, npc, 1)) (hs : K.2.1 a = (21, n)) (hin : vp_in x n) (kk : Gw l G d M npc L (.int (I a x.toNatClampNeg) :: st) (I, J, K) Q) : Gw l G d M pc L (.int x :: .ref a :: st) (I, J, K) Q := by
  obtain ⟨r, h', kk, q⟩ := kk
  exact ⟨r, h', go_baload hc hs hin kk, q⟩
theorem e_zaload {x : Int32} (hc : lk M pc = some (.baload, npc, 1)) (hs : K.2.1 a = (22, n)) (hin : vp_in x n) (kk : Gw l G d M npc L (.int (I a x.toNatClampNeg) :: st) (I, J, K) Q) : Gw l G d M pc L (.int x :: .ref a :: st) (I, J, K) Q := by
  obtain ⟨r, h', kk, q⟩ := kk
  exact ⟨r, h', go_zaload hc hs hin kk, q⟩
theorem e_laload {x : Int32} (hc : lk M pc = some (.laload, npc, 1)) (hs : K.2.1 a = (23, n)) (hin : vp_in x n) (kk : Gw l G d M npc L (.long (J a x.toNatClampNeg) :: st) (I, J, K) Q) : Gw l G d M pc L (.int x :: .ref a :: st) (I, J, K) Q := by
  obtain ⟨r, h', kk, q⟩ := kk
  exact ⟨r, h', go_laload hc hs hin kk, q⟩
theorem e_aaload {x : Int32} {b : Nat} (hc : lk M pc = some (.aaload, npc, 1)) (hs : K.2.1 a = (24, n)) (hin : vp_in x n) (hp : K.1 a x.toNatClampNeg = some b) (kk : Gw l G d M npc L (.ref b :: st) (I, J, K) Q) : Gw l G d M pc L (.int x :: .ref a :: st) (I, J, K) Q := by
  obtain ⟨r, h', kk, q⟩ := kk
  exact ⟨r, h', go_aaload hc hs hin hp kk, q⟩
theorem e_alen {v : Int32} (hc : lk M pc = some (.arraylength, npc, 1)) (hs : K.2.1 a = (kd, n)) (h20 : Nat.ble 20 kd = true) (h25 : Nat.blt kd 25 = true) (hv : Int32.ofNat n = v) (kk : Gw l G d M npc L (.int v :: st) (I, J, K) Q) : Gw l G d M pc L (.ref a :: st) (I, J, K) Q := by
  obtain ⟨r, h', kk, q⟩ := kk
  exact ⟨r, h', go_alen hc hs (Nat.ble_eq.mp h20) (Nat.blt_eq.mp h25) hv kk, q⟩
theorem e_iastore {x y : Int32} (hc : lk M pc = some (.iastore, npc, 1)) (hs : K.2.1 a = (20, n)) (hin : vp_in x n) (kk : Gw l G d M npc L st (u2 I a x.toNatClampNeg y, J, K) Q) : Gw l G d M pc L (.int y :: .int x :: .ref a :: st) (I, J, K) Q := by
  obtain ⟨r, h', kk, q⟩ := kk
  exact ⟨r, h', go_iastore hc hs hin kk, q⟩
theorem e_lastore {x : Int32} {y : Int64} (hc : lk M pc = some (.lastore, npc, 1)) (hs : K.2.1 a = (23, n)) (hin : vp_in x n) (kk : Gw l G d M npc L st (I, u2 J a x.toNatClampNeg y, K) Q) : Gw l G d M pc L (.long y :: .int x :: .ref a :: st) (I, J, K) Q := by
  obtain ⟨r, h', kk, q⟩ := kk
  exact ⟨r, h', go_lastore hc hs hin kk, q⟩
theorem e_bastore {x y : Int32} (hc : lk M pc = some (.bastore, npc, 1)) (hs : K.2.1 a = (21, n)) (hin : vp_in x n) (kk : Gw l G d M npc L st (u2 I a x.toNatClampNeg (vp_nar .byte y), J, K) Q) : Gw l G d M pc L (.int y :: .int x :: .ref a :: st) (I, J, K) Q := by
  obtain ⟨r, h', kk, q⟩ := kk
  exact ⟨r, h', go_bastore hc hs hin kk, q⟩
theorem e_zastore {x y : Int32} (hc : lk M pc = some (.bastore, npc, 1)) (hs : K.2.1 a = (22, n)) (hin : vp_in x n) (kk : Gw l G d M npc L st (u2 I a x.toNatClampNeg (vp_nar .boolean y), J, K) Q) : Gw l G d M pc L (.int y :: .int x :: .ref a :: st) (I, J, K) Q := by
  obtain ⟨r, h', kk, q⟩ := kk
  exact ⟨r, h', go_zastore hc hs hin kk, q⟩
theorem e_copy {a0 n0 n1 : Nat} {sp dp n : Int32} (hc : lk M pc = some (.invokestatic i, npc, 3)) (hl : Cond.methodLink M.1.cls i arraycopyName ∈ gtbl) (hs0 : K.2.1 a0 = (20, n0)) (hs1 : K.2.1 a = (20, n1)) (h1 : ¬ sp < 0) (h2 : ¬ dp < 0) (h3 : ¬ n < 0) (h4 : sp.toNatClampNeg + n.toNatClampNeg ≤ n0) (h5 : dp.toNatClampNeg + n.toNatClampNeg ≤ n1) (hst : Nat.ble (st.map fun v => v.category).sum 8 = true) (kk : Gw l G (d + 1) M npc L st (uR I a (va_cpy (I a0) (I a) sp.toNatClampNeg dp.toNatClampNeg n.toNatClampNeg), J, K) Q) : Gw l G (d + 1) M pc L (.int n :: .int dp :: .ref a :: .int sp :: .ref a0 :: st) (I, J, K) Q := by
  obtain ⟨r, h', kk, q⟩ := kk
  exact ⟨r, h', go_copy hc hl hs0 hs1 h1 h2 h3 h4 h5 hst kk, q⟩
theorem e_ireturn {v : Int32} (hc : lk M pc = some (.ireturn, npc, 1)) (hr : M.2.2.2.1 = some .int) (q : Q (some (.int v)) h) : Gw l G d M pc L [.int v] h Q := ⟨_, _, go_ireturn hc hr rfl rfl, q⟩
theorem e_zreturn {v : Int32} (hc : lk M pc = some (.ireturn, npc, 1)) (hr : M.2.2.2.1 = some .boolean) (hv : v = 0 ∨ v = 1) (q : Q (some (.int v)) h) : Gw l G d M pc L [.int v] h Q := ⟨_, _, go_zreturn hc hr hv rfl rfl, q⟩
theorem e_lreturn {v : Int64} (hc : lk M pc = some (.lreturn, npc, 1)) (hr : M.2.2.2.1 = some .long) (q : Q (some (.long v)) h) : Gw l G d M pc L [.long v] h Q := ⟨_, _, go_lreturn hc hr rfl rfl, q⟩
theorem e_return  (hc : lk M pc = some (.return_, npc, 1)) (hr : M.2.2.2.1 = none) (q : Q (none) h) : Gw l G d M pc L [] h Q := ⟨_, _, go_return hc hr rfl rfl, q⟩
theorem e_areturn {b : Nat} {rt : FieldType} (hc : lk M pc = some (.areturn, npc, 1)) (hr : M.2.2.2.1 = some rt) (hrt : (∃ n, rt = .object n) ∨ ∃ t, rt = .array t) (q : Q (some (.ref b)) h) : Gw l G d M pc L [.ref b] h Q := ⟨_, _, go_areturn hc hr hrt rfl rfl, q⟩
theorem e_callV {M2 : MD} {as stk : List Value} {b : Nat} (hc : lk M pc = some (.invokevirtual i, npc, 3)) (hl : Lv M.1.cls i M2.1 n) (hM2 : MOk M2) (hct : Cw l G d M2 (.ref b :: as) h Q1) (hstk : stk = as.reverse ++ .ref b :: st) (hs : kC (mS h b).1 = M2.1.cls) (hkd : Nat.blt (mS h b).1 11 = true) (hn : as.length = n) (hst : Nat.ble (st.map fun v => v.category).sum 8 = true) (kk : ∀ r1 h1, Q1 r1 h1 → Gw l G (d + 1) M npc L (r1.toList ++ st) h1 Q) : Gw l G (d + 1) M pc L stk h Q := by
  obtain ⟨r1, h1, hct, q1⟩ := hct
  obtain ⟨r, h', kk, q⟩ := kk r1 h1 q1
  exact ⟨r, h', go_callV hc hl hM2 hct hstk hs hkd hn hst (Nat.le_refl _) (Nat.le_refl _) kk, q⟩
theorem e_callVp {M2 : MD} {as stk : List Value} {b : Nat} {v : Value} (hc : lk M pc = some (.invokevirtual i, npc, 3)) (hl : Lv M.1.cls i M2.1 n) (hM2 : MOk M2) (hct : Cp l G d M2 (.ref b :: as) h v) (hstk : stk = as.reverse ++ .ref b :: st) (hs : kC (mS h b).1 = M2.1.cls) (hkd : Nat.blt (mS h b).1 11 = true) (hn : as.length = n) (hst : Nat.ble (st.map fun v => v.category).sum 8 = true) (kk : Gw l G (d + 1) M npc L (v :: st) h Q) : Gw l G (d + 1) M pc L stk h Q := by
  obtain ⟨r, h', kk, q⟩ := kk
  exact ⟨r, h', go_callV hc hl hM2 hct hstk hs hkd hn hst (Nat.le_refl _) (Nat.le_refl _) kk, q⟩
theorem e_callS {M2 : MD} {as stk : List Value} (hc : lk M pc = some (.invokestatic i, npc, 3)) (hl : Ls M.1.cls i M2.1 n) (hM2 : MOk M2) (hct : Cw l G d M2 as h Q1) (hstk : stk = as.reverse ++ st) (hn : as.length = n) (hst : Nat.ble (st.map fun v => v.category).sum 8 = true) (kk : ∀ r1 h1, Q1 r1 h1 → Gw l G (d + 1) M npc L (r1.toList ++ st) h1 Q) : Gw l G (d + 1) M pc L stk h Q := by
  obtain ⟨r1, h1, hct, q1⟩ := hct
  obtain ⟨r, h', kk, q⟩ := kk r1 h1 q1
  exact ⟨r, h', go_callS hc hl hM2 hct hstk hn hst (Nat.le_refl _) (Nat.le_refl _) kk, q⟩
theorem e_callSp {M2 : MD} {as stk : List Value} {v : Value} (hc : lk M pc = some (.invokestatic i, npc, 3)) (hl : Ls M.1.cls i M2.1 n) (hM2 : MOk M2) (hct : Cp l G d M2 as h v) (hstk : stk = as.reverse ++ st) (hn : as.length = n) (hst : Nat.ble (st.map fun v => v.category).sum 8 = true) (kk : Gw l G (d + 1) M npc L (v :: st) h Q) : Gw l G (d + 1) M pc L stk h Q := by
  obtain ⟨r, h', kk, q⟩ := kk
  exact ⟨r, h', go_callS hc hl hM2 hct hstk hn hst (Nat.le_refl _) (Nat.le_refl _) kk, q⟩
theorem e_callSN {M2 : MD} {as stk : List Value} (hc : lk M pc = some (.invokestatic i, npc, 3)) (hl : LsN M.1.cls i M2.1 n) (hM2 : MOk M2) (hct : Cw l G d M2 as h Q1) (hstk : stk = as.reverse ++ st) (hn : as.length = n) (hst : Nat.ble (st.map fun v => v.category).sum 8 = true) (kk : ∀ r1 h1, Q1 r1 h1 → Gw l G (d + 1) M npc L (r1.toList ++ st) h1 Q) : Gw l G (d + 1) M pc L stk h Q := by
  obtain ⟨r1, h1, hct, q1⟩ := hct
  obtain ⟨r, h', kk, q⟩ := kk r1 h1 q1
  exact ⟨r, h', go_callSN hc hl hM2 hct hstk hn hst (Nat.le_refl _) (Nat.le_refl _) kk, q⟩
theorem e_callSNp {M2 : MD} {as stk : List Value} {v : Value} (hc : lk M pc = some (.invokestatic i, npc, 3)) (hl : LsN M.1.cls i M2.1 n) (hM2 : MOk M2) (hct : Cp l G d M2 as h v) (hstk : stk = as.reverse ++ st) (hn : as.length = n) (hst : Nat.ble (st.map fun v => v.category).sum 8 = true) (kk : Gw l G (d + 1) M npc L (v :: st) h Q) : Gw l G (d + 1) M pc L stk h Q := by
  obtain ⟨r, h', kk, q⟩ := kk
  exact ⟨r, h', go_callSN hc hl hM2 hct hstk hn hst (Nat.le_refl _) (Nat.le_refl _) kk, q⟩
end RowsW
theorem bp_m21 : (Int8.ofInt (-21)).toInt32 = (-21) := by decide
theorem bp_m20 : (Int8.ofInt (-20)).toInt32 = (-20) := by decide
theorem bp_m19 : (Int8.ofInt (-19)).toInt32 = (-19) := by decide
theorem bp_m2 : (Int8.ofInt (-2)).toInt32 = (-2) := by decide
theorem bp_6 : (Int8.ofInt 6).toInt32 = 6 := by decide
theorem bp_7 : (Int8.ofInt 7).toInt32 = 7 := by decide
theorem bp_8 : (Int8.ofInt 8).toInt32 = 8 := by decide
theorem bp_9 : (Int8.ofInt 9).toInt32 = 9 := by decide
theorem bp_10 : (Int8.ofInt 10).toInt32 = 10 := by decide
theorem bp_11 : (Int8.ofInt 11).toInt32 = 11 := by decide
theorem bp_12 : (Int8.ofInt 12).toInt32 = 12 := by decide
theorem bp_13 : (Int8.ofInt 13).toInt32 = 13 := by decide
theorem bp_14 : (Int8.ofInt 14).toInt32 = 14 := by decide
theorem bp_15 : (Int8.ofInt 15).toInt32 = 15 := by decide
theorem bp_16 : (Int8.ofInt 16).toInt32 = 16 := by decide
theorem bp_17 : (Int8.ofInt 17).toInt32 = 17 := by decide
theorem bp_18 : (Int8.ofInt 18).toInt32 = 18 := by decide
theorem bp_19 : (Int8.ofInt 19).toInt32 = 19 := by decide
theorem bp_20 : (Int8.ofInt 20).toInt32 = 20 := by decide
theorem bp_21 : (Int8.ofInt 21).toInt32 = 21 := by decide
theorem bp_22 : (Int8.ofInt 22).toInt32 = 22 := by decide
theorem bp_23 : (Int8.ofInt 23).toInt32 = 23 := by decide
theorem bp_24 : (Int8.ofInt 24).toInt32 = 24 := by decide
theorem bp_25 : (Int8.ofInt 25).toInt32 = 25 := by decide
theorem bp_30 : (Int8.ofInt 30).toInt32 = 30 := by decide
theorem bp_32 : (Int8.ofInt 32).toInt32 = 32 := by decide
theorem bp_40 : (Int8.ofInt 40).toInt32 = 40 := by decide
theorem bp_41 : (Int8.ofInt 41).toInt32 = 41 := by decide
theorem bp_42 : (Int8.ofInt 42).toInt32 = 42 := by decide
theorem bp_43 : (Int8.ofInt 43).toInt32 = 43 := by decide
theorem bp_45 : (Int8.ofInt 45).toInt32 = 45 := by decide
theorem bp_47 : (Int8.ofInt 47).toInt32 = 47 := by decide
theorem bp_48 : (Int8.ofInt 48).toInt32 = 48 := by decide
theorem bp_50 : (Int8.ofInt 50).toInt32 = 50 := by decide
theorem bp_57 : (Int8.ofInt 57).toInt32 = 57 := by decide
theorem bp_59 : (Int8.ofInt 59).toInt32 = 59 := by decide
theorem bp_60 : (Int8.ofInt 60).toInt32 = 60 := by decide
theorem bp_61 : (Int8.ofInt 61).toInt32 = 61 := by decide
theorem bp_62 : (Int8.ofInt 62).toInt32 = 62 := by decide
theorem bp_63 : (Int8.ofInt 63).toInt32 = 63 := by decide
theorem bp_64 : (Int8.ofInt 64).toInt32 = 64 := by decide
theorem bp_97 : (Int8.ofInt 97).toInt32 = 97 := by decide
theorem bp_99 : (Int8.ofInt 99).toInt32 = 99 := by decide
theorem bp_100 : (Int8.ofInt 100).toInt32 = 100 := by decide
theorem bp_122 : (Int8.ofInt 122).toInt32 = 122 := by decide
theorem ic_m1 : Int32.ofInt (-1) = (-1) := by decide
theorem ic_0 : Int32.ofInt 0 = 0 := by decide
theorem ic_1 : Int32.ofInt 1 = 1 := by decide
theorem ic_2 : Int32.ofInt 2 = 2 := by decide
theorem ic_3 : Int32.ofInt 3 = 3 := by decide
theorem ic_4 : Int32.ofInt 4 = 4 := by decide
theorem ic_5 : Int32.ofInt 5 = 5 := by decide
theorem sp_128 : (Int16.ofInt 128).toInt32 = 128 := by decide
theorem sp_184 : (Int16.ofInt 184).toInt32 = 184 := by decide
theorem sp_255 : (Int16.ofInt 255).toInt32 = 255 := by decide
theorem sp_256 : (Int16.ofInt 256).toInt32 = 256 := by decide
theorem sp_257 : (Int16.ofInt 257).toInt32 = 257 := by decide
theorem sp_258 : (Int16.ofInt 258).toInt32 = 258 := by decide
theorem sp_260 : (Int16.ofInt 260).toInt32 = 260 := by decide
theorem sp_261 : (Int16.ofInt 261).toInt32 = 261 := by decide
theorem sp_262 : (Int16.ofInt 262).toInt32 = 262 := by decide
theorem sp_680 : (Int16.ofInt 680).toInt32 = 680 := by decide
theorem sp_700 : (Int16.ofInt 700).toInt32 = 700 := by decide
theorem sp_999 : (Int16.ofInt 999).toInt32 = 999 := by decide
theorem sp_1023 : (Int16.ofInt 1023).toInt32 = 1023 := by decide
theorem sp_9900 : (Int16.ofInt 9900).toInt32 = 9900 := by decide
theorem sp_9999 : (Int16.ofInt 9999).toInt32 = 9999 := by decide
theorem sp_12345 : (Int16.ofInt 12345).toInt32 = 12345 := by decide
end
