theorem iniS : Cond.initialized RJ0 ∈ gtbl := mem_g 111 (by decide +kernel) rfl
theorem iniT : Cond.initialized RJ1 ∈ gtbl := mem_g 112 (by decide +kernel) rfl
theorem iniU : Cond.initialized RJ3 ∈ gtbl := mem_g 113 (by decide +kernel) rfl
def mS_length : MD := (yJ0_length_8abf5, cJ0_length_8abf5, 1, (some (Jvm.ClassFile.FieldType.int)), [(0, .aload_n 0, 1, 1), (1, .getfield 9, 4, 3), (4, .arraylength, 5, 1), (5, .aload_n 0, 6, 1), (6, .invokevirtual 335, 9, 3), (9, .ishr, 10, 1), (10, .ireturn, 11, 1)])
theorem okS_length : MOk mS_length := ⟨by decide, mem_g 615 (by decide +kernel) rfl, iniS, ⟨by decide, by decide⟩, by decide, by unfold MDe; decide +kernel⟩
def mS_charAt : MD := (yJ0_charAt_5068e, cJ0_charAt_5068e, 2, (some (Jvm.ClassFile.FieldType.char)), [(0, .aload_n 0, 1, 1), (1, .invokevirtual 492, 4, 3), (4, .ifCond .eq 12, 7, 3), (7, .aload_n 0, 8, 1), (8, .getfield 9, 11, 3), (11, .iload_n 1, 12, 1), (12, .invokestatic 495, 15, 3), (15, .ireturn, 16, 1), (16, .aload_n 0, 17, 1), (17, .getfield 9, 20, 3), (20, .iload_n 1, 21, 1), (21, .invokestatic 498, 24, 3), (24, .ireturn, 25, 1)])
theorem okS_charAt : MOk mS_charAt := ⟨by decide, mem_g 273 (by decide +kernel) rfl, iniS, ⟨by decide, by decide⟩, by decide, by unfold MDe; decide +kernel⟩
def mS_indexOf : MD := (yJ0_indexOf_0f7a4, cJ0_indexOf_0f7a4, 2, (some (Jvm.ClassFile.FieldType.int)), [(0, .aload_n 0, 1, 1), (1, .iload_n 1, 2, 1), (2, .iconst 0, 3, 1), (3, .invokevirtual 633, 6, 3), (6, .ireturn, 7, 1)])
theorem okS_indexOf : MOk mS_indexOf := ⟨by decide, mem_g 607 (by decide +kernel) rfl, iniS, ⟨by decide, by decide⟩, by decide, by unfold MDe; decide +kernel⟩
def mS_indexOf2 : MD := (yJ0_indexOf_7cf53, cJ0_indexOf_7cf53, 3, (some (Jvm.ClassFile.FieldType.int)), [(0, .aload_n 0, 1, 1), (1, .invokevirtual 492, 4, 3), (4, .ifCond .eq 19, 7, 3), (7, .aload_n 0, 8, 1), (8, .getfield 9, 11, 3), (11, .iload_n 1, 12, 1), (12, .iload_n 2, 13, 1), (13, .aload_n 0, 14, 1), (14, .invokevirtual 505, 17, 3), (17, .invokestatic 637, 20, 3), (20, .goto 16, 23, 3), (23, .aload_n 0, 24, 1), (24, .getfield 9, 27, 3), (27, .iload_n 1, 28, 1), (28, .iload_n 2, 29, 1), (29, .aload_n 0, 30, 1), (30, .invokevirtual 505, 33, 3), (33, .invokestatic 640, 36, 3), (36, .ireturn, 37, 1)])
theorem okS_indexOf2 : MOk mS_indexOf2 := ⟨by decide, mem_g 611 (by decide +kernel) rfl, iniS, ⟨by decide, by decide⟩, by decide, by unfold MDe; decide +kernel⟩
def mS_coder : MD := (yJ0_coder_7d493, cJ0_coder_7d493, 1, (some (Jvm.ClassFile.FieldType.byte)), [(0, .getstatic 38, 3, 3), (3, .ifCond .eq 10, 6, 3), (6, .aload_n 0, 7, 1), (7, .getfield 15, 10, 3), (10, .goto 4, 13, 3), (13, .iconst 1, 14, 1), (14, .ireturn, 15, 1)])
theorem okS_coder : MOk mS_coder := ⟨by decide, mem_g 619 (by decide +kernel) rfl, iniS, ⟨by decide, by decide⟩, by decide, by unfold MDe; decide +kernel⟩
def mS_isLatin1 : MD := (yJ0_isLatin1_aae02, cJ0_isLatin1_aae02, 1, (some (Jvm.ClassFile.FieldType.boolean)), [(0, .getstatic 38, 3, 3), (3, .ifCond .eq 14, 6, 3), (6, .aload_n 0, 7, 1), (7, .getfield 15, 10, 3), (10, .ifCond .ne 7, 13, 3), (13, .iconst 1, 14, 1), (14, .goto 4, 17, 3), (17, .iconst 0, 18, 1), (18, .ireturn, 19, 1)])
theorem okS_isLatin1 : MOk mS_isLatin1 := ⟨by decide, mem_g 277 (by decide +kernel) rfl, iniS, ⟨by decide, by decide⟩, by decide, by unfold MDe; decide +kernel⟩
def mS_checkIndex : MD := (yJ0_checkIndex_df160, cJ0_checkIndex_df160, 2, none, [(0, .iload_n 0, 1, 1), (1, .iload_n 1, 2, 1), (2, .getstatic 1053, 5, 3), (5, .invokestatic 1059, 8, 3), (8, .pop, 9, 1), (9, .return_, 10, 1)])
theorem okS_checkIndex : MOk mS_checkIndex := ⟨by decide, mem_g 285 (by decide +kernel) rfl, iniS, ⟨by decide, by decide⟩, by decide, by unfold MDe; decide +kernel⟩
def mT_charAt : MD := (yJ1_charAt_3b067, cJ1_charAt_3b067, 2, (some (Jvm.ClassFile.FieldType.char)), [(0, .iload_n 1, 1, 1), (1, .aload_n 0, 2, 1), (2, .arraylength, 3, 1), (3, .invokestatic 9, 6, 3), (6, .aload_n 0, 7, 1), (7, .iload_n 1, 8, 1), (8, .baload, 9, 1), (9, .sipush 255, 12, 3), (12, .iand, 13, 1), (13, .i2c, 14, 1), (14, .ireturn, 15, 1)])
theorem okT_charAt : MOk mT_charAt := ⟨by decide, mem_g 282 (by decide +kernel) rfl, iniT, ⟨by decide, by decide⟩, by decide, by unfold MDe; decide +kernel⟩
def mT_canEncode : MD := (yJ1_canEncode_9a6ad, cJ1_canEncode_9a6ad, 1, (some (Jvm.ClassFile.FieldType.boolean)), [(0, .iload_n 0, 1, 1), (1, .ifCond .lt 14, 4, 3), (4, .iload_n 0, 5, 1), (5, .sipush 255, 8, 3), (8, .if_icmp .gt 7, 11, 3), (11, .iconst 1, 12, 1), (12, .goto 4, 15, 3), (15, .iconst 0, 16, 1), (16, .ireturn, 17, 1)])
theorem okT_canEncode : MOk mT_canEncode := ⟨by decide, mem_g 625 (by decide +kernel) rfl, iniT, ⟨by decide, by decide⟩, by decide, by unfold MDe; decide +kernel⟩
def mT_indexOf : MD := (yJ1_indexOf_4cfef, cJ1_indexOf_4cfef, 4, (some (Jvm.ClassFile.FieldType.int)), [(0, .iload_n 1, 1, 1), (1, .invokestatic 88, 4, 3), (4, .ifCond .ne 5, 7, 3), (7, .iconst (-1), 8, 1), (8, .ireturn, 9, 1), (9, .iload_n 2, 10, 1), (10, .iconst 0, 11, 1), (11, .invokestatic 92, 14, 3), (14, .istore_n 2, 15, 1), (15, .iload_n 3, 16, 1), (16, .aload_n 0, 17, 1), (17, .arraylength, 18, 1), (18, .invokestatic 38, 21, 3), (21, .istore_n 3, 22, 1), (22, .iload_n 2, 23, 1), (23, .iload_n 3, 24, 1), (24, .if_icmp .lt 5, 27, 3), (27, .iconst (-1), 28, 1), (28, .ireturn, 29, 1), (29, .aload_n 0, 30, 1), (30, .iload_n 1, 31, 1), (31, .iload_n 2, 32, 1), (32, .iload_n 3, 33, 1), (33, .invokestatic 95, 36, 3), (36, .ireturn, 37, 1)])
theorem okT_indexOf : MOk mT_indexOf := ⟨by decide, mem_g 622 (by decide +kernel) rfl, iniT, ⟨by decide, by decide⟩, by decide, by unfold MDe; decide +kernel⟩
def mT_indexOfChar : MD := (yJ1_indexOfChar_4cfef, cJ1_indexOfChar_4cfef, 6, (some (Jvm.ClassFile.FieldType.int)), [(0, .iload_n 1, 1, 1), (1, .i2b, 2, 1), (2, .istore 4, 4, 2), (4, .iload_n 2, 5, 1), (5, .istore 5, 7, 2), (7, .iload 5, 9, 2), (9, .iload_n 3, 10, 1), (10, .if_icmp .ge 21, 13, 3), (13, .aload_n 0, 14, 1), (14, .iload 5, 16, 2), (16, .baload, 17, 1), (17, .iload 4, 19, 2), (19, .if_icmp .ne 6, 22, 3), (22, .iload 5, 24, 2), (24, .ireturn, 25, 1), (25, .iinc 5 1, 28, 3), (28, .goto (-21), 31, 3), (31, .iconst (-1), 32, 1), (32, .ireturn, 33, 1)])
theorem okT_indexOfChar : MOk mT_indexOfChar := ⟨by decide, mem_g 632 (by decide +kernel) rfl, iniT, ⟨by decide, by decide⟩, by decide, by unfold MDe; decide +kernel⟩
def mU_checkIndex : MD := (yJ3_checkIndex_8e157, cJ3_checkIndex_8e157, 3, (some (Jvm.ClassFile.FieldType.int)), [(0, .iload_n 0, 1, 1), (1, .ifCond .lt 8, 4, 3), (4, .iload_n 0, 5, 1), (5, .iload_n 1, 6, 1), (6, .if_icmp .lt 10, 9, 3), (9, .aload_n 2, 10, 1), (10, .iload_n 0, 11, 1), (11, .iload_n 1, 12, 1), (12, .invokestatic 95, 15, 3), (15, .athrow, 16, 1), (16, .iload_n 0, 17, 1), (17, .ireturn, 18, 1)])
theorem okU_checkIndex : MOk mU_checkIndex := ⟨by decide, mem_g 290 (by decide +kernel) rfl, iniU, ⟨by decide, by decide⟩, by decide, by unfold MDe; decide +kernel⟩
theorem v5_21 : Lv RX5 21 yJ0_charAt_5068e 1 := ⟨mem_g 270 (by decide +kernel) rfl, mem_g 271 (by decide +kernel) rfl, mem_g 272 (by decide +kernel) rfl, Lp.of (by decide +kernel)⟩
theorem v5_61 : Lv RX5 61 yJ0_indexOf_0f7a4 1 := ⟨mem_g 604 (by decide +kernel) rfl, mem_g 605 (by decide +kernel) rfl, mem_g 606 (by decide +kernel) rfl, Lp.of (by decide +kernel)⟩
theorem v10_196 : Lv RX10 196 yJ0_length_8abf5 0 := ⟨mem_g 1551 (by decide +kernel) rfl, mem_g 613 (by decide +kernel) rfl, mem_g 614 (by decide +kernel) rfl, Lp.of (by decide +kernel)⟩
theorem v10_201 : Lv RX10 201 yJ0_charAt_5068e 1 := ⟨mem_g 1552 (by decide +kernel) rfl, mem_g 271 (by decide +kernel) rfl, mem_g 272 (by decide +kernel) rfl, Lp.of (by decide +kernel)⟩
theorem vS_335 : Lv RJ0 335 yJ0_coder_7d493 0 := ⟨mem_g 616 (by decide +kernel) rfl, mem_g 617 (by decide +kernel) rfl, mem_g 618 (by decide +kernel) rfl, Lp.of (by decide +kernel)⟩
theorem vS_492 : Lv RJ0 492 yJ0_isLatin1_aae02 0 := ⟨mem_g 274 (by decide +kernel) rfl, mem_g 275 (by decide +kernel) rfl, mem_g 276 (by decide +kernel) rfl, Lp.of (by decide +kernel)⟩
theorem vS_495 : Ls RJ0 495 yJ1_charAt_3b067 2 := ⟨mem_g 280 (by decide +kernel) rfl, mem_g 281 (by decide +kernel) rfl, Lp.of (by decide +kernel)⟩
theorem vS_505 : Lv RJ0 505 yJ0_length_8abf5 0 := ⟨mem_g 612 (by decide +kernel) rfl, mem_g 613 (by decide +kernel) rfl, mem_g 614 (by decide +kernel) rfl, Lp.of (by decide +kernel)⟩
theorem vS_633 : Lv RJ0 633 yJ0_indexOf_7cf53 2 := ⟨mem_g 608 (by decide +kernel) rfl, mem_g 609 (by decide +kernel) rfl, mem_g 610 (by decide +kernel) rfl, Lp.of (by decide +kernel)⟩
theorem vS_637 : Ls RJ0 637 yJ1_indexOf_4cfef 4 := ⟨mem_g 620 (by decide +kernel) rfl, mem_g 621 (by decide +kernel) rfl, Lp.of (by decide +kernel)⟩
theorem vS_1059 : Ls RJ0 1059 yJ3_checkIndex_8e157 3 := ⟨mem_g 288 (by decide +kernel) rfl, mem_g 289 (by decide +kernel) rfl, Lp.of (by decide +kernel)⟩
theorem vT_9 : Ls RJ1 9 yJ0_checkIndex_df160 2 := ⟨mem_g 283 (by decide +kernel) rfl, mem_g 284 (by decide +kernel) rfl, Lp.of (by decide +kernel)⟩
theorem vT_88 : Ls RJ1 88 yJ1_canEncode_9a6ad 1 := ⟨mem_g 623 (by decide +kernel) rfl, mem_g 624 (by decide +kernel) rfl, Lp.of (by decide +kernel)⟩
theorem vT_95 : Ls RJ1 95 yJ1_indexOfChar_4cfef 4 := ⟨mem_g 630 (by decide +kernel) rfl, mem_g 631 (by decide +kernel) rfl, Lp.of (by decide +kernel)⟩
theorem vT_92 : Cond.methodLink RJ1 92 Lib.Math.max.name ∈ gtbl := mem_g 626 (by decide +kernel) rfl
theorem vT_38 : Cond.methodLink RJ1 38 Lib.Math.min.name ∈ gtbl := mem_g 629 (by decide +kernel) rfl
theorem fS_9 : Cond.fieldLink RJ0 9 "java/lang/String" "value" "[B" ∈ gtbl := mem_g 1967 (by decide +kernel) rfl
theorem fS_15 : Cond.fieldLink RJ0 15 "java/lang/String" "coder" "B" ∈ gtbl := mem_g 1966 (by decide +kernel) rfl
theorem fS_38 : Cond.fieldLink RJ0 38 "java/lang/String" "COMPACT_STRINGS" "Z" ∈ gtbl := mem_g 278 (by decide +kernel) rfl
theorem fS_1053 : Cond.fieldLink RJ0 1053 "jdk/internal/util/Preconditions" "SIOOBE_FORMATTER" "Ljava/util/function/BiFunction;" ∈ gtbl := mem_g 286 (by decide +kernel) rfl
section RowsS
variable {l : Launch} {G : GG} {d mc ms kc ks pc npc : Nat} {M : MD} {L st : List Value} {h h1 h' : Hp} {r r1 : Option Value} {n i j : Nat} {Q : Option Value → Hp → Prop}
theorem go_ldcS {tx : String} (hc : lk M pc = some (.ldc i, npc, 2)) (hq : (M.1.cls, i, tx, j) ∈ strs) (kk : Go l G d mc ms M kc ks npc L (.retAddr j :: st) h r h') : Go l G d mc ms M kc ks pc L st h r h' := by
  intro p e s m args below meth c ls H locs C hL hH hlc
  obtain ⟨hd, rfl⟩ := C.dec hc
  have hx := C.1
  have hb := C.2.1
  have hts : ∀ w ∈ gtbl, w.before args s = true := fun w hw => C.word hw
  have hown : s.vm.findClass M.1.cls = some m.cls := C.2.2.2.2.2.1
  have hK : KX G s := C.2.2.2.2.2.2.2.1
  have hZ : ZX G s := hK.2.2.2
  have hbase : ∀ a : Nat, a < (gH G).size → ¬ gB G ≤ a → H[a]? = (gH G)[a]? := fun a _ q => hH.2.1 a (Nat.lt_of_not_le q)
  exact va_ldcS hx hb hown (hZ.2.1 _ hq) hd (kk p e s m args below meth c ls H locs C hL hH hlc)
theorem go_aload_nS {q : Fin 4} {x : Nat} (hc : lk M pc = some (.aload_n q, npc, 1)) (hl : L[(q : Nat)]? = some (.retAddr x)) (kk : Go l G d mc ms M kc ks npc L (.retAddr x :: st) h r h') : Go l G d mc ms M kc ks pc L st h r h' := by
  intro p e s m args below meth c ls H locs C hL hH hlc
  obtain ⟨hd, rfl⟩ := C.dec hc
  have hx := C.1
  have hb := C.2.1
  have hts : ∀ w ∈ gtbl, w.before args s = true := fun w hw => C.word hw
  have hown : s.vm.findClass M.1.cls = some m.cls := C.2.2.2.2.2.1
  have hK : KX G s := C.2.2.2.2.2.2.2.1
  have hZ : ZX G s := hK.2.2.2
  have hbase : ∀ a : Nat, a < (gH G).size → ¬ gB G ≤ a → H[a]? = (gH G)[a]? := fun a _ q => hH.2.1 a (Nat.lt_of_not_le q)
  exact lv_aload_n hx hb hd rfl (hL.2.2 (q : Nat) _ hl (fun z => by cases z)) (kk p e s m args below meth c ls H locs C hL hH hlc)
theorem go_getSv (hj : j < 5) (hc : lk M pc = some (.getfield i, npc, 3)) (hlk : Cond.fieldLink M.1.cls i "java/lang/String" "value" "[B" ∈ gtbl) (kk : Go l G d mc ms M kc ks npc L (.retAddr (10 + j) :: st) h r h') : Go l G d mc ms M kc ks pc L (.retAddr j :: st) h r h' := by
  intro p e s m args below meth c ls H locs C hL hH hlc
  obtain ⟨hd, rfl⟩ := C.dec hc
  have hx := C.1
  have hb := C.2.1
  have hts : ∀ w ∈ gtbl, w.before args s = true := fun w hw => C.word hw
  have hown : s.vm.findClass M.1.cls = some m.cls := C.2.2.2.2.2.1
  have hK : KX G s := C.2.2.2.2.2.2.2.1
  have hZ : ZX G s := hK.2.2.2
  have hbase : ∀ a : Nat, a < (gH G).size → ¬ gB G ≤ a → H[a]? = (gH G)[a]? := fun a _ q => hH.2.1 a (Nat.lt_of_not_le q)
  obtain ⟨cf, k, fi, f, cell, h1, h2, h3, h4, h5, h6⟩ := (hZ.1.1 j hj).2.2.1.kept hbase
  exact W.getf hx hb hown (hts _ hlk) h1 h2 h3 h4 (v := .ref (gA G (10 + j))) h5 rfl rfl hd (kk p e s m args below meth c ls H locs C hL hH hlc)
theorem go_getSc (hj : j < 5) (hc : lk M pc = some (.getfield i, npc, 3)) (hlk : Cond.fieldLink M.1.cls i "java/lang/String" "coder" "B" ∈ gtbl) (kk : Go l G d mc ms M kc ks npc L (.int 0 :: st) h r h') : Go l G d mc ms M kc ks pc L (.retAddr j :: st) h r h' := by
  intro p e s m args below meth c ls H locs C hL hH hlc
  obtain ⟨hd, rfl⟩ := C.dec hc
  have hx := C.1
  have hb := C.2.1
  have hts : ∀ w ∈ gtbl, w.before args s = true := fun w hw => C.word hw
  have hown : s.vm.findClass M.1.cls = some m.cls := C.2.2.2.2.2.1
  have hK : KX G s := C.2.2.2.2.2.2.2.1
  have hZ : ZX G s := hK.2.2.2
  have hbase : ∀ a : Nat, a < (gH G).size → ¬ gB G ≤ a → H[a]? = (gH G)[a]? := fun a _ q => hH.2.1 a (Nat.lt_of_not_le q)
  obtain ⟨cf, k, fi, f, cell, h1, h2, h3, h4, h5, h6⟩ := (hZ.1.1 j hj).2.1.kept hbase
  exact W.getf hx hb hown (hts _ hlk) h1 h2 h3 h4 (v := .int 0) h5 rfl rfl hd (kk p e s m args below meth c ls H locs C hL hH hlc)
theorem go_getsC (hc : lk M pc = some (.getstatic i, npc, 3)) (hlk : Cond.fieldLink M.1.cls i "java/lang/String" "COMPACT_STRINGS" "Z" ∈ gtbl) (kk : Go l G d mc ms M kc ks npc L (.int 1 :: st) h r h') : Go l G d mc ms M kc ks pc L st h r h' := by
  intro p e s m args below meth c ls H locs C hL hH hlc
  obtain ⟨hd, rfl⟩ := C.dec hc
  have hx := C.1
  have hb := C.2.1
  have hts : ∀ w ∈ gtbl, w.before args s = true := fun w hw => C.word hw
  have hown : s.vm.findClass M.1.cls = some m.cls := C.2.2.2.2.2.1
  have hK : KX G s := C.2.2.2.2.2.2.2.1
  have hZ : ZX G s := hK.2.2.2
  have hbase : ∀ a : Nat, a < (gH G).size → ¬ gB G ≤ a → H[a]? = (gH G)[a]? := fun a _ q => hH.2.1 a (Nat.lt_of_not_le q)
  obtain ⟨cf, kf, fi, f, a, cell, h1, h2, h3, h4, h5, h6, h7, h8⟩ := hZ.2.2.1.kept hbase
  exact W.gets hx hb hown (hts _ hlk) h1 h2 h3 h4 h5 (fun e => by rw [e] at h6; cases h6) h7 rfl hd (kk p e s m args below meth c ls H locs C hL hH hlc)
theorem go_getsF (hc : lk M pc = some (.getstatic i, npc, 3)) (hlk : Cond.fieldLink M.1.cls i "jdk/internal/util/Preconditions" "SIOOBE_FORMATTER" "Ljava/util/function/BiFunction;" ∈ gtbl) (k1 : Go l G d mc ms M kc ks npc L (.null :: st) h r h') (k2 : Go l G d mc ms M kc ks npc L (.retAddr 50 :: st) h r h') : Go l G d mc ms M kc ks pc L st h r h' := by
  intro p e s m args below meth c ls H locs C hL hH hlc
  obtain ⟨hd, rfl⟩ := C.dec hc
  have hx := C.1
  have hb := C.2.1
  have hts : ∀ w ∈ gtbl, w.before args s = true := fun w hw => C.word hw
  have hown : s.vm.findClass M.1.cls = some m.cls := C.2.2.2.2.2.1
  have hK : KX G s := C.2.2.2.2.2.2.2.1
  have hZ : ZX G s := hK.2.2.2
  have hbase : ∀ a : Nat, a < (gH G).size → ¬ gB G ≤ a → H[a]? = (gH G)[a]? := fun a _ q => hH.2.1 a (Nat.lt_of_not_le q)
  rcases hZ.2.2.2.2.2.2.2.2 with z | z
  · obtain ⟨cf, kf, fi, f, a, cell, h1, h2, h3, h4, h5, h6, h7, h8⟩ := z.kept hbase
    exact W.gets hx hb hown (hts _ hlk) h1 h2 h3 h4 h5 (fun e => by rw [e] at h6; cases h6) h7 rfl hd (k1 p e s m args below meth c ls H locs C hL hH hlc)
  · obtain ⟨cf, kf, fi, f, a, cell, h1, h2, h3, h4, h5, h6, h7, h8⟩ := z.kept hbase
    exact W.gets hx hb hown (hts _ hlk) h1 h2 h3 h4 h5 (fun e => by rw [e] at h6; cases h6) h7 rfl hd (k2 p e s m args below meth c ls H locs C hL hH hlc)
theorem go_alenS (hj : j < 5) (hc : lk M pc = some (.arraylength, npc, 1)) (kk : Go l G d mc ms M kc ks npc L (.int (nI (lenS.getD j 0)) :: st) h r h') : Go l G d mc ms M kc ks pc L (.retAddr (10 + j) :: st) h r h' := by
  intro p e s m args below meth c ls H locs C hL hH hlc
  obtain ⟨hd, rfl⟩ := C.dec hc
  have hx := C.1
  have hb := C.2.1
  have hts : ∀ w ∈ gtbl, w.before args s = true := fun w hw => C.word hw
  have hown : s.vm.findClass M.1.cls = some m.cls := C.2.2.2.2.2.1
  have hK : KX G s := C.2.2.2.2.2.2.2.1
  have hZ : ZX G s := hK.2.2.2
  have hbase : ∀ a : Nat, a < (gH G).size → ¬ gB G ≤ a → H[a]? = (gH G)[a]? := fun a _ q => hH.2.1 a (Nat.lt_of_not_le q)
  obtain ⟨cell, h1, h2, h3, h4, h5, h6, h7⟩ := (hZ.1.1 j hj).2.2.2.kept hbase
  exact W.alen (n := Int32.ofNat (lenS.getD j 0)) hx hb h1 h2 h5 rfl rfl hd (kk p e s m args below meth c ls H locs C hL hH hlc)
theorem go_baloadS {k : Nat} (hj : j < 5) (hk : k < lenS.getD j 0) (hk2 : k < 2 ^ 31) (hc : lk M pc = some (.baload, npc, 1)) (kk : Go l G d mc ms M kc ks npc L (.int ((bytS.getD j []).getD k 0) :: st) h r h') : Go l G d mc ms M kc ks pc L (.int (nI k) :: .retAddr (10 + j) :: st) h r h' := by
  intro p e s m args below meth c ls H locs C hL hH hlc
  obtain ⟨hd, rfl⟩ := C.dec hc
  have hx := C.1
  have hb := C.2.1
  have hts : ∀ w ∈ gtbl, w.before args s = true := fun w hw => C.word hw
  have hown : s.vm.findClass M.1.cls = some m.cls := C.2.2.2.2.2.1
  have hK : KX G s := C.2.2.2.2.2.2.2.1
  have hZ : ZX G s := hK.2.2.2
  have hbase : ∀ a : Nat, a < (gH G).size → ¬ gB G ≤ a → H[a]? = (gH G)[a]? := fun a _ q => hH.2.1 a (Nat.lt_of_not_le q)
  obtain ⟨cell, h1, h2, h3, h4, h5, h6, h7⟩ := (hZ.1.1 j hj).2.2.2.kept hbase
  have hin' : ¬ (nI k < 0 ∨ cell.slots.size ≤ (nI k).toNatClampNeg) := by
    rw [nI_clamp (by omega)]
    intro q
    rcases q with q | q
    · exact nI_pos (by omega) q
    · omega
  exact W.bald (v := .int ((bytS.getD j []).getD k 0)) hx hb h1 h2 h3 hin' (by rw [nI_clamp (by omega), h6 _ hk]) rfl rfl hd (kk p e s m args below meth c ls H locs C hL hH hlc)
theorem go_pop {v : Value} (hc : lk M pc = some (.pop, npc, 1)) (hv : v.category = 1) (kk : Go l G d mc ms M kc ks npc L st h r h') : Go l G d mc ms M kc ks pc L (v :: st) h r h' := by
  intro p e s m args below meth c ls H locs C hL hH hlc
  obtain ⟨hd, rfl⟩ := C.dec hc
  have hx := C.1
  have hb := C.2.1
  have hts : ∀ w ∈ gtbl, w.before args s = true := fun w hw => C.word hw
  have hown : s.vm.findClass M.1.cls = some m.cls := C.2.2.2.2.2.1
  have hK : KX G s := C.2.2.2.2.2.2.2.1
  have hZ : ZX G s := hK.2.2.2
  have hbase : ∀ a : Nat, a < (gH G).size → ¬ gB G ≤ a → H[a]? = (gH G)[a]? := fun a _ q => hH.2.1 a (Nat.lt_of_not_le q)
  exact lv_pop hx hb hd (by rw [tv_cat]; exact hv) (kk p e s m args below meth c ls H locs C hL hH hlc)
theorem go_nret {v : Int32} {ty : FieldType} (hc : lk M pc = some (.ireturn, npc, 1)) (hr : M.2.2.2.1 = some ty) (hn : narrow ty (.int v) = .int v) (e1 : some (.int v) = r) (e2 : h = h') : Go l G d mc ms M mc ms pc L [.int v] h r h' := by
  subst e1; subst e2
  intro p e s m args below meth c ls H locs C hL hH hlc
  obtain ⟨hd, -⟩ := C.dec hc
  have hx := C.1
  have hb := C.2.1
  have hts : ∀ w ∈ gtbl, w.before args s = true := fun w hw => C.word hw
  have hown : s.vm.findClass M.1.cls = some m.cls := C.2.2.2.2.2.1
  have hK : KX G s := C.2.2.2.2.2.2.2.1
  have hZ : ZX G s := hK.2.2.2
  have hbase : ∀ a : Nat, a < (gH G).size → ¬ gB G ≤ a → H[a]? = (gH G)[a]? := fun a _ q => hH.2.1 a (Nat.lt_of_not_le q)
  exact W.zret (v := v) hx hb (C.2.2.1.trans hr) hn (fun t ht hW => ⟨rfl, by rw [ht]; exact hH⟩) hlc hd C.2.2.2.2.2.2.1
theorem go_callVS {M2 : MD} {as stk : List Value} {mc1 ms1 : Nat} (hj : j < 5) (hc : lk M pc = some (.invokevirtual i, npc, 3)) (hl : Lv M.1.cls i M2.1 n) (hM2 : MOk M2) (hct : Ct l G d mc1 ms1 M2 (.retAddr j :: as) h r1 h1) (hstk : stk = as.reverse ++ .retAddr j :: st) (hs : M2.1.cls = "java/lang/String") (hn : as.length = n) (hst : Nat.ble (st.map fun v => v.category).sum 8 = true) (hmc : kc + mc1 ≤ mc) (hms : ks + ms1 ≤ ms) (kk : Go l G (d + 1) mc ms M (kc + mc1) (ks + ms1) npc L (r1.toList ++ st) h1 r h') : Go l G (d + 1) mc ms M kc ks pc L stk h r h' := by
  have h3 := hct
  intro p e s m args below meth c ls H locs C hL hH hlc
  obtain ⟨hd, -⟩ := C.dec hc
  have hx := C.1
  have hb := C.2.1
  have hts : ∀ w ∈ gtbl, w.before args s = true := fun w hw => C.word hw
  have hown : s.vm.findClass M.1.cls = some m.cls := C.2.2.2.2.2.1
  have hK : KX G s := C.2.2.2.2.2.2.2.1
  have hZ : ZX G s := hK.2.2.2
  have hbase : ∀ a : Nat, a < (gH G).size → ¬ gB G ≤ a → H[a]? = (gH G)[a]? := fun a _ q => hH.2.1 a (Nat.lt_of_not_le q)
  have hml : c.maxLocals = M.2.2.1 := C.2.2.2.1
  have hpc : npc = pc + 3 := (C.dec hc).2
  have hroom : (rmm d mc1 ms1).frames + 1 ≤ (rmm (d + 1) mc ms).frames ∧ 8 + (M2.2.2.1 + 11) + (rmm d mc1 ms1).locals ≤ (rmm (d + 1) mc ms).locals := by
    have h40 : M2.2.2.1 ≤ 40 := hM2.2.2.2.2.1
    exact ⟨Nat.le_refl _, by show 8 + (M2.2.2.1 + 11) + 64 * d ≤ 64 * (d + 1); omega⟩
  have hW : 2 * (F0 m pc ls (stk.map (tv G))).monitorRoom + ((st.map (tv G)).map fun v => v.category).sum ≤ 8 := lv_room (by rw [cat_sum]; exact Nat.ble_eq.mp hst)
  obtain ⟨cell, q1, q2, q3, -⟩ := (hZ.1.1 j hj).1.kept hbase
  have hrecv : ∃ cellB : Cell, H[gA G j]? = some cellB ∧ cellB.vm.isStatics = false ∧ s.vm.findClass M2.1.cls = some cellB.cls := ⟨cell, q1, q2, by rw [hs]; exact q3⟩
  have run := va_runV (e := e) (meth := meth) (locs := locs) (cells := kc) (slots := ks) (rest := st.map (tv G)) (As := as.map (tv G)) (b := gA G j) (R := rmm (d + 1) mc ms) (H := H) (below := below) (n := n) (C := M2.1.cls) (bytes := M2.2.1) (maxL := M2.2.2.1) (ret := M2.2.2.2.1) (g := F0 m pc ls (stk.map (tv G))) (Ts := gtbl) (nL := M.2.2.1) ⟨hx, hb, hml, hown, hts⟩ h3
    ⟨⟨rfl, rfl, hroom.1, hroom.2, pay_g hts hM2, List.mem_cons_self, hts _ hM2.2.1, hts _ hM2.2.2.1, hM2.2.2.2.1, hl.2.2.2, hts _ hl.1⟩, hts _ hl.2.1, hts _ hl.2.2.1⟩
    ⟨blind G h _, hrecv, fun U hU hW2 => ⟨rfl, by rw [hU]; exact hH, KX.warm hW2 hK⟩⟩ rfl (by rw [List.length_map]; exact hn) hL.1
    (by subst hstk; simp [tv]) hW hd ⟨hmc, hms⟩
  exact go_runs run C hL hlc hpc kk
theorem e_ldcS {tx : String} (hc : lk M pc = some (.ldc i, npc, 2)) (hq : (M.1.cls, i, tx, j) ∈ strs) (kk : Gw l G d M npc L (.retAddr j :: st) h Q) : Gw l G d M pc L st h Q := by
  obtain ⟨r, h', kk, q⟩ := kk
  exact ⟨r, h', go_ldcS hc hq kk, q⟩
theorem e_aload_nS {q : Fin 4} {x : Nat} (hc : lk M pc = some (.aload_n q, npc, 1)) (hl : L[(q : Nat)]? = some (.retAddr x)) (kk : Gw l G d M npc L (.retAddr x :: st) h Q) : Gw l G d M pc L st h Q := by
  obtain ⟨r, h', kk, q⟩ := kk
  exact ⟨r, h', go_aload_nS hc hl kk, q⟩
theorem e_getSv (hj : j < 5) (hc : lk M pc = some (.getfield i, npc, 3)) (hlk : Cond.fieldLink M.1.cls i "java/lang/String" "value" "[B" ∈ gtbl) (kk : Gw l G d M npc L (.retAddr (10 + j) :: st) h Q) : Gw l G d M pc L (.retAddr j :: st) h Q := by
  obtain ⟨r, h', kk, q⟩ := kk
  exact ⟨r, h', go_getSv hj hc hlk kk, q⟩
theorem e_getSc (hj : j < 5) (hc : lk M pc = some (.getfield i, npc, 3)) (hlk : Cond.fieldLink M.1.cls i "java/lang/String" "coder" "B" ∈ gtbl) (kk : Gw l G d M npc L (.int 0 :: st) h Q) : Gw l G d M pc L (.retAddr j :: st) h Q := by
  obtain ⟨r, h', kk, q⟩ := kk
  exact ⟨r, h', go_getSc hj hc hlk kk, q⟩
theorem e_getsC (hc : lk M pc = some (.getstatic i, npc, 3)) (hlk : Cond.fieldLink M.1.cls i "java/lang/String" "COMPACT_STRINGS" "Z" ∈ gtbl) (kk : Gw l G d M npc L (.int 1 :: st) h Q) : Gw l G d M pc L st h Q := by
  obtain ⟨r, h', kk, q⟩ := kk
  exact ⟨r, h', go_getsC hc hlk kk, q⟩
theorem e_alenS (hj : j < 5) (hc : lk M pc = some (.arraylength, npc, 1)) (kk : Gw l G d M npc L (.int (nI (lenS.getD j 0)) :: st) h Q) : Gw l G d M pc L (.retAddr (10 + j) :: st) h Q := by
  obtain ⟨r, h', kk, q⟩ := kk
  exact ⟨r, h', go_alenS hj hc kk, q⟩
theorem e_baloadS {k : Nat} (hj : j < 5) (hk : k < lenS.getD j 0) (hk2 : k < 2 ^ 31) (hc : lk M pc = some (.baload, npc, 1)) (kk : Gw l G d M npc L (.int ((bytS.getD j []).getD k 0) :: st) h Q) : Gw l G d M pc L (.int (nI k) :: .retAddr (10 + j) :: st) h Q := by
  obtain ⟨r, h', kk, q⟩ := kk
  exact ⟨r, h', go_baloadS hj hk hk2 hc kk, q⟩
theorem e_pop {v : Value} (hc : lk M pc = some (.pop, npc, 1)) (hv : v.category = 1) (kk : Gw l G d M npc L st h Q) : Gw l G d M pc L (v :: st) h Q := by
  obtain ⟨r, h', kk, q⟩ := kk
  exact ⟨r, h', go_pop hc hv kk, q⟩
theorem e_nret {v : Int32} {ty : FieldType} (hc : lk M pc = some (.ireturn, npc, 1)) (hr : M.2.2.2.1 = some ty) (hn : narrow ty (.int v) = .int v) (q : Q (some (.int v)) h) : Gw l G d M pc L [.int v] h Q := ⟨_, _, go_nret hc hr hn rfl rfl, q⟩
theorem e_callVSp {M2 : MD} {as stk : List Value} {v : Value} (hj : j < 5) (hc : lk M pc = some (.invokevirtual i, npc, 3)) (hl : Lv M.1.cls i M2.1 n) (hM2 : MOk M2) (hct : Cp l G d M2 (.retAddr j :: as) h v) (hstk : stk = as.reverse ++ .retAddr j :: st) (hs : M2.1.cls = "java/lang/String") (hn : as.length = n) (hst : Nat.ble (st.map fun v => v.category).sum 8 = true) (kk : Gw l G (d + 1) M npc L (v :: st) h Q) : Gw l G (d + 1) M pc L stk h Q := by
  obtain ⟨r, h', kk, q⟩ := kk
  exact ⟨r, h', go_callVS (mc1 := 0) (ms1 := 0) hj hc hl hM2 hct hstk hs hn hst (Nat.le_refl _) (Nat.le_refl _) kk, q⟩
end RowsS
section TextM
variable {l : Launch} {G : GG} {d : Nat} {h : Hp} {Q : Option Value → Hp → Prop} {j : Nat}
theorem cS_isLatin1 (hj : j < 5) : Cp l G d mS_isLatin1 [.retAddr j] h (.int 1) := by
  refine Cp.of okS_isLatin1 rfl (rfl : argL _ _ = [.retAddr j]) ?_
  refine e_getsC rfl fS_38 ?_
  refine e_if_eq (tgt := 17) rfl rfl (fun z => absurd z (by decide)) (fun _ => ?_)
  refine e_aload_nS rfl rfl ?_
  refine e_getSc hj rfl fS_15 ?_
  refine e_if_ne (tgt := 17) rfl rfl (fun z => absurd rfl z) (fun _ => ?_)
  refine e_iconst (v := 1) rfl (by decide) ?_
  refine e_goto (tgt := 18) rfl rfl ?_
  exact e_zreturn rfl rfl (Or.inr rfl) ⟨rfl, rfl⟩
theorem cS_coder (hj : j < 5) : Cp l G d mS_coder [.retAddr j] h (.int 0) := by
  refine Cp.of okS_coder rfl (rfl : argL _ _ = [.retAddr j]) ?_
  refine e_getsC rfl fS_38 ?_
  refine e_if_eq (tgt := 13) rfl rfl (fun z => absurd z (by decide)) (fun _ => ?_)
  refine e_aload_nS rfl rfl ?_
  refine e_getSc hj rfl fS_15 ?_
  refine e_goto (tgt := 14) rfl rfl ?_
  exact e_nret rfl rfl rfl ⟨rfl, rfl⟩
theorem sh0 {n : Nat} (hn : n < 2 ^ 31) : nI n >>> ((0 : Int32) &&& 31) = nI n := by
  rw [pk_shrN hn _ 0 (by decide), Nat.pow_zero, Nat.div_one]
theorem lenS_le : ∀ j, j < 5 → lenS.getD j 0 ≤ 126 := by decide
theorem cS_length (hj : j < 5) : Cp l G (d + 1) mS_length [.retAddr j] h (.int (nI (lenS.getD j 0))) := by
  refine Cp.of okS_length rfl (rfl : argL _ _ = [.retAddr j]) ?_
  refine e_aload_nS rfl rfl ?_
  refine e_getSv hj rfl fS_9 ?_
  refine e_alenS hj rfl ?_
  refine e_aload_nS rfl rfl ?_
  refine e_callVSp (M2 := mS_coder) hj rfl vS_335 okS_coder (cS_coder hj) rfl rfl rfl rfl ?_
  refine e_ishr rfl ?_
  rw [sh0 (by have := lenS_le j hj; omega)]
  exact e_ireturn rfl rfl ⟨rfl, rfl⟩
theorem cU_checkIndex {k n : Nat} {v : Value} (hk : k < n) (hn : n < 2 ^ 31) (hv : v = .null ∨ v = .retAddr 50) : Cp l G d mU_checkIndex [.int (nI k), .int (nI n), v] h (.int (nI k)) := by
  rcases hv with rfl | rfl
  · refine Cp.of okU_checkIndex rfl (rfl : argL _ _ = [.int (nI k), .int (nI n), .null]) ?_
    refine e_iload_n rfl rfl ?_
    refine e_if_ltN (tgt := 9) rfl rfl (by omega) ?_
    refine e_iload_n rfl rfl ?_
    refine e_iload_n rfl rfl ?_
    refine e_icmp_ltN (tgt := 16) rfl rfl (by omega) (by omega) (fun _ => ?_) (fun z => absurd z (by omega))
    refine e_iload_n rfl rfl ?_
    exact e_ireturn rfl rfl ⟨rfl, rfl⟩
  · refine Cp.of okU_checkIndex rfl (rfl : argL _ _ = [.int (nI k), .int (nI n), .retAddr 50]) ?_
    refine e_iload_n rfl rfl ?_
    refine e_if_ltN (tgt := 9) rfl rfl (by omega) ?_
    refine e_iload_n rfl rfl ?_
    refine e_iload_n rfl rfl ?_
    refine e_icmp_ltN (tgt := 16) rfl rfl (by omega) (by omega) (fun _ => ?_) (fun z => absurd z (by omega))
    refine e_iload_n rfl rfl ?_
    exact e_ireturn rfl rfl ⟨rfl, rfl⟩
theorem cS_checkIndex {k n : Nat} (hk : k < n) (hn : n < 2 ^ 31) : Cw l G (d + 1) mS_checkIndex [.int (nI k), .int (nI n)] h (fun r h' => r = none ∧ h' = h) := by
  have both : ∀ v : Value, (v = .null ∨ v = .retAddr 50) → Gw l G (d + 1) mS_checkIndex 5 [.int (nI k), .int (nI n)] [v, .int (nI n), .int (nI k)] h (fun r h' => r = none ∧ h' = h) := by
    intro v hv
    refine e_callSp (M2 := mU_checkIndex) (as := [.int (nI k), .int (nI n), v]) rfl vS_1059 okU_checkIndex (cU_checkIndex hk hn hv) rfl rfl rfl ?_
    refine e_pop rfl rfl ?_
    exact e_return rfl rfl ⟨rfl, rfl⟩
  refine Cw.of okS_checkIndex rfl (rfl : argL _ _ = [.int (nI k), .int (nI n)]) ?_
  refine e_iload_n rfl rfl ?_
  refine e_iload_n rfl rfl ?_
  obtain ⟨r1, h1, g1, rfl, rfl⟩ := both .null (Or.inl rfl)
  obtain ⟨r2, h2, g2, rfl, rfl⟩ := both (.retAddr 50) (Or.inr rfl)
  exact ⟨none, _, go_getsF rfl fS_1053 g1 g2, rfl, rfl⟩
/-- a letter of a text -/
def chS (j k : Nat) : Int32 := (((bytS.getD j []).getD k 0 &&& nI 255).toUInt32 % 65536).toInt32
theorem chS_nar (x : Int32) : narrow .char (.int (x.toUInt32 % 65536).toInt32) = .int (x.toUInt32 % 65536).toInt32 := by
  show Value.int (x.toUInt32 % 65536).toUInt16.toUInt32.toInt32 = Value.int _
  congr 2
  rw [← UInt32.toNat_inj]
  simp
theorem cT_charAt {k : Nat} (hj : j < 5) (hk : k < lenS.getD j 0) : Cp l G (d + 2) mT_charAt [.retAddr (10 + j), .int (nI k)] h (.int (chS j k)) := by
  have h126 := lenS_le j hj
  refine Cp.of okT_charAt rfl (rfl : argL _ _ = [.retAddr (10 + j), .int (nI k)]) ?_
  refine e_iload_n rfl rfl ?_
  refine e_aload_nS rfl rfl ?_
  refine e_alenS hj rfl ?_
  refine e_callS (M2 := mS_checkIndex) (as := [.int (nI k), .int (nI (lenS.getD j 0))]) rfl vT_9 okS_checkIndex (cS_checkIndex hk (by omega)) rfl rfl rfl (fun r1 h1 q1 => ?_)
  obtain ⟨rfl, rfl⟩ := q1
  refine e_aload_nS rfl rfl ?_
  refine e_iload_n rfl rfl ?_
  refine e_baloadS hj hk (by omega) rfl ?_
  refine e_sipush (v := nI 255) rfl sp_255N ?_
  refine e_iand rfl ?_
  refine e_i2c rfl ?_
  exact e_nret rfl rfl (chS_nar _) ⟨rfl, rfl⟩
theorem cS_charAt {k : Nat} (hj : j < 5) (hk : k < lenS.getD j 0) : Cp l G (d + 3) mS_charAt [.retAddr j, .int (nI k)] h (.int (chS j k)) := by
  refine Cp.of okS_charAt rfl (rfl : argL _ _ = [.retAddr j, .int (nI k)]) ?_
  refine e_aload_nS rfl rfl ?_
  refine e_callVSp (M2 := mS_isLatin1) hj rfl vS_492 okS_isLatin1 (cS_isLatin1 hj) rfl rfl rfl rfl ?_
  refine e_if_eq (tgt := 16) rfl rfl (fun z => absurd z (by decide)) (fun _ => ?_)
  refine e_aload_nS rfl rfl ?_
  refine e_getSv hj rfl fS_9 ?_
  refine e_iload_n rfl rfl ?_
  refine e_callSp (M2 := mT_charAt) (as := [.retAddr (10 + j), .int (nI k)]) rfl vS_495 okT_charAt (cT_charAt hj hk) rfl rfl rfl ?_
  exact e_nret rfl rfl (chS_nar _) ⟨rfl, rfl⟩
theorem cT_canEncode {n : Nat} (hn : n < 256) : Cp l G d mT_canEncode [.int (nI n)] h (.int 1) := by
  refine Cp.of okT_canEncode rfl (rfl : argL _ _ = [.int (nI n)]) ?_
  refine e_iload_n rfl rfl ?_
  refine e_if_ltN (tgt := 15) rfl rfl (by omega) ?_
  refine e_iload_n rfl rfl ?_
  refine e_sipush (v := nI 255) rfl sp_255N ?_
  refine e_icmp_gtN (tgt := 15) rfl rfl (by omega) (by omega) (fun z => absurd z (by omega)) (fun _ => ?_)
  refine e_iconst (v := 1) rfl (by decide) ?_
  refine e_goto (tgt := 16) rfl rfl ?_
  exact e_zreturn rfl rfl (Or.inr rfl) ⟨rfl, rfl⟩
theorem b_small : ∀ n, n < 128 → (nI n).toInt8.toInt32 = nI n := by decide
theorem ixc_loop {n : Nat} (hj : j < 5) {v1 v2 : Int32} : ∀ k i, i + k = lenS.getD j 0 → Q (some (.int (fnd (fun q => (bytS.getD j []).getD q 0) (nI n) k i))) h → Gw l G d mT_indexOfChar 7 [.retAddr (10 + j), .int v1, .int v2, .int (nI (lenS.getD j 0)), .int (nI n), .int (nI i)] [] h Q := by
  have h126 := lenS_le j hj
  intro k
  induction k with
  | zero =>
    intro i hi hq
    refine e_iload rfl rfl ?_
    refine e_iload_n rfl rfl ?_
    refine e_icmp_geN (tgt := 31) rfl rfl (by omega) (by omega) (fun _ => ?_) (fun z => absurd z (by omega))
    refine e_iconst rfl ic_m1 ?_
    exact e_ireturn rfl rfl hq
  | succ k ih =>
    intro i hi hq
    rw [fnd] at hq
    refine e_iload rfl rfl ?_
    refine e_iload_n rfl rfl ?_
    refine e_icmp_geN (tgt := 31) rfl rfl (by omega) (by omega) (fun z => absurd z (by omega)) (fun _ => ?_)
    refine e_aload_nS rfl rfl ?_
    refine e_iload rfl rfl ?_
    refine e_baloadS hj (by omega) (by omega) rfl ?_
    refine e_iload rfl rfl ?_
    refine e_icmp_ne (tgt := 25) rfl rfl (fun z => ?_) (fun z => ?_)
    · rw [if_neg z] at hq
      refine e_inc5 rfl rfl rfl (incN1 _) ?_
      refine e_goto (tgt := 7) rfl rfl ?_
      exact ih (i + 1) (by omega) hq
    · rw [if_pos z] at hq
      refine e_iload rfl rfl ?_
      exact e_ireturn rfl rfl hq
theorem cT_indexOfChar {n : Nat} (hj : j < 5) (hn : n < 128) : Cp l G d mT_indexOfChar [.retAddr (10 + j), .int (nI n), .int (nI 0), .int (nI (lenS.getD j 0))] h (.int (fnd (fun q => (bytS.getD j []).getD q 0) (nI n) (lenS.getD j 0) 0)) := by
  refine Cp.of okT_indexOfChar rfl (rfl : argL _ _ = [.retAddr (10 + j), .int (nI n), .int (nI 0), .int (nI (lenS.getD j 0)), .null, .null]) ?_
  refine e_iload_n rfl rfl ?_
  refine e_i2b rfl ?_
  rw [b_small n hn]
  refine e_ist4 rfl rfl rfl ?_
  refine e_iload_n rfl rfl ?_
  refine e_ist5 rfl rfl rfl ?_
  exact ixc_loop hj (lenS.getD j 0) 0 (by omega) ⟨rfl, rfl⟩
theorem lenS_pos : ∀ j, j < 5 → 0 < lenS.getD j 0 := by decide
theorem cT_indexOf {n : Nat} (hj : j < 5) (hn : n < 128) : Cp l G (d + 1) mT_indexOf [.retAddr (10 + j), .int (nI n), .int (nI 0), .int (nI (lenS.getD j 0))] h (.int (fnd (fun q => (bytS.getD j []).getD q 0) (nI n) (lenS.getD j 0) 0)) := by
  have h126 := lenS_le j hj
  have h0 := lenS_pos j hj
  refine Cp.of okT_indexOf rfl (rfl : argL _ _ = [.retAddr (10 + j), .int (nI n), .int (nI 0), .int (nI (lenS.getD j 0))]) ?_
  refine e_iload_n rfl rfl ?_
  refine e_callSp (M2 := mT_canEncode) (as := [.int (nI n)]) rfl vT_88 okT_canEncode (cT_canEncode (by omega)) rfl rfl rfl ?_
  refine e_if_ne (tgt := 9) rfl rfl (fun _ => ?_) (fun z => absurd z (by decide))
  refine e_iload_n rfl rfl ?_
  refine e_iconst (v := nI 0) rfl ic_0N ?_
  refine e_max rfl vT_92 rfl ?_
  rw [show (if nI 0 < nI 0 then nI 0 else nI 0) = nI 0 by decide]
  refine e_ist2 rfl rfl rfl ?_
  refine e_iload_n rfl rfl ?_
  refine e_aload_nS rfl rfl ?_
  refine e_alenS hj rfl ?_
  refine e_min rfl vT_38 rfl ?_
  rw [if_neg (Int32.lt_irrefl)]
  refine e_ist3 rfl rfl rfl ?_
  refine e_iload_n rfl rfl ?_
  refine e_iload_n rfl rfl ?_
  refine e_icmp_ltN (tgt := 29) rfl rfl (by omega) (by omega) (fun _ => ?_) (fun z => absurd z (by omega))
  refine e_aload_nS rfl rfl ?_
  refine e_iload_n rfl rfl ?_
  refine e_iload_n rfl rfl ?_
  refine e_iload_n rfl rfl ?_
  refine e_callSp (M2 := mT_indexOfChar) (as := [.retAddr (10 + j), .int (nI n), .int (nI 0), .int (nI (lenS.getD j 0))]) rfl vT_95 okT_indexOfChar (cT_indexOfChar hj hn) rfl rfl rfl ?_
  exact e_ireturn rfl rfl ⟨rfl, rfl⟩
theorem cS_indexOf2 {n : Nat} (hj : j < 5) (hn : n < 128) : Cp l G (d + 2) mS_indexOf2 [.retAddr j, .int (nI n), .int (nI 0)] h (.int (fnd (fun q => (bytS.getD j []).getD q 0) (nI n) (lenS.getD j 0) 0)) := by
  refine Cp.of okS_indexOf2 rfl (rfl : argL _ _ = [.retAddr j, .int (nI n), .int (nI 0)]) ?_
  refine e_aload_nS rfl rfl ?_
  refine e_callVSp (M2 := mS_isLatin1) hj rfl vS_492 okS_isLatin1 (cS_isLatin1 hj) rfl rfl rfl rfl ?_
  refine e_if_eq (tgt := 23) rfl rfl (fun z => absurd z (by decide)) (fun _ => ?_)
  refine e_aload_nS rfl rfl ?_
  refine e_getSv hj rfl fS_9 ?_
  refine e_iload_n rfl rfl ?_
  refine e_iload_n rfl rfl ?_
  refine e_aload_nS rfl rfl ?_
  refine e_callVSp (M2 := mS_length) hj rfl vS_505 okS_length (cS_length hj) rfl rfl rfl rfl ?_
  refine e_callSp (M2 := mT_indexOf) (as := [.retAddr (10 + j), .int (nI n), .int (nI 0), .int (nI (lenS.getD j 0))]) rfl vS_637 okT_indexOf (cT_indexOf hj hn) rfl rfl rfl ?_
  refine e_goto (tgt := 36) rfl rfl ?_
  exact e_ireturn rfl rfl ⟨rfl, rfl⟩
theorem cS_indexOf {n : Nat} (hj : j < 5) (hn : n < 128) : Cp l G (d + 3) mS_indexOf [.retAddr j, .int (nI n)] h (.int (fnd (fun q => (bytS.getD j []).getD q 0) (nI n) (lenS.getD j 0) 0)) := by
  refine Cp.of okS_indexOf rfl (rfl : argL _ _ = [.retAddr j, .int (nI n)]) ?_
  refine e_aload_nS rfl rfl ?_
  refine e_iload_n rfl rfl ?_
  refine e_iconst (v := nI 0) rfl ic_0N ?_
  refine e_callVSp (M2 := mS_indexOf2) (as := [.int (nI n), .int (nI 0)]) hj rfl vS_633 okS_indexOf2 (cS_indexOf2 hj hn) rfl rfl rfl rfl ?_
  exact e_ireturn rfl rfl ⟨rfl, rfl⟩
end TextM
section RowsPu
variable {l : Launch} {G : GG} {d pc npc : Nat} {M : MD} {L st : List Value} {I : IM} {J : JM} {K : Kt} {Q : Option Value → Hp → Prop} {a k kd i : Nat}
/-- a field that holds a reference is set -/
theorem e_putP {b : Nat} {ty : FieldType} (hc : lk M pc = some (.putfield i, npc, 3)) (hf : Fl M.1.cls i kd k) (hs : (K.2.1 a).1 = kd) (hfin : (kT kd k).2.2.2 = false) (ht : kTy kd k = .array ty) (kk : Gw l G d M npc L st (I, J, (u2 K.1 a k (some b), K.2)) Q) : Gw l G d M pc L (.ref b :: .ref a :: st) (I, J, K) Q := by
  obtain ⟨r, h', kk, q⟩ := kk
  have hsty : sty kd k = 2 := by unfold sty; rw [if_pos hf.1, ht]
  exact ⟨r, h', go_putV (w := .ref b) (h2 := wP (I, J, K) a k (some b)) hc hf hs hfin (by rw [ht]; rfl) (by rw [ht]; rfl) rfl rfl (fun a' kd e => cv_wP_ne e _) (cv_wP hsty b) kk, q⟩
end RowsPu
