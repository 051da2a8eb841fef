theorem iniBC : Cond.initialized RJ6 ∈ gtbl := mem_g 128 (by decide +kernel) rfl
def mJ_bitCount : MD := (yJ6_bitCount_0f7a4, cJ6_bitCount_0f7a4, 1, (some (Jvm.ClassFile.FieldType.int)), [(0, .iload_n 0, 1, 1), (1, .iload_n 0, 2, 1), (2, .iconst 1, 3, 1), (3, .iushr, 4, 1), (4, .ldc_w 265, 7, 3), (7, .iand, 8, 1), (8, .isub, 9, 1), (9, .istore_n 0, 10, 1), (10, .iload_n 0, 11, 1), (11, .ldc_w 266, 14, 3), (14, .iand, 15, 1), (15, .iload_n 0, 16, 1), (16, .iconst 2, 17, 1), (17, .iushr, 18, 1), (18, .ldc_w 266, 21, 3), (21, .iand, 22, 1), (22, .iadd, 23, 1), (23, .istore_n 0, 24, 1), (24, .iload_n 0, 25, 1), (25, .iload_n 0, 26, 1), (26, .iconst 4, 27, 1), (27, .iushr, 28, 1), (28, .iadd, 29, 1), (29, .ldc_w 267, 32, 3), (32, .iand, 33, 1), (33, .istore_n 0, 34, 1), (34, .iload_n 0, 35, 1), (35, .iload_n 0, 36, 1), (36, .bipush 8, 38, 2), (38, .iushr, 39, 1), (39, .iadd, 40, 1), (40, .istore_n 0, 41, 1), (41, .iload_n 0, 42, 1), (42, .iload_n 0, 43, 1), (43, .bipush 16, 45, 2), (45, .iushr, 46, 1), (46, .iadd, 47, 1), (47, .istore_n 0, 48, 1), (48, .iload_n 0, 49, 1), (49, .bipush 63, 51, 2), (51, .iand, 52, 1), (52, .ireturn, 53, 1)])
theorem okJ_bitCount : MOk mJ_bitCount := ⟨by decide, mem_g 1151 (by decide +kernel) rfl, iniBC, ⟨by decide, by decide⟩, by decide, by unfold MDe; decide +kernel⟩
theorem kJ_265 : Cond.constant RJ6 265 (1431655765 : Int32) ∈ gtbl := mem_g 1152 (by decide +kernel) rfl
theorem kJ_266 : Cond.constant RJ6 266 (858993459 : Int32) ∈ gtbl := mem_g 1153 (by decide +kernel) rfl
theorem kJ_267 : Cond.constant RJ6 267 (252645135 : Int32) ∈ gtbl := mem_g 1154 (by decide +kernel) rfl
theorem v9_328 : Ls RX9 328 yJ6_bitCount_0f7a4 1 := ⟨mem_g 1149 (by decide +kernel) rfl, mem_g 1150 (by decide +kernel) rfl, Lp.of (by decide +kernel)⟩
def bc1 (x : Int32) : Int32 := (x - (((x).toUInt32 >>> ((nI 1).toUInt32 &&& Int32.toUInt32 31)).toInt32 &&& (1431655765 : Int32)))
def bc2 (x1 : Int32) : Int32 := ((x1 &&& (858993459 : Int32)) + (((x1).toUInt32 >>> ((nI 2).toUInt32 &&& Int32.toUInt32 31)).toInt32 &&& (858993459 : Int32)))
def bc3 (x2 : Int32) : Int32 := ((x2 + ((x2).toUInt32 >>> ((nI 4).toUInt32 &&& Int32.toUInt32 31)).toInt32) &&& (252645135 : Int32))
def bc4 (x3 : Int32) : Int32 := (x3 + ((x3).toUInt32 >>> ((nI 8).toUInt32 &&& Int32.toUInt32 31)).toInt32)
def bc5 (x4 : Int32) : Int32 := (x4 + ((x4).toUInt32 >>> ((nI 16).toUInt32 &&& Int32.toUInt32 31)).toInt32)
def bcF (x : Int32) : Int32 := (fun x5 => (x5 &&& nI 63)) ((bc5 (bc4 (bc3 (bc2 (bc1 x))))))
theorem cJ_bitCount {l : Launch} {G : GG} {d : Nat} {h : Hp} (x : Int32) : Cp l G d mJ_bitCount [.int x] h (.int (bcF x)) := by
  refine Cp.of okJ_bitCount rfl (rfl : argL _ _ = [.int x]) ?_
  refine e_iload_n rfl rfl ?_
  refine e_iload_n rfl rfl ?_
  refine e_iconst (v := nI 1) rfl ic_1N ?_
  refine e_iushr rfl ?_
  refine e_ldcw rfl kJ_265 ?_
  refine e_iand rfl ?_
  refine e_isub rfl ?_
  refine e_ist0 rfl rfl ?_
  refine e_iload_n rfl rfl ?_
  refine e_ldcw rfl kJ_266 ?_
  refine e_iand rfl ?_
  refine e_iload_n rfl rfl ?_
  refine e_iconst (v := nI 2) rfl ic_2N ?_
  refine e_iushr rfl ?_
  refine e_ldcw rfl kJ_266 ?_
  refine e_iand rfl ?_
  refine e_iadd rfl ?_
  refine e_ist0 rfl rfl ?_
  refine e_iload_n rfl rfl ?_
  refine e_iload_n rfl rfl ?_
  refine e_iconst (v := nI 4) rfl ic_4N ?_
  refine e_iushr rfl ?_
  refine e_iadd rfl ?_
  refine e_ldcw rfl kJ_267 ?_
  refine e_iand rfl ?_
  refine e_ist0 rfl rfl ?_
  refine e_iload_n rfl rfl ?_
  refine e_iload_n rfl rfl ?_
  refine e_bipush (v := nI 8) rfl bp_8N ?_
  refine e_iushr rfl ?_
  refine e_iadd rfl ?_
  refine e_ist0 rfl rfl ?_
  refine e_iload_n rfl rfl ?_
  refine e_iload_n rfl rfl ?_
  refine e_bipush (v := nI 16) rfl bp_16N ?_
  refine e_iushr rfl ?_
  refine e_iadd rfl ?_
  refine e_ist0 rfl rfl ?_
  refine e_iload_n rfl rfl ?_
  refine e_bipush (v := nI 63) rfl (by decide) ?_
  refine e_iand rfl ?_
  exact e_ireturn rfl rfl ⟨rfl, rfl⟩
