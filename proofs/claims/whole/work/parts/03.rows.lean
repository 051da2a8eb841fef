section RowsA
variable {l : Launch} {G : GG} {d mc ms kc ks pc npc : Nat} {M : MD} {L st : List Value} {h h' : Hp} {r : Option Value}
theorem go_iconst {n : Int} {v : Int32} (hc : lk M pc = some (.iconst n, npc, 1)) (hv : Int32.ofInt n = v) (k : Go l G d mc ms M kc ks npc L (.int v :: st) h r h') : Go l G d mc ms M kc ks pc L st h r h' := by
  intro p e s m args below meth c ls H locs C hL hH hlc
  obtain ⟨hd, rfl⟩ := C.dec hc
  have hx := C.1
  have hb := C.2.1
  exact lv_iconst hx hb hd hv (k p e s m args below meth c ls H locs C hL hH hlc)
theorem go_bipush {n : Int} {v : Int32} (hc : lk M pc = some (.bipush n, npc, 2)) (hv : (Int8.ofInt n).toInt32 = v) (k : Go l G d mc ms M kc ks npc L (.int v :: st) h r h') : Go l G d mc ms M kc ks pc L st h r h' := by
  intro p e s m args below meth c ls H locs C hL hH hlc
  obtain ⟨hd, rfl⟩ := C.dec hc
  have hx := C.1
  have hb := C.2.1
  exact lv_bipush hx hb hd hv (k p e s m args below meth c ls H locs C hL hH hlc)
theorem go_sipush {n : Int} {v : Int32} (hc : lk M pc = some (.sipush n, npc, 3)) (hv : (Int16.ofInt n).toInt32 = v) (k : Go l G d mc ms M kc ks npc L (.int v :: st) h r h') : Go l G d mc ms M kc ks pc L st h r h' := by
  intro p e s m args below meth c ls H locs C hL hH hlc
  obtain ⟨hd, rfl⟩ := C.dec hc
  have hx := C.1
  have hb := C.2.1
  exact lv_sipush hx hb hd hv (k p e s m args below meth c ls H locs C hL hH hlc)
theorem go_lconst {n : Fin 2} {v : Int64} (hc : lk M pc = some (.lconst n, npc, 1)) (hv : Int64.ofNat (n : Nat) = v) (k : Go l G d mc ms M kc ks npc L (.long v :: st) h r h') : Go l G d mc ms M kc ks pc L st h r h' := by
  intro p e s m args below meth c ls H locs C hL hH hlc
  obtain ⟨hd, rfl⟩ := C.dec hc
  have hx := C.1
  have hb := C.2.1
  exact lv_lconst hx hb hd hv (k p e s m args below meth c ls H locs C hL hH hlc)
theorem go_iadd {x y : Int32} (hc : lk M pc = some (.iadd, npc, 1)) (k : Go l G d mc ms M kc ks npc L (.int (x + y) :: st) h r h') : Go l G d mc ms M kc ks pc L (.int y :: .int x :: st) h r h' := by
  intro p e s m args below meth c ls H locs C hL hH hlc
  obtain ⟨hd, rfl⟩ := C.dec hc
  have hx := C.1
  have hb := C.2.1
  exact lv_iadd hx hb hd (k p e s m args below meth c ls H locs C hL hH hlc)
theorem go_isub {x y : Int32} (hc : lk M pc = some (.isub, npc, 1)) (k : Go l G d mc ms M kc ks npc L (.int (x - y) :: st) h r h') : Go l G d mc ms M kc ks pc L (.int y :: .int x :: st) h r h' := by
  intro p e s m args below meth c ls H locs C hL hH hlc
  obtain ⟨hd, rfl⟩ := C.dec hc
  have hx := C.1
  have hb := C.2.1
  exact lv_isub hx hb hd (k p e s m args below meth c ls H locs C hL hH hlc)
theorem go_imul {x y : Int32} (hc : lk M pc = some (.imul, npc, 1)) (k : Go l G d mc ms M kc ks npc L (.int (x * y) :: st) h r h') : Go l G d mc ms M kc ks pc L (.int y :: .int x :: st) h r h' := by
  intro p e s m args below meth c ls H locs C hL hH hlc
  obtain ⟨hd, rfl⟩ := C.dec hc
  have hx := C.1
  have hb := C.2.1
  exact lv_imul hx hb hd (k p e s m args below meth c ls H locs C hL hH hlc)
theorem go_iand {x y : Int32} (hc : lk M pc = some (.iand, npc, 1)) (k : Go l G d mc ms M kc ks npc L (.int (x &&& y) :: st) h r h') : Go l G d mc ms M kc ks pc L (.int y :: .int x :: st) h r h' := by
  intro p e s m args below meth c ls H locs C hL hH hlc
  obtain ⟨hd, rfl⟩ := C.dec hc
  have hx := C.1
  have hb := C.2.1
  exact lv_iand hx hb hd (k p e s m args below meth c ls H locs C hL hH hlc)
theorem go_ior {x y : Int32} (hc : lk M pc = some (.ior, npc, 1)) (k : Go l G d mc ms M kc ks npc L (.int (x ||| y) :: st) h r h') : Go l G d mc ms M kc ks pc L (.int y :: .int x :: st) h r h' := by
  intro p e s m args below meth c ls H locs C hL hH hlc
  obtain ⟨hd, rfl⟩ := C.dec hc
  have hx := C.1
  have hb := C.2.1
  exact lv_ior hx hb hd (k p e s m args below meth c ls H locs C hL hH hlc)
theorem go_ixor {x y : Int32} (hc : lk M pc = some (.ixor, npc, 1)) (k : Go l G d mc ms M kc ks npc L (.int (x ^^^ y) :: st) h r h') : Go l G d mc ms M kc ks pc L (.int y :: .int x :: st) h r h' := by
  intro p e s m args below meth c ls H locs C hL hH hlc
  obtain ⟨hd, rfl⟩ := C.dec hc
  have hx := C.1
  have hb := C.2.1
  exact lv_ixor hx hb hd (k p e s m args below meth c ls H locs C hL hH hlc)
theorem go_ishl {x y : Int32} (hc : lk M pc = some (.ishl, npc, 1)) (k : Go l G d mc ms M kc ks npc L (.int (x <<< (y &&& 31)) :: st) h r h') : Go l G d mc ms M kc ks pc L (.int y :: .int x :: st) h r h' := by
  intro p e s m args below meth c ls H locs C hL hH hlc
  obtain ⟨hd, rfl⟩ := C.dec hc
  have hx := C.1
  have hb := C.2.1
  exact lv_ishl hx hb hd (k p e s m args below meth c ls H locs C hL hH hlc)
theorem go_ishr {x y : Int32} (hc : lk M pc = some (.ishr, npc, 1)) (k : Go l G d mc ms M kc ks npc L (.int (x >>> (y &&& 31)) :: st) h r h') : Go l G d mc ms M kc ks pc L (.int y :: .int x :: st) h r h' := by
  intro p e s m args below meth c ls H locs C hL hH hlc
  obtain ⟨hd, rfl⟩ := C.dec hc
  have hx := C.1
  have hb := C.2.1
  exact lv_ishr hx hb hd (k p e s m args below meth c ls H locs C hL hH hlc)
theorem go_ladd {x y : Int64} (hc : lk M pc = some (.ladd, npc, 1)) (k : Go l G d mc ms M kc ks npc L (.long (x + y) :: st) h r h') : Go l G d mc ms M kc ks pc L (.long y :: .long x :: st) h r h' := by
  intro p e s m args below meth c ls H locs C hL hH hlc
  obtain ⟨hd, rfl⟩ := C.dec hc
  have hx := C.1
  have hb := C.2.1
  exact lv_ladd hx hb hd (k p e s m args below meth c ls H locs C hL hH hlc)
theorem go_lsub {x y : Int64} (hc : lk M pc = some (.lsub, npc, 1)) (k : Go l G d mc ms M kc ks npc L (.long (x - y) :: st) h r h') : Go l G d mc ms M kc ks pc L (.long y :: .long x :: st) h r h' := by
  intro p e s m args below meth c ls H locs C hL hH hlc
  obtain ⟨hd, rfl⟩ := C.dec hc
  have hx := C.1
  have hb := C.2.1
  exact lv_lsub hx hb hd (k p e s m args below meth c ls H locs C hL hH hlc)
theorem go_lmul {x y : Int64} (hc : lk M pc = some (.lmul, npc, 1)) (k : Go l G d mc ms M kc ks npc L (.long (x * y) :: st) h r h') : Go l G d mc ms M kc ks pc L (.long y :: .long x :: st) h r h' := by
  intro p e s m args below meth c ls H locs C hL hH hlc
  obtain ⟨hd, rfl⟩ := C.dec hc
  have hx := C.1
  have hb := C.2.1
  exact lv_lmul hx hb hd (k p e s m args below meth c ls H locs C hL hH hlc)
theorem go_land {x y : Int64} (hc : lk M pc = some (.land, npc, 1)) (k : Go l G d mc ms M kc ks npc L (.long (x &&& y) :: st) h r h') : Go l G d mc ms M kc ks pc L (.long y :: .long x :: st) h r h' := by
  intro p e s m args below meth c ls H locs C hL hH hlc
  obtain ⟨hd, rfl⟩ := C.dec hc
  have hx := C.1
  have hb := C.2.1
  exact lv_land hx hb hd (k p e s m args below meth c ls H locs C hL hH hlc)
theorem go_idiv {x y : Int32} (hc : lk M pc = some (.idiv, npc, 1)) (hne : ¬ y = 0) (k : Go l G d mc ms M kc ks npc L (.int (x / y) :: st) h r h') : Go l G d mc ms M kc ks pc L (.int y :: .int x :: st) h r h' := by
  intro p e s m args below meth c ls H locs C hL hH hlc
  obtain ⟨hd, rfl⟩ := C.dec hc
  have hx := C.1
  have hb := C.2.1
  exact lv_idiv hx hb hd hne (k p e s m args below meth c ls H locs C hL hH hlc)
theorem go_irem {x y : Int32} (hc : lk M pc = some (.irem, npc, 1)) (hne : ¬ y = 0) (k : Go l G d mc ms M kc ks npc L (.int (x - x / y * y) :: st) h r h') : Go l G d mc ms M kc ks pc L (.int y :: .int x :: st) h r h' := by
  intro p e s m args below meth c ls H locs C hL hH hlc
  obtain ⟨hd, rfl⟩ := C.dec hc
  have hx := C.1
  have hb := C.2.1
  exact lv_irem hx hb hd hne (k p e s m args below meth c ls H locs C hL hH hlc)
theorem go_ldiv {x y : Int64} (hc : lk M pc = some (.ldiv, npc, 1)) (hne : ¬ y = 0) (k : Go l G d mc ms M kc ks npc L (.long (x / y) :: st) h r h') : Go l G d mc ms M kc ks pc L (.long y :: .long x :: st) h r h' := by
  intro p e s m args below meth c ls H locs C hL hH hlc
  obtain ⟨hd, rfl⟩ := C.dec hc
  have hx := C.1
  have hb := C.2.1
  exact lv_ldiv hx hb hd hne (k p e s m args below meth c ls H locs C hL hH hlc)
theorem go_lrem {x y : Int64} (hc : lk M pc = some (.lrem, npc, 1)) (hne : ¬ y = 0) (k : Go l G d mc ms M kc ks npc L (.long (x - x / y * y) :: st) h r h') : Go l G d mc ms M kc ks pc L (.long y :: .long x :: st) h r h' := by
  intro p e s m args below meth c ls H locs C hL hH hlc
  obtain ⟨hd, rfl⟩ := C.dec hc
  have hx := C.1
  have hb := C.2.1
  exact lv_lrem hx hb hd hne (k p e s m args below meth c ls H locs C hL hH hlc)
theorem go_ineg {x : Int32} (hc : lk M pc = some (.ineg, npc, 1)) (k : Go l G d mc ms M kc ks npc L (.int (-x) :: st) h r h') : Go l G d mc ms M kc ks pc L (.int x :: st) h r h' := by
  intro p e s m args below meth c ls H locs C hL hH hlc
  obtain ⟨hd, rfl⟩ := C.dec hc
  have hx := C.1
  have hb := C.2.1
  exact lv_ineg hx hb hd (k p e s m args below meth c ls H locs C hL hH hlc)
theorem go_lneg {x : Int64} (hc : lk M pc = some (.lneg, npc, 1)) (k : Go l G d mc ms M kc ks npc L (.long (-x) :: st) h r h') : Go l G d mc ms M kc ks pc L (.long x :: st) h r h' := by
  intro p e s m args below meth c ls H locs C hL hH hlc
  obtain ⟨hd, rfl⟩ := C.dec hc
  have hx := C.1
  have hb := C.2.1
  exact lv_lneg hx hb hd (k p e s m args below meth c ls H locs C hL hH hlc)
theorem go_i2l {x : Int32} (hc : lk M pc = some (.i2l, npc, 1)) (k : Go l G d mc ms M kc ks npc L (.long x.toInt64 :: st) h r h') : Go l G d mc ms M kc ks pc L (.int x :: st) h r h' := by
  intro p e s m args below meth c ls H locs C hL hH hlc
  obtain ⟨hd, rfl⟩ := C.dec hc
  have hx := C.1
  have hb := C.2.1
  exact lv_i2l hx hb hd rfl (k p e s m args below meth c ls H locs C hL hH hlc)
theorem go_l2i {x : Int64} (hc : lk M pc = some (.l2i, npc, 1)) (k : Go l G d mc ms M kc ks npc L (.int x.toInt32 :: st) h r h') : Go l G d mc ms M kc ks pc L (.long x :: st) h r h' := by
  intro p e s m args below meth c ls H locs C hL hH hlc
  obtain ⟨hd, rfl⟩ := C.dec hc
  have hx := C.1
  have hb := C.2.1
  exact lv_l2i hx hb hd rfl (k p e s m args below meth c ls H locs C hL hH hlc)
theorem go_i2b {x : Int32} (hc : lk M pc = some (.i2b, npc, 1)) (k : Go l G d mc ms M kc ks npc L (.int x.toInt8.toInt32 :: st) h r h') : Go l G d mc ms M kc ks pc L (.int x :: st) h r h' := by
  intro p e s m args below meth c ls H locs C hL hH hlc
  obtain ⟨hd, rfl⟩ := C.dec hc
  have hx := C.1
  have hb := C.2.1
  exact lv_i2b hx hb hd rfl (k p e s m args below meth c ls H locs C hL hH hlc)
theorem go_i2c {x : Int32} (hc : lk M pc = some (.i2c, npc, 1)) (k : Go l G d mc ms M kc ks npc L (.int (x.toUInt32 % 65536).toInt32 :: st) h r h') : Go l G d mc ms M kc ks pc L (.int x :: st) h r h' := by
  intro p e s m args below meth c ls H locs C hL hH hlc
  obtain ⟨hd, rfl⟩ := C.dec hc
  have hx := C.1
  have hb := C.2.1
  exact lv_i2c hx hb hd rfl (k p e s m args below meth c ls H locs C hL hH hlc)
theorem go_iushr {x y : Int32} (hc : lk M pc = some (.iushr, npc, 1)) (k : Go l G d mc ms M kc ks npc L (.int (x.toUInt32 >>> (y.toUInt32 &&& Int32.toUInt32 31)).toInt32 :: st) h r h') : Go l G d mc ms M kc ks pc L (.int y :: .int x :: st) h r h' := by
  intro p e s m args below meth c ls H locs C hL hH hlc
  obtain ⟨hd, rfl⟩ := C.dec hc
  have hx := C.1
  have hb := C.2.1
  exact lv_iushr hx hb hd rfl (k p e s m args below meth c ls H locs C hL hH hlc)
theorem go_lcmp {x y : Int64} (hc : lk M pc = some (.lcmp, npc, 1)) (k : Go l G d mc ms M kc ks npc L (.int (lg_cmp x y) :: st) h r h') : Go l G d mc ms M kc ks pc L (.long y :: .long x :: st) h r h' := by
  intro p e s m args below meth c ls H locs C hL hH hlc
  obtain ⟨hd, rfl⟩ := C.dec hc
  have hx := C.1
  have hb := C.2.1
  exact W.lcmp hx hb hd (k p e s m args below meth c ls H locs C hL hH hlc)
theorem tv_cat (G : GG) (v : Value) : (tv G v).category = v.category := by cases v <;> rfl
theorem go_dup {v : Value} (hc : lk M pc = some (.dup, npc, 1)) (hv : v.category = 1) (k : Go l G d mc ms M kc ks npc L (v :: v :: st) h r h') : Go l G d mc ms M kc ks pc L (v :: st) h r h' := by
  intro p e s m args below meth c ls H locs C hL hH hlc
  obtain ⟨hd, rfl⟩ := C.dec hc
  have hx := C.1
  have hb := C.2.1
  exact lv_dup hx hb hd (by rw [tv_cat]; exact hv) (k p e s m args below meth c ls H locs C hL hH hlc)
theorem go_dup2 {v w : Value} (hc : lk M pc = some (.dup2, npc, 1)) (hv : v.category = 1) (hw : w.category = 1) (k : Go l G d mc ms M kc ks npc L (v :: w :: v :: w :: st) h r h') : Go l G d mc ms M kc ks pc L (v :: w :: st) h r h' := by
  intro p e s m args below meth c ls H locs C hL hH hlc
  obtain ⟨hd, rfl⟩ := C.dec hc
  have hx := C.1
  have hb := C.2.1
  exact lv_dup2_11 hx hb hd (by rw [tv_cat]; exact hv) (by rw [tv_cat]; exact hw) (k p e s m args below meth c ls H locs C hL hH hlc)
theorem go_iload {i : Nat} {x : Int32} (hc : lk M pc = some (.iload i, npc, 2)) (hl : L[i]? = some (.int x)) (k : Go l G d mc ms M kc ks npc L (.int x :: st) h r h') : Go l G d mc ms M kc ks pc L st h r h' := by
  intro p e s m args below meth c ls H locs C hL hH hlc
  obtain ⟨hd, rfl⟩ := C.dec hc
  have hx := C.1
  have hb := C.2.1
  exact lv_iload hx hb hd (hL.2.2 i _ hl (fun q => by cases q)) (k p e s m args below meth c ls H locs C hL hH hlc)
theorem go_iload_n {i : Fin 4} {x : Int32} (hc : lk M pc = some (.iload_n i, npc, 1)) (hl : L[(i : Nat)]? = some (.int x)) (k : Go l G d mc ms M kc ks npc L (.int x :: st) h r h') : Go l G d mc ms M kc ks pc L st h r h' := by
  intro p e s m args below meth c ls H locs C hL hH hlc
  obtain ⟨hd, rfl⟩ := C.dec hc
  have hx := C.1
  have hb := C.2.1
  exact lv_iload_n hx hb hd rfl (hL.2.2 (i : Nat) _ hl (fun q => by cases q)) (k p e s m args below meth c ls H locs C hL hH hlc)
theorem go_lload {i : Nat} {x : Int64} (hc : lk M pc = some (.lload i, npc, 2)) (hl : L[i]? = some (.long x)) (k : Go l G d mc ms M kc ks npc L (.long x :: st) h r h') : Go l G d mc ms M kc ks pc L st h r h' := by
  intro p e s m args below meth c ls H locs C hL hH hlc
  obtain ⟨hd, rfl⟩ := C.dec hc
  have hx := C.1
  have hb := C.2.1
  exact lv_lload hx hb hd (hL.2.2 i _ hl (fun q => by cases q)) (k p e s m args below meth c ls H locs C hL hH hlc)
theorem go_lload_n {i : Fin 4} {x : Int64} (hc : lk M pc = some (.lload_n i, npc, 1)) (hl : L[(i : Nat)]? = some (.long x)) (k : Go l G d mc ms M kc ks npc L (.long x :: st) h r h') : Go l G d mc ms M kc ks pc L st h r h' := by
  intro p e s m args below meth c ls H locs C hL hH hlc
  obtain ⟨hd, rfl⟩ := C.dec hc
  have hx := C.1
  have hb := C.2.1
  exact lv_lload_n hx hb hd rfl (hL.2.2 (i : Nat) _ hl (fun q => by cases q)) (k p e s m args below meth c ls H locs C hL hH hlc)
theorem go_aload {i : Nat} {x : Nat} (hc : lk M pc = some (.aload i, npc, 2)) (hl : L[i]? = some (.ref x)) (k : Go l G d mc ms M kc ks npc L (.ref x :: st) h r h') : Go l G d mc ms M kc ks pc L st h r h' := by
  intro p e s m args below meth c ls H locs C hL hH hlc
  obtain ⟨hd, rfl⟩ := C.dec hc
  have hx := C.1
  have hb := C.2.1
  exact lv_aload hx hb hd (hL.2.2 i _ hl (fun q => by cases q)) (k p e s m args below meth c ls H locs C hL hH hlc)
theorem go_aload_n {i : Fin 4} {x : Nat} (hc : lk M pc = some (.aload_n i, npc, 1)) (hl : L[(i : Nat)]? = some (.ref x)) (k : Go l G d mc ms M kc ks npc L (.ref x :: st) h r h') : Go l G d mc ms M kc ks pc L st h r h' := by
  intro p e s m args below meth c ls H locs C hL hH hlc
  obtain ⟨hd, rfl⟩ := C.dec hc
  have hx := C.1
  have hb := C.2.1
  exact lv_aload_n hx hb hd rfl (hL.2.2 (i : Nat) _ hl (fun q => by cases q)) (k p e s m args below meth c ls H locs C hL hH hlc)
end RowsA
section RowsB
variable {l : Launch} {G : GG} {d mc ms kc ks pc npc : Nat} {M : MD} {L st : List Value} {h h' : Hp} {r : Option Value}
theorem go_if_eq {x : Int32} {off : Int} {tgt : Nat} (hc : lk M pc = some (.ifCond .eq off, npc, 3)) (ht : (pc : Int) + off = (tgt : Int)) (kt : x = 0 → Go l G d mc ms M kc ks tgt L st h r h') (kf : ¬ x = 0 → Go l G d mc ms M kc ks npc L st h r h') : Go l G d mc ms M kc ks pc L (.int x :: st) h r h' := by
  intro p e s m args below meth c ls H locs C hL hH hlc
  obtain ⟨hd, rfl⟩ := C.dec hc
  have hx := C.1
  have hb := C.2.1
  exact lv_if_eq hx hb hd ht (fun z => kt z p e s m args below meth c ls H locs C hL hH hlc) (fun z => kf z p e s m args below meth c ls H locs C hL hH hlc)
theorem go_if_ne {x : Int32} {off : Int} {tgt : Nat} (hc : lk M pc = some (.ifCond .ne off, npc, 3)) (ht : (pc : Int) + off = (tgt : Int)) (kt : ¬ x = 0 → Go l G d mc ms M kc ks tgt L st h r h') (kf : x = 0 → Go l G d mc ms M kc ks npc L st h r h') : Go l G d mc ms M kc ks pc L (.int x :: st) h r h' := by
  intro p e s m args below meth c ls H locs C hL hH hlc
  obtain ⟨hd, rfl⟩ := C.dec hc
  have hx := C.1
  have hb := C.2.1
  exact lv_if_ne hx hb hd ht (fun z => kt z p e s m args below meth c ls H locs C hL hH hlc) (fun z => kf z p e s m args below meth c ls H locs C hL hH hlc)
theorem go_if_lt {x : Int32} {off : Int} {tgt : Nat} (hc : lk M pc = some (.ifCond .lt off, npc, 3)) (ht : (pc : Int) + off = (tgt : Int)) (kt : x < 0 → Go l G d mc ms M kc ks tgt L st h r h') (kf : ¬ x < 0 → Go l G d mc ms M kc ks npc L st h r h') : Go l G d mc ms M kc ks pc L (.int x :: st) h r h' := by
  intro p e s m args below meth c ls H locs C hL hH hlc
  obtain ⟨hd, rfl⟩ := C.dec hc
  have hx := C.1
  have hb := C.2.1
  exact lv_if_lt hx hb hd ht (fun z => kt z p e s m args below meth c ls H locs C hL hH hlc) (fun z => kf z p e s m args below meth c ls H locs C hL hH hlc)
theorem go_if_ge {x : Int32} {off : Int} {tgt : Nat} (hc : lk M pc = some (.ifCond .ge off, npc, 3)) (ht : (pc : Int) + off = (tgt : Int)) (kt : 0 ≤ x → Go l G d mc ms M kc ks tgt L st h r h') (kf : ¬ 0 ≤ x → Go l G d mc ms M kc ks npc L st h r h') : Go l G d mc ms M kc ks pc L (.int x :: st) h r h' := by
  intro p e s m args below meth c ls H locs C hL hH hlc
  obtain ⟨hd, rfl⟩ := C.dec hc
  have hx := C.1
  have hb := C.2.1
  exact lv_if_ge hx hb hd ht (fun z => kt z p e s m args below meth c ls H locs C hL hH hlc) (fun z => kf z p e s m args below meth c ls H locs C hL hH hlc)
theorem go_if_gt {x : Int32} {off : Int} {tgt : Nat} (hc : lk M pc = some (.ifCond .gt off, npc, 3)) (ht : (pc : Int) + off = (tgt : Int)) (kt : 0 < x → Go l G d mc ms M kc ks tgt L st h r h') (kf : ¬ 0 < x → Go l G d mc ms M kc ks npc L st h r h') : Go l G d mc ms M kc ks pc L (.int x :: st) h r h' := by
  intro p e s m args below meth c ls H locs C hL hH hlc
  obtain ⟨hd, rfl⟩ := C.dec hc
  have hx := C.1
  have hb := C.2.1
  exact lv_if_gt hx hb hd ht (fun z => kt z p e s m args below meth c ls H locs C hL hH hlc) (fun z => kf z p e s m args below meth c ls H locs C hL hH hlc)
theorem go_if_le {x : Int32} {off : Int} {tgt : Nat} (hc : lk M pc = some (.ifCond .le off, npc, 3)) (ht : (pc : Int) + off = (tgt : Int)) (kt : x ≤ 0 → Go l G d mc ms M kc ks tgt L st h r h') (kf : ¬ x ≤ 0 → Go l G d mc ms M kc ks npc L st h r h') : Go l G d mc ms M kc ks pc L (.int x :: st) h r h' := by
  intro p e s m args below meth c ls H locs C hL hH hlc
  obtain ⟨hd, rfl⟩ := C.dec hc
  have hx := C.1
  have hb := C.2.1
  exact lv_if_le hx hb hd ht (fun z => kt z p e s m args below meth c ls H locs C hL hH hlc) (fun z => kf z p e s m args below meth c ls H locs C hL hH hlc)
theorem go_icmp_eq {x y : Int32} {off : Int} {tgt : Nat} (hc : lk M pc = some (.if_icmp .eq off, npc, 3)) (ht : (pc : Int) + off = (tgt : Int)) (kt : x = y → Go l G d mc ms M kc ks tgt L st h r h') (kf : ¬ x = y → Go l G d mc ms M kc ks npc L st h r h') : Go l G d mc ms M kc ks pc L (.int y :: .int x :: st) h r h' := by
  intro p e s m args below meth c ls H locs C hL hH hlc
  obtain ⟨hd, rfl⟩ := C.dec hc
  have hx := C.1
  have hb := C.2.1
  exact lv_icmp_eq hx hb hd ht (fun z => kt z p e s m args below meth c ls H locs C hL hH hlc) (fun z => kf z p e s m args below meth c ls H locs C hL hH hlc)
theorem go_icmp_ne {x y : Int32} {off : Int} {tgt : Nat} (hc : lk M pc = some (.if_icmp .ne off, npc, 3)) (ht : (pc : Int) + off = (tgt : Int)) (kt : ¬ x = y → Go l G d mc ms M kc ks tgt L st h r h') (kf : x = y → Go l G d mc ms M kc ks npc L st h r h') : Go l G d mc ms M kc ks pc L (.int y :: .int x :: st) h r h' := by
  intro p e s m args below meth c ls H locs C hL hH hlc
  obtain ⟨hd, rfl⟩ := C.dec hc
  have hx := C.1
  have hb := C.2.1
  exact lv_icmp_ne hx hb hd ht (fun z => kt z p e s m args below meth c ls H locs C hL hH hlc) (fun z => kf z p e s m args below meth c ls H locs C hL hH hlc)
theorem go_icmp_lt {x y : Int32} {off : Int} {tgt : Nat} (hc : lk M pc = some (.if_icmp .lt off, npc, 3)) (ht : (pc : Int) + off = (tgt : Int)) (kt : x < y → Go l G d mc ms M kc ks tgt L st h r h') (kf : ¬ x < y → Go l G d mc ms M kc ks npc L st h r h') : Go l G d mc ms M kc ks pc L (.int y :: .int x :: st) h r h' := by
  intro p e s m args below meth c ls H locs C hL hH hlc
  obtain ⟨hd, rfl⟩ := C.dec hc
  have hx := C.1
  have hb := C.2.1
  exact lv_icmp_lt hx hb hd ht (fun z => kt z p e s m args below meth c ls H locs C hL hH hlc) (fun z => kf z p e s m args below meth c ls H locs C hL hH hlc)
theorem go_icmp_ge {x y : Int32} {off : Int} {tgt : Nat} (hc : lk M pc = some (.if_icmp .ge off, npc, 3)) (ht : (pc : Int) + off = (tgt : Int)) (kt : y ≤ x → Go l G d mc ms M kc ks tgt L st h r h') (kf : ¬ y ≤ x → Go l G d mc ms M kc ks npc L st h r h') : Go l G d mc ms M kc ks pc L (.int y :: .int x :: st) h r h' := by
  intro p e s m args below meth c ls H locs C hL hH hlc
  obtain ⟨hd, rfl⟩ := C.dec hc
  have hx := C.1
  have hb := C.2.1
  exact lv_icmp_ge hx hb hd ht (fun z => kt z p e s m args below meth c ls H locs C hL hH hlc) (fun z => kf z p e s m args below meth c ls H locs C hL hH hlc)
theorem go_icmp_gt {x y : Int32} {off : Int} {tgt : Nat} (hc : lk M pc = some (.if_icmp .gt off, npc, 3)) (ht : (pc : Int) + off = (tgt : Int)) (kt : y < x → Go l G d mc ms M kc ks tgt L st h r h') (kf : ¬ y < x → Go l G d mc ms M kc ks npc L st h r h') : Go l G d mc ms M kc ks pc L (.int y :: .int x :: st) h r h' := by
  intro p e s m args below meth c ls H locs C hL hH hlc
  obtain ⟨hd, rfl⟩ := C.dec hc
  have hx := C.1
  have hb := C.2.1
  exact lv_icmp_gt hx hb hd ht (fun z => kt z p e s m args below meth c ls H locs C hL hH hlc) (fun z => kf z p e s m args below meth c ls H locs C hL hH hlc)
theorem go_icmp_le {x y : Int32} {off : Int} {tgt : Nat} (hc : lk M pc = some (.if_icmp .le off, npc, 3)) (ht : (pc : Int) + off = (tgt : Int)) (kt : x ≤ y → Go l G d mc ms M kc ks tgt L st h r h') (kf : ¬ x ≤ y → Go l G d mc ms M kc ks npc L st h r h') : Go l G d mc ms M kc ks pc L (.int y :: .int x :: st) h r h' := by
  intro p e s m args below meth c ls H locs C hL hH hlc
  obtain ⟨hd, rfl⟩ := C.dec hc
  have hx := C.1
  have hb := C.2.1
  exact lv_icmp_le hx hb hd ht (fun z => kt z p e s m args below meth c ls H locs C hL hH hlc) (fun z => kf z p e s m args below meth c ls H locs C hL hH hlc)
theorem go_goto {off : Int} {tgt : Nat} (hc : lk M pc = some (.goto off, npc, 3)) (ht : (pc : Int) + off = (tgt : Int)) (k : Go l G d mc ms M kc ks tgt L st h r h') : Go l G d mc ms M kc ks pc L st h r h' := by
  intro p e s m args below meth c ls H locs C hL hH hlc
  obtain ⟨hd, rfl⟩ := C.dec hc
  have hx := C.1
  have hb := C.2.1
  exact lv_goto hx hb hd ht (k p e s m args below meth c ls H locs C hL hH hlc)
theorem go_tableOut {dflt lo hi : Int} {offs : Array Int} {len : Nat} {x : Int32} {tgt : Nat} (hc : lk M pc = some (.tableswitch dflt lo hi offs, npc, len)) (hh : x.toInt < lo ∨ hi < x.toInt) (ht : (pc : Int) + dflt = (tgt : Int)) (k : Go l G d mc ms M kc ks tgt L st h r h') : Go l G d mc ms M kc ks pc L (.int x :: st) h r h' := by
  intro p e s m args below meth c ls H locs C hL hH hlc
  obtain ⟨hd, rfl⟩ := C.dec hc
  have hx := C.1
  have hb := C.2.1
  exact lv_tableOut hx hb hd hh ht (k p e s m args below meth c ls H locs C hL hH hlc)
theorem go_tableIn {dflt lo hi : Int} {offs : Array Int} {len : Nat} {x : Int32} {off : Int} {tgt : Nat} (hc : lk M pc = some (.tableswitch dflt lo hi offs, npc, len)) (h1 : ¬ x.toInt < lo) (h2 : ¬ hi < x.toInt) (ho : offs[(x.toInt - lo).toNat]? = some off) (ht : (pc : Int) + off = (tgt : Int)) (k : Go l G d mc ms M kc ks tgt L st h r h') : Go l G d mc ms M kc ks pc L (.int x :: st) h r h' := by
  intro p e s m args below meth c ls H locs C hL hH hlc
  obtain ⟨hd, rfl⟩ := C.dec hc
  have hx := C.1
  have hb := C.2.1
  exact lv_tableIn hx hb hd h1 h2 ho ht (k p e s m args below meth c ls H locs C hL hH hlc)
theorem go_lookup {dflt : Int} {ps : Array (Int × Int)} {len : Nat} {x : Int32} {off : Int} {tgt : Nat} (hc : lk M pc = some (.lookupswitch dflt ps, npc, len)) (hp : (ps.toList.zip (ps.toList.drop 1)).all (fun (a, next) => a.1 < next.1) = true) (ho : Op.lookupswitch.offset ps.toList dflt x.toInt = off) (ht : (pc : Int) + off = (tgt : Int)) (k : Go l G d mc ms M kc ks tgt L st h r h') : Go l G d mc ms M kc ks pc L (.int x :: st) h r h' := by
  intro p e s m args below meth c ls H locs C hL hH hlc
  obtain ⟨hd, rfl⟩ := C.dec hc
  have hx := C.1
  have hb := C.2.1
  exact lv_lookup hx hb hd hp ho ht (k p e s m args below meth c ls H locs C hL hH hlc)
end RowsB
section RowsC
variable {l : Launch} {G : GG} {d mc ms kc ks pc npc : Nat} {M : MD} {L st : List Value} {h h' : Hp} {r : Option Value}
/-- the listed values, by places -/
def prs (G : GG) : Nat → List Value → List (Nat × Value)
  | _, [] => []
  | i, v :: t => if v = .null then prs G (i + 1) t else (i, tv G v) :: prs G (i + 1) t
theorem prs_mem {G : GG} : ∀ {L : List Value} {b i : Nat} {v : Value}, L[i]? = some v → v ≠ .null → (b + i, tv G v) ∈ prs G b L
  | [], b, i, v, h, _ => by simp at h
  | w :: t, b, 0, v, h, hv => by
    rw [List.getElem?_cons_zero] at h
    cases h
    simp [prs, hv]
  | w :: t, b, i + 1, v, h, hv => by
    rw [List.getElem?_cons_succ] at h
    have h1 := prs_mem (G := G) (b := b + 1) h hv
    rw [show b + (i + 1) = b + 1 + i by omega]
    unfold prs
    split
    · exact h1
    · exact List.mem_cons_of_mem _ h1
theorem prs_in {G : GG} : ∀ {L : List Value} {b : Nat} {q : Nat × Value}, q ∈ prs G b L → ∃ i v, q.1 = b + i ∧ L[i]? = some v ∧ v ≠ .null ∧ q.2 = tv G v
  | [], b, q, h => by cases h
  | w :: t, b, q, h => by
    unfold prs at h
    split at h
    · obtain ⟨i, v, h1, h2, h3⟩ := prs_in h
      exact ⟨i + 1, v, by omega, by rw [List.getElem?_cons_succ]; exact h2, h3⟩
    · next hw =>
      rcases List.mem_cons.mp h with rfl | h
      · exact ⟨0, w, rfl, rfl, hw, rfl⟩
      · obtain ⟨i, v, h1, h2, h3⟩ := prs_in h
        exact ⟨i + 1, v, by omega, by rw [List.getElem?_cons_succ]; exact h2, h3⟩
theorem LR.has {ls : Array Slot} {n : Nat} (h : LR G L ls n) : lv_has ls n (prs G 0 L) := by
  refine ⟨h.1, h.2.1, fun q hq => ?_⟩
  obtain ⟨i, v, h1, h2, h3, h4⟩ := prs_in hq
  rw [h1, h4, Nat.zero_add]
  exact h.2.2 i v h2 h3
theorem LR.st1 {ls : Array Slot} {n i : Nat} {v : Value} (h : LR G L ls n) (hi : i < n) (hc : v.category = 1) (hp : ∀ w, L[i - 1]? = some w → 0 < i → w.category = 1) : ∃ ls', storeLocals ls i (tv G v) = some ls' ∧ LR G (L.set i v) ls' n := by
  obtain ⟨ls', h1, h2⟩ := lv_store1 (v := tv G v) h.has hi (by rw [tv_cat]; exact hc)
  refine ⟨ls', h1, h2.1, h2.2.1, fun j w hj hw => ?_⟩
  by_cases hij : j = i
  · subst hij
    rw [List.getElem?_set] at hj
    simp only [if_true] at hj
    split at hj
    · cases hj
      exact h2.2.2 (j, tv G v) List.mem_cons_self
    · cases hj
  · rw [List.getElem?_set_ne (Ne.symm hij)] at hj
    have h5 := prs_mem (G := G) (b := 0) hj hw
    rw [Nat.zero_add] at h5
    refine h2.2.2 (j, tv G w) (List.mem_cons_of_mem _ (List.mem_filter.mpr ⟨h5, ?_⟩))
    simp only [Bool.and_eq_true, Bool.not_eq_true', beq_eq_false_iff_ne, ne_eq, Bool.and_eq_false_iff]
    refine ⟨hij, ?_⟩
    by_cases hji : j + 1 = i
    · right
      rw [tv_cat, hp w (by rw [show i - 1 = j by omega]; exact hj) (by omega)]
      decide
    · exact Or.inl hji
theorem LR.st2 {ls : Array Slot} {n i : Nat} {x : Int64} (h : LR G L ls n) (hi : i + 1 < n) (hp : ∀ w, L[i - 1]? = some w → 0 < i → w.category = 1) : ∃ ls', storeLocals ls i (.long x) = some ls' ∧ LR G ((L.set i (.long x)).set (i + 1) .null) ls' n := by
  obtain ⟨ls', h1, h2⟩ := lv_store2 (v := .long x) h.has hi rfl
  refine ⟨ls', h1, h2.1, h2.2.1, fun j w hj hw => ?_⟩
  by_cases hi1 : j = i + 1
  · subst hi1
    rw [List.getElem?_set] at hj
    simp only [if_true] at hj
    split at hj
    · cases hj
      exact absurd rfl hw
    · cases hj
  rw [List.getElem?_set_ne (Ne.symm hi1)] at hj
  by_cases hij : j = i
  · subst hij
    rw [List.getElem?_set] at hj
    simp only [if_true] at hj
    split at hj
    · cases hj
      exact h2.2.2 (j, .long x) List.mem_cons_self
    · cases hj
  · rw [List.getElem?_set_ne (Ne.symm hij)] at hj
    have h5 := prs_mem (G := G) (b := 0) hj hw
    rw [Nat.zero_add] at h5
    refine h2.2.2 (j, tv G w) (List.mem_cons_of_mem _ (List.mem_filter.mpr ⟨h5, ?_⟩))
    simp only [Bool.and_eq_true, Bool.not_eq_true', beq_eq_false_iff_ne, ne_eq, Bool.and_eq_false_iff]
    refine ⟨hij, hi1, ?_⟩
    by_cases hji : j + 1 = i
    · right
      rw [tv_cat, hp w (by rw [show i - 1 = j by omega]; exact hj) (by omega)]
      decide
    · exact Or.inl hji
/-- the place ahead holds no long -/
def okL (L : List Value) (i : Nat) : Bool := match i with
  | 0 => true
  | i + 1 => match L[i]? with
    | some v => v.category == 1
    | none => true
theorem okL_spec {L : List Value} {i : Nat} (h : okL L i = true) : ∀ w, L[i - 1]? = some w → 0 < i → w.category = 1 := by
  intro w hw hi
  cases i with
  | zero => omega
  | succ i =>
    rw [show i + 1 - 1 = i by omega] at hw
    have h2 : (match L[i]? with
      | some v => v.category == 1
      | none => true) = true := h
    rw [hw] at h2
    simpa using h2

theorem go_istore {i : Nat} {x : Int32} {L' : List Value} (hc : lk M pc = some (.istore i, npc, 2)) (hi : Nat.blt i M.2.2.1 = true) (ho : okL L i = true) (hl : L.set i (.int x) = L') (k : Go l G d mc ms M kc ks npc L' st h r h') : Go l G d mc ms M kc ks pc L (.int x :: st) h r h' := by
  subst hl
  intro p e s m args below meth c ls H locs C hL hH hlc
  obtain ⟨hd, rfl⟩ := C.dec hc
  have hx := C.1
  have hb := C.2.1
  obtain ⟨ls', e', h'⟩ := hL.st1 (v := .int x) (Nat.blt_eq.mp hi) rfl (okL_spec ho)
  have e' : storeLocals ls i (tv G (.int x)) = some ls' := e'
  simp only [tv] at e'
  intro T hT X
  obtain ⟨t, a, b⟩ := k p e s m args below meth c ls' H locs C h' hH hlc T hT X
  refine ⟨t, ?_, b⟩
  jvm_step X.here [X.here.top, ↓top_set X.here.top, hx, hb, hd, e', tv, Value.isRef]
  exact a
theorem go_istore_n {i : Fin 4} {x : Int32} {L' : List Value} (hc : lk M pc = some (.istore_n i, npc, 1)) (hi : Nat.blt (i : Nat) M.2.2.1 = true) (ho : okL L (i : Nat) = true) (hl : L.set (i : Nat) (.int x) = L') (k : Go l G d mc ms M kc ks npc L' st h r h') : Go l G d mc ms M kc ks pc L (.int x :: st) h r h' := by
  subst hl
  intro p e s m args below meth c ls H locs C hL hH hlc
  obtain ⟨hd, rfl⟩ := C.dec hc
  have hx := C.1
  have hb := C.2.1
  obtain ⟨ls', e', h'⟩ := hL.st1 (v := .int x) (Nat.blt_eq.mp hi) rfl (okL_spec ho)
  have e' : storeLocals ls (i : Nat) (tv G (.int x)) = some ls' := e'
  simp only [tv] at e'
  intro T hT X
  obtain ⟨t, a, b⟩ := k p e s m args below meth c ls' H locs C h' hH hlc T hT X
  refine ⟨t, ?_, b⟩
  jvm_step X.here [X.here.top, ↓top_set X.here.top, hx, hb, hd, e', tv, Value.isRef]
  exact a
theorem go_astore {i : Nat} {x : Nat} {L' : List Value} (hc : lk M pc = some (.astore i, npc, 2)) (hi : Nat.blt i M.2.2.1 = true) (ho : okL L i = true) (hl : L.set i (.ref x) = L') (k : Go l G d mc ms M kc ks npc L' st h r h') : Go l G d mc ms M kc ks pc L (.ref x :: st) h r h' := by
  subst hl
  intro p e s m args below meth c ls H locs C hL hH hlc
  obtain ⟨hd, rfl⟩ := C.dec hc
  have hx := C.1
  have hb := C.2.1
  obtain ⟨ls', e', h'⟩ := hL.st1 (v := .ref x) (Nat.blt_eq.mp hi) rfl (okL_spec ho)
  have e' : storeLocals ls i (tv G (.ref x)) = some ls' := e'
  simp only [tv] at e'
  intro T hT X
  obtain ⟨t, a, b⟩ := k p e s m args below meth c ls' H locs C h' hH hlc T hT X
  refine ⟨t, ?_, b⟩
  jvm_step X.here [X.here.top, ↓top_set X.here.top, hx, hb, hd, e', tv, Value.isRef]
  exact a
theorem go_astore_n {i : Fin 4} {x : Nat} {L' : List Value} (hc : lk M pc = some (.astore_n i, npc, 1)) (hi : Nat.blt (i : Nat) M.2.2.1 = true) (ho : okL L (i : Nat) = true) (hl : L.set (i : Nat) (.ref x) = L') (k : Go l G d mc ms M kc ks npc L' st h r h') : Go l G d mc ms M kc ks pc L (.ref x :: st) h r h' := by
  subst hl
  intro p e s m args below meth c ls H locs C hL hH hlc
  obtain ⟨hd, rfl⟩ := C.dec hc
  have hx := C.1
  have hb := C.2.1
  obtain ⟨ls', e', h'⟩ := hL.st1 (v := .ref x) (Nat.blt_eq.mp hi) rfl (okL_spec ho)
  have e' : storeLocals ls (i : Nat) (tv G (.ref x)) = some ls' := e'
  simp only [tv] at e'
  intro T hT X
  obtain ⟨t, a, b⟩ := k p e s m args below meth c ls' H locs C h' hH hlc T hT X
  refine ⟨t, ?_, b⟩
  jvm_step X.here [X.here.top, ↓top_set X.here.top, hx, hb, hd, e', tv, Value.isRef]
  exact a
theorem go_lstore {i : Nat} {x : Int64} {L' : List Value} (hc : lk M pc = some (.lstore i, npc, 2)) (hi : Nat.blt (i + 1) M.2.2.1 = true) (ho : okL L i = true) (hl : (L.set i (.long x)).set (i + 1) .null = L') (k : Go l G d mc ms M kc ks npc L' st h r h') : Go l G d mc ms M kc ks pc L (.long x :: st) h r h' := by
  subst hl
  intro p e s m args below meth c ls H locs C hL hH hlc
  obtain ⟨hd, rfl⟩ := C.dec hc
  have hx := C.1
  have hb := C.2.1
  obtain ⟨ls', e', h'⟩ := hL.st2 (x := x) (Nat.blt_eq.mp hi) (okL_spec ho)
  intro T hT X
  obtain ⟨t, a, b⟩ := k p e s m args below meth c ls' H locs C h' hH hlc T hT X
  refine ⟨t, ?_, b⟩
  jvm_step X.here [X.here.top, ↓top_set X.here.top, hx, hb, hd, e', tv]
  exact a
theorem go_lstore_n {i : Fin 4} {x : Int64} {L' : List Value} (hc : lk M pc = some (.lstore_n i, npc, 1)) (hi : Nat.blt ((i : Nat) + 1) M.2.2.1 = true) (ho : okL L (i : Nat) = true) (hl : (L.set (i : Nat) (.long x)).set ((i : Nat) + 1) .null = L') (k : Go l G d mc ms M kc ks npc L' st h r h') : Go l G d mc ms M kc ks pc L (.long x :: st) h r h' := by
  subst hl
  intro p e s m args below meth c ls H locs C hL hH hlc
  obtain ⟨hd, rfl⟩ := C.dec hc
  have hx := C.1
  have hb := C.2.1
  obtain ⟨ls', e', h'⟩ := hL.st2 (x := x) (Nat.blt_eq.mp hi) (okL_spec ho)
  intro T hT X
  obtain ⟨t, a, b⟩ := k p e s m args below meth c ls' H locs C h' hH hlc T hT X
  refine ⟨t, ?_, b⟩
  jvm_step X.here [X.here.top, ↓top_set X.here.top, hx, hb, hd, e', tv]
  exact a
theorem go_iinc {i : Nat} {n : Int} {x : Int32} {L' : List Value} (hc : lk M pc = some (.iinc i n, npc, 3)) (hg : L[i]? = some (.int x)) (hi : Nat.blt i M.2.2.1 = true) (ho : okL L i = true) (hl : L.set i (.int (x + Int32.ofInt n)) = L') (k : Go l G d mc ms M kc ks npc L' st h r h') : Go l G d mc ms M kc ks pc L st h r h' := by
  subst hl
  intro p e s m args below meth c ls H locs C hL hH hlc
  obtain ⟨hd, rfl⟩ := C.dec hc
  have hx := C.1
  have hb := C.2.1
  obtain ⟨ls', e', h'⟩ := hL.st1 (v := .int (x + Int32.ofInt n)) (Nat.blt_eq.mp hi) rfl (okL_spec ho)
  have hg' := hL.2.2 i _ hg (fun q => by cases q)
  have e' : storeLocals ls i (.int (x + Int32.ofInt n)) = some ls' := e'
  have hg' : ls[i]? = some (.val (.int x)) := hg'
  intro T hT X
  obtain ⟨t, a, b⟩ := k p e s m args below meth c ls' H locs C h' hH hlc T hT X
  refine ⟨t, ?_, b⟩
  jvm_step X.here [X.here.top, ↓top_set X.here.top, hx, hb, hd, hg', e']
  exact a
end RowsC
