theorem w_ini_math : Cond.initialized "java/lang/Math" ∈ gtbl := mem_g 119 (by decide +kernel) rfl
theorem w_ini_sys : Cond.initialized "java/lang/System" ∈ gtbl := mem_g 122 (by decide +kernel) rfl
theorem w_min : Cond.static Lib.Math.min.name ∈ gtbl ∧ Cond.code Lib.Math.min.name Lib.Math.min.code 2 (some .int) ∈ gtbl := ⟨mem_g 503 (by decide +kernel) rfl, mem_g 504 (by decide +kernel) rfl⟩
theorem w_max : Cond.static Lib.Math.max.name ∈ gtbl ∧ Cond.code Lib.Math.max.name Lib.Math.max.code 2 (some .int) ∈ gtbl := ⟨mem_g 627 (by decide +kernel) rfl, mem_g 628 (by decide +kernel) rfl⟩
theorem w_minl : Cond.static Lib.MathLoose.min_long.x ∈ gtbl ∧ Cond.code Lib.MathLoose.min_long.x Lib.MathLoose.min_long.code 4 (some .long) ∈ gtbl := ⟨mem_g 907 (by decide +kernel) rfl, mem_g 908 (by decide +kernel) rfl⟩
theorem w_maxl : Cond.static Lib.MathLoose.max_long.x ∈ gtbl ∧ Cond.code Lib.MathLoose.max_long.x Lib.MathLoose.max_long.code 4 (some .long) ∈ gtbl := ⟨mem_g 910 (by decide +kernel) rfl, mem_g 911 (by decide +kernel) rfl⟩
theorem w_absl : Cond.static Lib.MathLoose.abs_long.x ∈ gtbl ∧ Cond.code Lib.MathLoose.abs_long.x Lib.MathLoose.abs_long.code 2 (some .long) ∈ gtbl := ⟨mem_g 1723 (by decide +kernel) rfl, mem_g 1724 (by decide +kernel) rfl⟩
theorem w_copy : Cond.native arraycopyName ∈ gtbl ∧ Cond.static arraycopyName ∈ gtbl := ⟨mem_g 812 (by decide +kernel) rfl, mem_g 811 (by decide +kernel) rfl⟩
theorem w_obj : Cond.instanceMethod objectInit ∈ gtbl ∧ Cond.code objectInit ⟨#[0xb1]⟩ 1 none ∈ gtbl := ⟨mem_g 135 (by decide +kernel) rfl, mem_g 136 (by decide +kernel) rfl⟩
section RowsG
variable {l : Launch} {G : GG} {d mc ms kc ks pc npc : Nat} {M : MD} {L st : List Value} {h h1 h' : Hp} {r : Option Value} {n i : Nat}
theorem go_ldc {v : Int32} (hc : lk M pc = some (.ldc i, npc, 2)) (hk : Cond.constant M.1.cls i v ∈ gtbl) (kk : Go l G d mc ms M kc ks npc L (.int v :: st) h r h') : Go l G d mc ms M kc ks pc L st h r h' := by
  intro p e s m args below meth c ls H locs C hL hH hlc
  obtain ⟨hd, rfl⟩ := C.dec hc
  have hx := C.1
  have hb := C.2.1
  have hts : ∀ w ∈ gtbl, w.before args s = true := fun w hw => C.word hw
  have hown : s.vm.findClass M.1.cls = some m.cls := C.2.2.2.2.2.1
  have hK : KX G s := C.2.2.2.2.2.2.2.1
  have hml : c.maxLocals = M.2.2.1 := C.2.2.2.1
  exact lv_ldc hx hb hown (hts _ hk) hd (kk p e s m args below meth c ls H locs C hL hH hlc)
theorem go_ldcw {v : Int32} (hc : lk M pc = some (.ldc_w i, npc, 3)) (hk : Cond.constant M.1.cls i v ∈ gtbl) (kk : Go l G d mc ms M kc ks npc L (.int v :: st) h r h') : Go l G d mc ms M kc ks pc L st h r h' := by
  intro p e s m args below meth c ls H locs C hL hH hlc
  obtain ⟨hd, rfl⟩ := C.dec hc
  have hx := C.1
  have hb := C.2.1
  have hts : ∀ w ∈ gtbl, w.before args s = true := fun w hw => C.word hw
  have hown : s.vm.findClass M.1.cls = some m.cls := C.2.2.2.2.2.1
  have hK : KX G s := C.2.2.2.2.2.2.2.1
  have hml : c.maxLocals = M.2.2.1 := C.2.2.2.1
  exact lv_ldcw hx hb hown (hts _ hk) hd (kk p e s m args below meth c ls H locs C hL hH hlc)
theorem go_ldc2 {v : Int64} (hc : lk M pc = some (.ldc2_w i, npc, 3)) (hk : Cond.constantLong M.1.cls i v ∈ gtbl) (kk : Go l G d mc ms M kc ks npc L (.long v :: st) h r h') : Go l G d mc ms M kc ks pc L st h r h' := by
  intro p e s m args below meth c ls H locs C hL hH hlc
  obtain ⟨hd, rfl⟩ := C.dec hc
  have hx := C.1
  have hb := C.2.1
  have hts : ∀ w ∈ gtbl, w.before args s = true := fun w hw => C.word hw
  have hown : s.vm.findClass M.1.cls = some m.cls := C.2.2.2.2.2.1
  have hK : KX G s := C.2.2.2.2.2.2.2.1
  have hml : c.maxLocals = M.2.2.1 := C.2.2.2.1
  exact lv_ldc2 hx hb hown (hts _ hk) hd (kk p e s m args below meth c ls H locs C hL hH hlc)
theorem go_min {x y : Int32} (hc : lk M pc = some (.invokestatic i, npc, 3)) (hl : Cond.methodLink M.1.cls i Lib.Math.min.name ∈ gtbl) (hst : Nat.ble (st.map fun v => v.category).sum 8 = true) (hmc : kc ≤ mc) (hms : ks ≤ ms) (kk : Go l G (d + 1) mc ms M kc ks npc L (.int (if y < x then y else x) :: st) h r h') : Go l G (d + 1) mc ms M kc ks pc L (.int y :: .int x :: st) h r h' := by
  intro p e s m args below meth c ls H locs C hL hH hlc
  obtain ⟨hd, rfl⟩ := C.dec hc
  have hx := C.1
  have hb := C.2.1
  have hts : ∀ w ∈ gtbl, w.before args s = true := fun w hw => C.word hw
  have hown : s.vm.findClass M.1.cls = some m.cls := C.2.2.2.2.2.1
  have hK : KX G s := C.2.2.2.2.2.2.2.1
  have hml : c.maxLocals = M.2.2.1 := C.2.2.2.1
  exact va_mmin hx hb (hml.trans hL.1.symm) hown (hts _ hl) (hts _ w_min.1) (hts _ w_ini_math) (hts _ w_min.2) (Nat.le_add_left 1 d) (by rw [cat_sum]; have := Nat.ble_eq.mp hst; show _ + 13 ≤ 64 * (d + 1); omega) hmc hms hd (kk p e s m args below meth c ls H locs C hL hH hlc)
theorem go_max {x y : Int32} (hc : lk M pc = some (.invokestatic i, npc, 3)) (hl : Cond.methodLink M.1.cls i Lib.Math.max.name ∈ gtbl) (hst : Nat.ble (st.map fun v => v.category).sum 8 = true) (hmc : kc ≤ mc) (hms : ks ≤ ms) (kk : Go l G (d + 1) mc ms M kc ks npc L (.int (if x < y then y else x) :: st) h r h') : Go l G (d + 1) mc ms M kc ks pc L (.int y :: .int x :: st) h r h' := by
  intro p e s m args below meth c ls H locs C hL hH hlc
  obtain ⟨hd, rfl⟩ := C.dec hc
  have hx := C.1
  have hb := C.2.1
  have hts : ∀ w ∈ gtbl, w.before args s = true := fun w hw => C.word hw
  have hown : s.vm.findClass M.1.cls = some m.cls := C.2.2.2.2.2.1
  have hK : KX G s := C.2.2.2.2.2.2.2.1
  have hml : c.maxLocals = M.2.2.1 := C.2.2.2.1
  exact va_mmax hx hb (hml.trans hL.1.symm) hown (hts _ hl) (hts _ w_max.1) (hts _ w_ini_math) (hts _ w_max.2) (Nat.le_add_left 1 d) (by rw [cat_sum]; have := Nat.ble_eq.mp hst; show _ + 13 ≤ 64 * (d + 1); omega) hmc hms hd (kk p e s m args below meth c ls H locs C hL hH hlc)
theorem go_minl {x y : Int64} (hc : lk M pc = some (.invokestatic i, npc, 3)) (hl : Cond.methodLink M.1.cls i Lib.MathLoose.min_long.x ∈ gtbl) (hst : Nat.ble (st.map fun v => v.category).sum 8 = true) (hmc : kc ≤ mc) (hms : ks ≤ ms) (kk : Go l G (d + 1) mc ms M kc ks npc L (.long (if y < x then y else x) :: st) h r h') : Go l G (d + 1) mc ms M kc ks pc L (.long y :: .long x :: st) h r h' := by
  intro p e s m args below meth c ls H locs C hL hH hlc
  obtain ⟨hd, rfl⟩ := C.dec hc
  have hx := C.1
  have hb := C.2.1
  have hts : ∀ w ∈ gtbl, w.before args s = true := fun w hw => C.word hw
  have hown : s.vm.findClass M.1.cls = some m.cls := C.2.2.2.2.2.1
  have hK : KX G s := C.2.2.2.2.2.2.2.1
  have hml : c.maxLocals = M.2.2.1 := C.2.2.2.1
  exact va_mmin_long hx hb (hml.trans hL.1.symm) hown (hts _ hl) (hts _ w_minl.1) (hts _ w_ini_math) (hts _ w_minl.2) (Nat.le_add_left 1 d) (by rw [cat_sum]; have := Nat.ble_eq.mp hst; show _ + 15 ≤ 64 * (d + 1); omega) hmc hms hd (kk p e s m args below meth c ls H locs C hL hH hlc)
theorem go_maxl {x y : Int64} (hc : lk M pc = some (.invokestatic i, npc, 3)) (hl : Cond.methodLink M.1.cls i Lib.MathLoose.max_long.x ∈ gtbl) (hst : Nat.ble (st.map fun v => v.category).sum 8 = true) (hmc : kc ≤ mc) (hms : ks ≤ ms) (kk : Go l G (d + 1) mc ms M kc ks npc L (.long (if y < x then x else y) :: st) h r h') : Go l G (d + 1) mc ms M kc ks pc L (.long y :: .long x :: st) h r h' := by
  intro p e s m args below meth c ls H locs C hL hH hlc
  obtain ⟨hd, rfl⟩ := C.dec hc
  have hx := C.1
  have hb := C.2.1
  have hts : ∀ w ∈ gtbl, w.before args s = true := fun w hw => C.word hw
  have hown : s.vm.findClass M.1.cls = some m.cls := C.2.2.2.2.2.1
  have hK : KX G s := C.2.2.2.2.2.2.2.1
  have hml : c.maxLocals = M.2.2.1 := C.2.2.2.1
  exact va_mmax_long hx hb (hml.trans hL.1.symm) hown (hts _ hl) (hts _ w_maxl.1) (hts _ w_ini_math) (hts _ w_maxl.2) (Nat.le_add_left 1 d) (by rw [cat_sum]; have := Nat.ble_eq.mp hst; show _ + 15 ≤ 64 * (d + 1); omega) hmc hms hd (kk p e s m args below meth c ls H locs C hL hH hlc)
theorem go_absl {x : Int64} (hc : lk M pc = some (.invokestatic i, npc, 3)) (hl : Cond.methodLink M.1.cls i Lib.MathLoose.abs_long.x ∈ gtbl) (hst : Nat.ble (st.map fun v => v.category).sum 8 = true) (hmc : kc ≤ mc) (hms : ks ≤ ms) (kk : Go l G (d + 1) mc ms M kc ks npc L (.long (if 0 < x then x else -x) :: st) h r h') : Go l G (d + 1) mc ms M kc ks pc L (.long x :: st) h r h' := by
  intro p e s m args below meth c ls H locs C hL hH hlc
  obtain ⟨hd, rfl⟩ := C.dec hc
  have hx := C.1
  have hb := C.2.1
  have hts : ∀ w ∈ gtbl, w.before args s = true := fun w hw => C.word hw
  have hown : s.vm.findClass M.1.cls = some m.cls := C.2.2.2.2.2.1
  have hK : KX G s := C.2.2.2.2.2.2.2.1
  have hml : c.maxLocals = M.2.2.1 := C.2.2.2.1
  exact va_mabs_long hx hb (hml.trans hL.1.symm) hown (hts _ hl) (hts _ w_absl.1) (hts _ w_ini_math) (hts _ w_absl.2) (Nat.le_add_left 1 d) (by rw [cat_sum]; have := Nat.ble_eq.mp hst; show _ + 13 ≤ 64 * (d + 1); omega) hmc hms hd (kk p e s m args below meth c ls H locs C hL hH hlc)
theorem go_objInit {b : Nat} (hc : lk M pc = some (.invokespecial i, npc, 3)) (hl : Cond.methodLink M.1.cls i objectInit ∈ gtbl) (hst : Nat.ble (st.map fun v => v.category).sum 8 = true) (kk : Go l G (d + 1) mc ms M kc ks npc L st h r h') : Go l G (d + 1) mc ms M kc ks pc L (.ref b :: st) h r h' := by
  intro p e s m args below meth c ls H locs C hL hH hlc
  obtain ⟨hd, rfl⟩ := C.dec hc
  have hx := C.1
  have hb := C.2.1
  have hts : ∀ w ∈ gtbl, w.before args s = true := fun w hw => C.word hw
  have hown : s.vm.findClass M.1.cls = some m.cls := C.2.2.2.2.2.1
  have hK : KX G s := C.2.2.2.2.2.2.2.1
  have hml : c.maxLocals = M.2.2.1 := C.2.2.2.1
  exact W.objInit hx hb hown (hts _ hl) (hts _ w_obj.1) (hts _ w_obj.2) rfl (hL.1.trans hml.symm) rfl hd (Nat.le_add_left 1 d) (by have h5 := Nat.ble_eq.mp hst; rw [cat_sum]; show 2 * 0 + _ + 12 ≤ 64 * (d + 1); omega) (kk p e s m args below meth c ls H locs C hL hH hlc)
theorem go_copy {a a0 n0 n1 : Nat} {sp dp n : Int32} (hc : lk M pc = some (.invokestatic i, npc, 3)) (hl : Cond.methodLink M.1.cls i arraycopyName ∈ gtbl) (hs0 : mS h a0 = (20, n0)) (hs1 : mS h a = (20, n1)) (h1 : ¬ sp < 0) (h2 : ¬ dp < 0) (h3 : ¬ n < 0) (h4 : sp.toNatClampNeg + n.toNatClampNeg ≤ n0) (h5 : dp.toNatClampNeg + n.toNatClampNeg ≤ n1) (hst : Nat.ble (st.map fun v => v.category).sum 8 = true)
    (kk : Go l G (d + 1) mc ms M kc ks npc L st (wR h a (va_cpy (mI h a0) (mI h a) sp.toNatClampNeg dp.toNatClampNeg n.toNatClampNeg)) r h') : Go l G (d + 1) mc ms M kc ks pc L (.int n :: .int dp :: .ref a :: .int sp :: .ref a0 :: st) h r h' := by
  intro p e s m args below meth c ls H locs C hL hH hlc
  obtain ⟨hd, rfl⟩ := C.dec hc
  have hx := C.1
  have hb := C.2.1
  have hts : ∀ w ∈ gtbl, w.before args s = true := fun w hw => C.word hw
  have hown : s.vm.findClass M.1.cls = some m.cls := C.2.2.2.2.2.1
  have hK : KX G s := C.2.2.2.2.2.2.2.1
  have hml : c.maxLocals = M.2.2.1 := C.2.2.2.1
  have nn : ∀ z : Int32, ¬ z < 0 → z.toInt = (z.toNatClampNeg : Int) := by
    intro z hz
    have hz0 : (0 : Int) ≤ z.toInt := by
      have := Int32.not_lt.mp hz
      simpa using Int32.le_iff_toInt_le.mp this
    show z.toInt = ((z.toInt.toNat : Nat) : Int)
    omega
  have cvi : ∀ b, cv G h 20 b = fun j => .int (mI h b j) := fun b => by
    funext j
    unfold cv
    rw [if_pos (sty_arr (by omega) (by omega) (by omega) j)]
  have hc0 : H[gB G + a0]? = some (vp_cell (gC G 20) (n0, .inl (mI h a0))) := by rw [vp_cell_i, ← cvi a0]; exact hH.arr hs0 (by omega) (by omega)
  have hc1 : H[gB G + a]? = some (vp_cell (gC G 20) (n1, .inl (mI h a))) := by rw [vp_cell_i, ← cvi a]; exact hH.arr hs1 (by omega) (by omega)
  have hA := (hK.2.1 20 (by omega) (by omega)).1
  intro T hT X
  obtain ⟨-, k0, hk0, cm0, hkk0⟩ := hA n0 (fun j => .int (mI h a0 j))
  obtain ⟨-, k1, hk1, cm1, hkk1⟩ := hA n1 (fun j => .int (mI h a j))
  obtain ⟨vm', X', step⟩ := X.arraycopy hx hown (hts _ hl) (hts _ w_copy.1) (hts _ w_copy.2) (hts _ w_ini_sys) (src := gB G + a0) (dst := gB G + a) (cs := vp_cell (gC G 20) (n0, .inl (mI h a0))) (cd := vp_cell (gC G 20) (n1, .inl (mI h a))) (srcPos := sp) (destPos := dp) (n := n) (by rw [hT]; exact hc0) (by rw [hT]; exact hc1)
    (fun _ h => by cases h) (fun _ h => by cases h) (fun h => by cases h) (fun h => by cases h) hk0 hk1 hkk0 hkk1 (by simp [aTy, refKind]) h1 h2 h3
    (by rw [nn sp h1, nn n h3]; show ¬ _ > ((arrV (gC G 20) n0 (fun j => .int (mI h a0 j))).slots.size : Int); rw [arrV_size]; omega)
    (by rw [nn dp h2, nn n h3]; show ¬ _ > ((arrV (gC G 20) n1 (fun j => .int (mI h a j))).slots.size : Int); rw [arrV_size]; omega)
    (fun vm₁ _ i hi => by
      have e : (vp_cell (gC G 20) (n0, .inl (mI h a0))).slots.getD (sp.toNatClampNeg + i) .null = .int (mI h a0 (sp.toNatClampNeg + i)) := by
        show (arrV (gC G 20) n0 (fun j => .int (mI h a0 j))).slots.getD _ _ = _
        rw [Array.getD_eq_getD_getElem?, arrV_read _ _ (by omega)]
        rfl
      refine ⟨?_, ?_⟩
      · rw [e]
        rfl
      · rw [e]
        exact trivial)
    (g := F0 m pc ls ((.int n :: .int dp :: .ref a :: .int sp :: .ref a0 :: st).map (tv G))) rfl (hL.1.trans hml.symm) (rest := st.map (tv G)) rfl (by rw [hb]; exact hd) (Nat.le_add_left 1 d) (by
      have h6 := Nat.ble_eq.mp hst
      rw [cat_sum]
      show 2 * 0 + _ + (nativeFrameWords "java/lang/System" "arraycopy" 5 + 11) ≤ 64 * (d + 1)
      have h7 : nativeFrameWords "java/lang/System" "arraycopy" 5 + 11 ≤ 40 := by decide +kernel
      omega)
  have e1 : copied (vp_cell (gC G 20) (n0, .inl (mI h a0))) (vp_cell (gC G 20) (n1, .inl (mI h a))) sp dp n = vp_cell (gC G 20) (n1, .inl (va_cpy (mI h a0) (mI h a) sp.toNatClampNeg dp.toNatClampNeg n.toNatClampNeg)) := va_copied (fun z => .int z) (gC G 20) (gC G 20) (mI h a0) (mI h a) h4
  rw [e1] at X' step
  generalize hw : va_cpy (mI h a0) (mI h a) sp.toNatClampNeg dp.toNatClampNeg n.toNatClampNeg = w at X' step kk
  have hlt : gB G + a < H.size := (Array.getElem?_eq_some_iff.mp hc1).1
  have hheap : ((T.setVm vm').setCell (gB G + a) (vp_cell (gC G 20) (n1, .inl w))).heap = H.setIfInBounds (gB G + a) (vp_cell (gC G 20) (n1, .inl w)) := by rw [← hT]; rfl
  have oq : ∀ q : Nat, q ≠ gB G + a → (H.setIfInBounds (gB G + a) (vp_cell (gC G 20) (n1, .inl w)))[q]? = H[q]? := fun q hq => by simp [Array.getElem?_setIfInBounds, Ne.symm hq]
  have hH2 : HR G (wR h a w) (H.setIfInBounds (gB G + a) (vp_cell (gC G 20) (n1, .inl w))) := by
    refine hH.upd (a := a) (by simp) oq rfl rfl (fun a' kd e => cv_wR_ne e w) ?_
    unfold cAt
    have e4 : mS (wR h a w) a = (20, n1) := hs1
    rw [e4, if_neg (by omega), if_pos (by omega), cv_wR (fun j => sty_arr (by omega) (by omega) (by omega) j)]
    simp [Array.getElem?_setIfInBounds, hlt, vp_cell_i]
  obtain ⟨t, a1, b1⟩ := kk p e s m args below meth c ls _ _ C hL hH2 (fun q hq => by
    rcases List.mem_append.mp hq with z | z
    · exact hlc q z
    · obtain ⟨y, -, hy⟩ := List.mem_map.mp z
      rw [← hy]
      exact Nat.le_add_right _ _) _ hheap X'
  exact ⟨t, step t a1, b1⟩

end RowsG
