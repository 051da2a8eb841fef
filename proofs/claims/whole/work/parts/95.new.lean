/-! ===== what is made: objects, arrays ===== -/
theorem mN_nA (h : Hp) (kd n : Nat) : mN (nA h kd n) = mN h + 1 := rfl
theorem mS_nA (h : Hp) (kd n a : Nat) : mS (nA h kd n) a = if a = mN h then (kd, n) else mS h a := rfl
theorem mI_nA (h : Hp) (kd n a k : Nat) : mI (nA h kd n) a k = if a = mN h then 0 else mI h a k := rfl
theorem mJ_nA (h : Hp) (kd n a k : Nat) : mJ (nA h kd n) a k = if a = mN h then 0 else mJ h a k := rfl
theorem mP_nA (h : Hp) (kd n a k : Nat) : mP (nA h kd n) a k = if a = mN h then none else mP h a k := rfl
def okTy : FieldType → Bool
  | .int => true
  | .boolean => true
  | .byte => true
  | .long => true
  | .object _ => true
  | .array _ => true
  | _ => false
theorem okTy_all : ∀ kd, kd < 11 → ∀ j, j < kN kd → okTy (kTy kd j) = true := by decide +kernel
theorem dflt_ty {kd j : Nat} (hkd : kd < 11) (hj : j < kN kd) : defaultValue (kTy kd j) = if sty kd j = 0 then .int 0 else if sty kd j = 1 then .long 0 else .null := by
  have ok := okTy_all kd hkd j hj
  unfold sty
  rw [if_pos hkd]
  cases e : kTy kd j <;> rw [e] at ok <;> first | rfl | exact absurd ok (by decide)
theorem vr_outer (c : ClassId) (N h0 : Nat) : ∀ i : Nat, Jvm.Free.Multi.outerC c N h0 i = arrV c N (fun j => va_rf (if j < i then some (h0 + 1 + j) else none))
  | 0 => by
    show ({ cls := c, slots := Array.replicate N .null, vm := .none } : Cell) = _
    rw [arrV_new]
    refine congrArg (arrV c N) (funext fun j => ?_)
    simp [va_rf]
  | i + 1 => by
    show (Jvm.Free.Multi.outerC c N h0 i).setSlot i (.ref (h0 + 1 + i)) = _
    rw [vr_outer c N h0 i, arrV_store]
    refine congrArg (arrV c N) (funext fun j => ?_)
    by_cases e : j = i
    · subst e
      simp [updV, va_rf]
    · by_cases h : j < i
      · simp [updV, e, h, Nat.lt_succ_of_lt h]
      · simp [updV, e, h, show ¬ j < i + 1 by omega]
section RowsN
variable {l : Launch} {G : GG} {d mc ms kc ks pc npc : Nat} {M : MD} {L st : List Value} {h h2 h' : Hp} {r : Option Value} {a k kd n i : Nat} {H H1 : Heap}
theorem cAt.kept' (hS : mS h2 a = mS h a) (hv : ∀ kd, cv G h2 kd a = cv G h kd a) (hq : H1[gB G + a]? = H[gB G + a]?) (hc : cAt G h a H) : cAt G h2 a H1 := by
  unfold cAt at hc ⊢
  rw [hS, hv]
  split
  · next q =>
    rw [if_pos q] at hc
    exact hc.kept hq
  · next q =>
    rw [if_neg q] at hc
    split
    · next q2 =>
      rw [if_pos q2] at hc
      rw [hq]
      exact hc
    · trivial
theorem cv_nA_ne {n' : Nat} (e : a ≠ mN h) : cv G (nA h kd n') k a = cv G h k a := by
  funext j
  unfold cv
  rw [mI_nA, mJ_nA, mP_nA, if_neg e, if_neg e, if_neg e]
theorem cv_nA {n' : Nat} (j : Nat) : cv G (nA h kd n') k (mN h) j = if sty k j = 0 then .int 0 else if sty k j = 1 then .long 0 else .null := by
  unfold cv
  rw [mI_nA, mJ_nA, mP_nA, if_pos rfl, if_pos rfl, if_pos rfl]
  rfl
theorem HR.nw {n' : Nat} (hH : HR G h H) (z : H1.size = gB G + mN h + 1) (o : ∀ q, q < gB G + mN h → H1[q]? = H[q]?) (hc : cAt G (nA h kd n') (mN h) H1) : HR G (nA h kd n') H1 := by
  obtain ⟨h1, h3, h4, h5⟩ := hH
  refine ⟨by rw [z, mN_nA]; omega, fun q hq => (o q (by omega)).trans (h3 q hq), fun a' ha' => ?_, fun a' ha' => ?_⟩
  · rw [mN_nA] at ha'
    by_cases e : a' = mN h
    · rw [e]; exact hc
    · exact cAt.kept' (by rw [mS_nA, if_neg e]) (fun kd => cv_nA_ne e) (o _ (by omega)) (h4 a' (by omega))
  · rw [mN_nA] at ha'
    rw [mS_nA, if_neg (by omega)]
    exact h5 a' (by omega)
theorem go_newa {N : Nat} {at_ : ArrayType} (hc : lk M pc = some (.newarray at_, npc, 2)) (h20 : 20 ≤ kd) (h24 : kd < 24) (hty : newarray.typeOf at_ = aTy kd) (ha : Cond.arrayClass (aTy kd) ∈ gtbl) (hN : N ≤ 1000) (hmc : kc + 1 ≤ mc) (hms : ks + N ≤ ms) (kk : Go l G d mc ms M (kc + 1) (ks + N) npc L (.ref (mN h) :: st) (nA h kd N) r h') : Go l G d mc ms M kc ks pc L (.int (nI N) :: st) h r h' := by
  intro p e s m args below meth c ls H locs C hL hH hlc
  obtain ⟨hd, rfl⟩ := C.dec hc
  have hx := C.1
  have hb := C.2.1
  have hts : ∀ w ∈ gtbl, w.before args s = true := fun w hw => C.word hw
  have hK : KX G s := C.2.2.2.2.2.2.2.1
  have hbt : N * componentBytes (newarray.typeOf at_) ≤ 536870912 := by
    have : componentBytes (newarray.typeOf at_) ≤ 8 := by cases at_ <;> decide
    have := Nat.mul_le_mul (Nat.le_refl N) this
    omega
  refine va_newaK hx hb (by rw [hty]; exact hts _ ha) rfl hd rfl (nI_pos (by omega)) (nI_clamp (by omega)) hbt hmc hms hH.1 (fun H' cA e1 z1 o1 hAr hNm => ?_)
  rw [hty] at hNm e1
  have ec : cA = gC G kd := Option.some.inj (hNm.symm.trans (hK.2.1 kd h20 (by omega)).2)
  subst ec
  refine kk p e s m args below meth c ls H' locs C hL (hH.nw z1 o1 ?_) hlc
  unfold cAt
  rw [mS_nA, if_pos rfl, if_neg (by dsimp only; omega), if_pos (by dsimp only; omega)]
  dsimp only
  rw [e1]
  congr 2
  funext j
  rw [cv_nA]
  rcases (by omega : kd = 20 ∨ kd = 21 ∨ kd = 22 ∨ kd = 23) with rfl | rfl | rfl | rfl <;> rfl
theorem go_new (hc : lk M pc = some (.new i, npc, 3)) (hkd : kd < 11) (hl : Cond.classLink M.1.cls i (kC kd) ∈ gtbl) (hi : Cond.instantiable (kC kd) (kN kd) ∈ gtbl) (hn : Cond.initialized (kC kd) ∈ gtbl) (hmc : kc + 1 ≤ mc) (hms : ks + kN kd ≤ ms) (kk : Go l G d mc ms M (kc + 1) (ks + kN kd) npc L (.ref (mN h) :: st) (nA h kd 0) r h') : Go l G d mc ms M kc ks pc L st h r h' := by
  intro p e s m args below meth c ls H locs C hL hH hlc
  obtain ⟨hd, rfl⟩ := C.dec hc
  have hx := C.1
  have hb := C.2.1
  have hts : ∀ w ∈ gtbl, w.before args s = true := fun w hw => C.word hw
  have hown : s.vm.findClass M.1.cls = some m.cls := C.2.2.2.2.2.1
  have hK : KX G s := C.2.2.2.2.2.2.2.1
  have hKn := hK.1.1 kd _ (k_cl kd hkd)
  refine W.newcK hx hb hown (hts _ hl) (hts _ hi) (hts _ hn) rfl hd hmc hms hKn.2.1 hH.1 (fun H' kC1 hkC e1 z1 o1 => ?_)
  refine kk p e s m args below meth c ls H' locs C hL (hH.nw z1 o1 ?_) hlc
  unfold cAt
  rw [mS_nA, if_pos rfl, if_pos (by dsimp only; exact hkd)]
  dsimp only
  exact (u_born (kTy kd) hts (k_in kd hkd) hKn hkC e1 (k_ty kd hkd)).to (fun j hj => by rw [cv_nA]; exact dflt_ty hkd hj)
/-- rows of rows -/
def mnH (h : Hp) (w m : Nat) : Hp := (fun a k => if mN h ≤ a ∧ a < mN h + 1 + w then 0 else mI h a k, fun a k => if mN h ≤ a ∧ a < mN h + 1 + w then 0 else mJ h a k, fun a k => if a = mN h then (if k < w then some (mN h + 1 + k) else none) else if mN h ≤ a ∧ a < mN h + 1 + w then none else mP h a k, fun a => if a = mN h then (24, w) else if mN h ≤ a ∧ a < mN h + 1 + w then (20, m) else mS h a, mN h + 1 + w)
theorem go_mna {w m : Nat} (hc : lk M pc = some (.multianewarray i 2, npc, 4)) (hl : Cond.classLink M.1.cls i ("[" ++ (FieldType.array .int).toString) ∈ gtbl) (ha : Cond.arrayClass .int ∈ gtbl) (hw : w ≤ 100) (hm : m ≤ 100) (hmc : kc + (1 + w) ≤ mc) (hms : ks + (w + w * m) ≤ ms) (kk : Go l G d mc ms M (kc + 1 + w) (ks + w + w * m) npc L (.ref (mN h) :: st) (mnH h w m) r h') : Go l G d mc ms M kc ks pc L (.int (nI m) :: .int (nI w) :: st) h r h' := by
  intro p e s mm args below meth c ls H locs C hL hH hlc
  obtain ⟨hd, rfl⟩ := C.dec hc
  have hx := C.1
  have hb := C.2.1
  have hts : ∀ w ∈ gtbl, w.before args s = true := fun w hw => C.word hw
  have hown : s.vm.findClass M.1.cls = some mm.cls := C.2.2.2.2.2.1
  have hK : KX G s := C.2.2.2.2.2.2.2.1
  intro T hT Xs
  have cw : (nI w).toNatClampNeg = w := nI_clamp (by omega)
  have cm : (nI m).toNatClampNeg = m := nI_clamp (by omega)
  have hover : va_AOA .int s := hK.2.2.2.2.2.2.2.2.2.2.1.1
  obtain ⟨vm₁, cA, comp, -, fA, fC, hO, -, X', step⟩ := Xs.multianewarray2F (ty := .int) hx hown (hts _ hl) (va_AOA.use hover) (hts _ ha) (g := F0 mm pc ls ((Value.int (nI m) :: Value.int (nI w) :: st).map (tv G))) rfl (by rw [hb]; exact hd) rfl (nI_pos (by omega)) (nI_pos (by omega)) (by rw [cw]; omega) (by rw [cm]; show m * 4 ≤ _; omega) (by rw [cm]; omega) (by decide) (by decide) (by rw [cw]; exact hmc) (by rw [cw, cm]; exact hms)
  rw [cw, cm] at X' step
  have ec : comp = gC G 20 := Option.some.inj (fC.symm.trans (hK.2.1 20 (by omega) (by omega)).2)
  have eA : cA = gC G 24 := Option.some.inj (fA.symm.trans (hK.2.1 24 (by omega) (by omega)).2)
  subst ec
  subst eA
  generalize hF : Jvm.Free.Multi.fill (T.setVm vm₁) (gC G 24) (gC G 20) w m (defaultValue .int) w = F at X' step
  have hTh : (T.setVm vm₁).heap = H := hT
  obtain ⟨f1, f2, -, -⟩ := Jvm.Free.Multi.fill_facts (T.setVm vm₁) (gC G 24) (gC G 20) w m (defaultValue .int) w
  rw [hF, hTh] at f1 f2
  have hold : ∀ x : Nat, x < H.size → F.heap[x]? = H[x]? := fun x hx => by
    have := Jvm.Free.Multi.fill_old (T.setVm vm₁) (gC G 24) (gC G 20) w m (defaultValue .int) (a := x) (by rw [hTh]; exact hx) w
    rw [hF, hTh] at this
    exact this
  have hrow : ∀ j : Nat, j < w → F.heap[H.size + 1 + j]? = some (Jvm.Free.Multi.innerC (gC G 20) m (defaultValue .int)) := fun j hj => by
    have := Jvm.Free.Multi.fill_inner (T.setVm vm₁) (gC G 24) (gC G 20) w m (defaultValue .int) w j hj
    rw [hF, hTh] at this
    exact this
  have hsz := hH.1
  rw [hsz] at f1 f2 hrow hold
  have HN : HR G (mnH h w m) F.heap := by
    obtain ⟨h1, h3, h4, h5⟩ := hH
    refine ⟨by rw [f1]; show _ = gB G + (mN h + 1 + w); omega, fun q hq => (hold q (by omega)).trans (h3 q hq), fun a ha => ?_, fun a ha => ?_⟩
    · have ha : a < mN h + 1 + w := ha
      by_cases e1 : a < mN h
      · refine cAt.kept' ?_ (fun kd => ?_) (hold _ (by omega)) (h4 a e1)
        · show (if a = mN h then (24, w) else if mN h ≤ a ∧ a < mN h + 1 + w then (20, m) else mS h a) = _
          rw [if_neg (by omega), if_neg (by omega)]
        · funext j
          unfold cv
          show (if sty kd j = 0 then Value.int (if mN h ≤ a ∧ a < mN h + 1 + w then 0 else mI h a j) else if sty kd j = 1 then Value.long (if mN h ≤ a ∧ a < mN h + 1 + w then 0 else mJ h a j) else va_rf ((if a = mN h then (if j < w then some (mN h + 1 + j) else none) else if mN h ≤ a ∧ a < mN h + 1 + w then none else mP h a j).map (gB G + ·))) = _
          rw [if_neg (show ¬ (mN h ≤ a ∧ a < mN h + 1 + w) by omega), if_neg (show ¬ (mN h ≤ a ∧ a < mN h + 1 + w) by omega), if_neg (show ¬ a = mN h by omega), if_neg (show ¬ (mN h ≤ a ∧ a < mN h + 1 + w) by omega)]
      · by_cases e2 : a = mN h
        · subst e2
          have es : mS (mnH h w m) (mN h) = (24, w) := if_pos rfl
          unfold cAt
          rw [es, if_neg (show ¬ (24 : Nat) < 11 by decide), if_pos (show (24 : Nat) < 30 by decide)]
          dsimp only
          rw [f2, vr_outer]
          congr 2
          funext j
          have ep : mP (mnH h w m) (mN h) j = if j < w then some (mN h + 1 + j) else none := if_pos rfl
          have e24 : cv G (mnH h w m) 24 (mN h) j = va_rf ((if j < w then some (mN h + 1 + j) else none).map (gB G + ·)) := by
            rw [← ep]
            rfl
          rw [e24]
          by_cases q : j < w
          · rw [if_pos q, if_pos q]
            show Value.ref (gB G + mN h + 1 + j) = Value.ref (gB G + (mN h + 1 + j))
            rw [show gB G + mN h + 1 + j = gB G + (mN h + 1 + j) by omega]
          · rw [if_neg q, if_neg q]; rfl
        · have es : mS (mnH h w m) a = (20, m) := (if_neg e2).trans (if_pos (by omega))
          unfold cAt
          rw [es, if_neg (show ¬ (20 : Nat) < 11 by decide), if_pos (show (20 : Nat) < 30 by decide)]
          dsimp only
          obtain ⟨j, rfl⟩ : ∃ j, a = mN h + 1 + j := ⟨a - (mN h + 1), by omega⟩
          rw [show gB G + (mN h + 1 + j) = gB G + mN h + 1 + j by omega, hrow j (by omega)]
          congr 1
          show ({ cls := gC G 20, slots := Array.replicate m (defaultValue .int), vm := .none } : Cell) = _
          rw [arrV_new]
          congr 1
          funext x
          have ei : mI (mnH h w m) (mN h + 1 + j) x = 0 := if_pos (by omega)
          have e20 : cv G (mnH h w m) 20 (mN h + 1 + j) x = .int (mI (mnH h w m) (mN h + 1 + j) x) := rfl
          rw [e20, ei]
          rfl
    · have ha : mN h + 1 + w ≤ a := ha
      show 30 ≤ (if a = mN h then (24, w) else if mN h ≤ a ∧ a < mN h + 1 + w then (20, m) else mS h a).1
      rw [if_neg (by omega), if_neg (by omega)]
      exact h5 a (by omega)
  obtain ⟨t, a1, b1⟩ := kk p e s mm args below meth c ls F.heap locs C hL HN hlc F rfl X'
  refine ⟨t, step t ?_, b1⟩
  have e : T.heap.size = gB G + mN h := by rw [hT]; exact hsz
  rw [e]
  exact a1
end RowsN
