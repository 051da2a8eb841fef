section RowsF
variable {l : Launch} {G : GG} {d mc ms kc ks pc npc : Nat} {M : MD} {L st : List Value} {h h1 h' : Hp} {r r1 : Option Value} {kd n i : Nat}
def argF (as : List Value) : List Value := as.flatMap fun v => if v.category = 2 then [v, .null] else [v]
def argL (as : List Value) (n : Nat) : List Value := argF as ++ List.replicate (n - (argF as).length) .null
theorem argF_in {G : GG} : ∀ {as : List Value} {b i : Nat} {v : Value}, (argF as)[i]? = some v → v ≠ .null → (b + i, tv G v) ∈ lv_args b (as.map (tv G))
  | [], b, i, v, h, _ => by simp [argF] at h
  | w :: t, b, i, v, h, hv => by
    have e : argF (w :: t) = (if w.category = 2 then [w, .null] else [w]) ++ argF t := by simp [argF]
    rw [e] at h
    show _ ∈ (b, tv G w) :: lv_args (if (tv G w).category = 2 then b + 2 else b + 1) (t.map (tv G))
    rw [tv_cat]
    by_cases hc : w.category = 2
    · rw [if_pos hc] at h ⊢
      match i, h with
      | 0, h =>
        rw [List.cons_append, List.getElem?_cons_zero] at h
        cases h
        exact List.mem_cons_self
      | 1, h =>
        rw [List.cons_append, List.getElem?_cons_succ, List.cons_append, List.getElem?_cons_zero] at h
        cases h
        exact absurd rfl hv
      | i + 2, h =>
        rw [List.cons_append, List.getElem?_cons_succ, List.cons_append, List.getElem?_cons_succ, List.nil_append] at h
        have h5 := argF_in (G := G) (b := b + 2) h hv
        rw [show b + (i + 2) = b + 2 + i by omega]
        exact List.mem_cons_of_mem _ h5
    · rw [if_neg hc] at h ⊢
      match i, h with
      | 0, h =>
        rw [List.cons_append, List.getElem?_cons_zero] at h
        cases h
        exact List.mem_cons_self
      | i + 1, h =>
        rw [List.cons_append, List.getElem?_cons_succ, List.nil_append] at h
        have h5 := argF_in (G := G) (b := b + 1) h hv
        rw [show b + (i + 1) = b + 1 + i by omega]
        exact List.mem_cons_of_mem _ h5
theorem argF_len {G : GG} (as : List Value) : (lg_sl (as.map (tv G))).length = (argF as).length := by
  induction as with
  | nil => rfl
  | cons v t ih =>
    have e1 : argF (v :: t) = (if v.category = 2 then [v, .null] else [v]) ++ argF t := by simp [argF]
    have e2 : lg_sl ((v :: t).map (tv G)) = (if (tv G v).category = 2 then [.val (tv G v), .second] else [.val (tv G v)]) ++ lg_sl (t.map (tv G)) := by simp [lg_sl]
    rw [e1, e2, List.length_append, List.length_append, ih, tv_cat]
    split <;> rfl
theorem LR.entry {as : List Value} (hn : (argF as).length ≤ n) : LR G (argL as n) ((lg_sl (as.map (tv G)) ++ List.replicate (n - (lg_sl (as.map (tv G))).length) Slot.unset).toArray) n := by
  have h0 := lv_entry (as.map (tv G)) (n := n) (by rw [argF_len]; exact hn)
  refine ⟨h0.1, h0.2.1, fun j v hj hv => ?_⟩
  unfold argL at hj
  by_cases hl : j < (argF as).length
  · rw [List.getElem?_append_left hl] at hj
    have h5 := argF_in (G := G) (b := 0) hj hv
    rw [Nat.zero_add] at h5
    exact h0.2.2 (j, tv G v) h5
  · rw [List.getElem?_append_right (by omega)] at hj
    have h6 := (List.mem_replicate.mp (List.mem_of_getElem? hj)).2
    exact absurd h6 hv
theorem Ct.of {as : List Value} (hM : MOk M) (hn : Nat.ble (argF as).length M.2.2.1 = true) (hl : argL as M.2.2.1 = L) (hg : Go l G d mc ms M 0 0 0 L [] h r h') : Ct l G d mc ms M as h r h' := by
  subst hl
  refine Met.ofW (cc := M.2.1) (maxL := M.2.2.1) (ret := M.2.2.2.1) hM.1 rfl ?_
  intro p e s m args below meth c s₁ B hml hv
  obtain ⟨rfl, hH, hK⟩ := hv
  have C : Cx G M p s m (as.map (tv G)).toArray meth c := ⟨B.exec, B.bytes, B.returns, hml, fun w hw => atoms_spec (ws := wsM M) B.pre w (List.mem_cons_of_mem _ hw), findClass_of_methodNamed B.named, B.notSynchronized, hK, hM.2.2.2.2.2, (name_of_methodNamed B.named B.method).1⟩
  rw [lg_entry_eq]
  exact hg p e s m _ below meth c _ s.heap [] C (LR.entry (Nat.ble_eq.mp hn)) hH (fun q hq => by cases hq)
theorem go_ireturn {v : Int32} (hc : lk M pc = some (.ireturn, npc, 1)) (hr : M.2.2.2.1 = some .int) (e1 : some (.int v) = r) (e2 : h = h') : Go l G d mc ms M mc ms pc L [.int v] h r h' := by
  subst e1; subst e2
  intro p e s m args below meth c ls H locs C hL hH hlc
  obtain ⟨hd, -⟩ := C.dec hc
  have hx := C.1
  have hb := C.2.1
  have hts : ∀ w ∈ gtbl, w.before args s = true := fun w hw => C.word hw
  have hown : s.vm.findClass M.1.cls = some m.cls := C.2.2.2.2.2.1
  have hK : KX G s := C.2.2.2.2.2.2.2.1
  have hml : c.maxLocals = M.2.2.1 := C.2.2.2.1
  exact W.iret (v := v) hx hb (C.2.2.1.trans hr) (fun t ht hW => ⟨rfl, by rw [ht]; exact hH⟩) hlc hd C.2.2.2.2.2.2.1
theorem go_zreturn {v : Int32} (hc : lk M pc = some (.ireturn, npc, 1)) (hr : M.2.2.2.1 = some .boolean) (hv : v = 0 ∨ v = 1) (e1 : some (.int v) = r) (e2 : h = h') : Go l G d mc ms M mc ms pc L [.int v] h r h' := by
  subst e1; subst e2
  intro p e s m args below meth c ls H locs C hL hH hlc
  obtain ⟨hd, -⟩ := C.dec hc
  have hx := C.1
  have hb := C.2.1
  have hts : ∀ w ∈ gtbl, w.before args s = true := fun w hw => C.word hw
  have hown : s.vm.findClass M.1.cls = some m.cls := C.2.2.2.2.2.1
  have hK : KX G s := C.2.2.2.2.2.2.2.1
  have hml : c.maxLocals = M.2.2.1 := C.2.2.2.1
  exact W.zret (v := v) hx hb (C.2.2.1.trans hr) (nar_bool hv).1 (fun t ht hW => ⟨rfl, by rw [ht]; exact hH⟩) hlc hd C.2.2.2.2.2.2.1
theorem go_lreturn {v : Int64} (hc : lk M pc = some (.lreturn, npc, 1)) (hr : M.2.2.2.1 = some .long) (e1 : some (.long v) = r) (e2 : h = h') : Go l G d mc ms M mc ms pc L [.long v] h r h' := by
  subst e1; subst e2
  intro p e s m args below meth c ls H locs C hL hH hlc
  obtain ⟨hd, -⟩ := C.dec hc
  have hx := C.1
  have hb := C.2.1
  have hts : ∀ w ∈ gtbl, w.before args s = true := fun w hw => C.word hw
  have hown : s.vm.findClass M.1.cls = some m.cls := C.2.2.2.2.2.1
  have hK : KX G s := C.2.2.2.2.2.2.2.1
  have hml : c.maxLocals = M.2.2.1 := C.2.2.2.1
  exact W.lret (v := v) hx hb (C.2.2.1.trans hr) (fun t ht hW => ⟨rfl, by rw [ht]; exact hH⟩) hlc hd C.2.2.2.2.2.2.1
theorem go_return (hc : lk M pc = some (.return_, npc, 1)) (hr : M.2.2.2.1 = none) (e1 : none = r) (e2 : h = h') : Go l G d mc ms M mc ms pc L [] h r h' := by
  subst e1; subst e2
  intro p e s m args below meth c ls H locs C hL hH hlc
  obtain ⟨hd, -⟩ := C.dec hc
  have hx := C.1
  have hb := C.2.1
  have hts : ∀ w ∈ gtbl, w.before args s = true := fun w hw => C.word hw
  have hown : s.vm.findClass M.1.cls = some m.cls := C.2.2.2.2.2.1
  have hK : KX G s := C.2.2.2.2.2.2.2.1
  have hml : c.maxLocals = M.2.2.1 := C.2.2.2.1
  exact W.vret hx hb (C.2.2.1.trans hr) (fun t ht hW => ⟨rfl, by rw [ht]; exact hH⟩) hlc hd C.2.2.2.2.2.2.1
theorem go_areturn {b : Nat} {rt : FieldType} (hc : lk M pc = some (.areturn, npc, 1)) (hr : M.2.2.2.1 = some rt) (hrt : (∃ n, rt = .object n) ∨ ∃ t, rt = .array t) (e1 : some (.ref b) = r) (e2 : h = h') : Go l G d mc ms M mc ms pc L [.ref b] h r h' := by
  subst e1; subst e2
  intro p e s m args below meth c ls H locs C hL hH hlc
  obtain ⟨hd, -⟩ := C.dec hc
  have hx := C.1
  have hb := C.2.1
  have hts : ∀ w ∈ gtbl, w.before args s = true := fun w hw => C.word hw
  have hown : s.vm.findClass M.1.cls = some m.cls := C.2.2.2.2.2.1
  have hK : KX G s := C.2.2.2.2.2.2.2.1
  have hml : c.maxLocals = M.2.2.1 := C.2.2.2.1
  exact W.aret (v := .ref (gB G + b)) hx hb (C.2.2.1.trans hr) hrt (Or.inr ⟨_, rfl⟩) (fun t ht hW => ⟨rfl, by rw [ht]; exact hH⟩) hlc hd C.2.2.2.2.2.2.1
/-- a call's links: virtual, static, a constructor; those of nest mates -/
def Lp (y : MethodName) (n : Nat) : Prop := ∀ sig, parseMethodDescriptor y.desc = some sig → n = sig.parameters.length
theorem Lp.of {y : MethodName} (hh : (parseMethodDescriptor y.desc).map (fun d => d.parameters.length) = some n) : Lp y n := fun sig h2 => by
  rw [h2] at hh
  exact (Option.some.inj hh).symm
def Lv (own : String) (i : Nat) (y : MethodName) (n : Nat) : Prop := Cond.methodLink own i y ∈ gtbl ∧ Cond.instanceMethod y ∈ gtbl ∧ Cond.selects y.cls y y ∈ gtbl ∧ Lp y n
def Ls (own : String) (i : Nat) (y : MethodName) (n : Nat) : Prop := Cond.methodLink own i y ∈ gtbl ∧ Cond.static y ∈ gtbl ∧ Lp y n
def Li (own : String) (i : Nat) (y : MethodName) (n : Nat) : Prop := Cond.methodLink own i y ∈ gtbl ∧ Cond.instanceMethod y ∈ gtbl ∧ y.name = "<init>" ∧ Lp y n
def LsN (own : String) (i : Nat) (y : MethodName) (n : Nat) : Prop := (own, i, y) ∈ nws ∧ Cond.static y ∈ gtbl ∧ Lp y n
def LiN (own : String) (i : Nat) (y : MethodName) (n : Nat) : Prop := (own, i, y) ∈ nws ∧ Cond.instanceMethod y ∈ gtbl ∧ y.name = "<init>" ∧ Lp y n
theorem pay_g {s : State} {args : Array Value} {M2 : MD} (hts : ∀ w ∈ gtbl, w.before args s = true) (hM2 : MOk M2) : ∀ w ∈ wsM M2, ∀ (a' : Array Value) (U : State), s.WarmedH U.vm → w.before a' U = true := by
  intro w hw a' U hW
  have hg : w ∈ gtbl := by
    rcases List.mem_cons.mp hw with rfl | hw
    · exact hM2.2.1
    · exact hw
  exact word_at hW (g_good hg) (hts w hg)
theorem cat_sum (G : GG) (st : List Value) : ((st.map (tv G)).map fun v => v.category).sum = (st.map fun v => v.category).sum := by
  induction st with
  | nil => rfl
  | cons v t ih =>
    show (tv G v).category + _ = v.category + _
    rw [tv_cat]
    exact congrArg (fun z => v.category + z) ih
theorem blind (G : GG) (h : Hp) (as : List Value) : FrameBlind (va_Pc (as.map (tv G)) (fun U => HR G h U.heap ∧ KX G U)) := fun a U g mk q => ⟨q.1, q.2.1, KX.same (u := U) (U := U.calling g mk a) rfl q.2.2⟩
theorem go_runs {p : Program} {e : Env} {s : State} {m : MethodId} {args : Array Value} {below : List Frame} {meth : Method} {c : Code} {ls : Array Slot} {H : Heap} {locs : List Loc} {mc1 ms1 : Nat} {stk : List Value} {a : Array Value}
    (run : va_Run p l e (rmm d mc ms) s m args below meth c H locs kc ks mc1 ms1 (F0 m pc ls stk) (st.map (tv G)) (Qx G r1 h1 a) (fun q => gB G ≤ q))
    (C : Cx G M p s m args meth c) (hL : LR G L ls M.2.2.1) (hlc : ∀ q ∈ locs, gB G ≤ q.base) (hn : npc = pc + 3)
    (kk : Go l G d mc ms M (kc + mc1) (ks + ms1) npc L (r1.toList ++ st) h1 r h') : W p l e (rmm d mc ms) s m args below meth c H locs kc ks (MQ below (Qx G r h') args s mc ms (fun q => gB G ≤ q)) (F0 m pc ls stk) := by
  subst hn
  intro T hT X
  obtain ⟨v, st₀, t, T', L', h0, X', hLf, e1, e2, ⟨ho, hH1⟩, stp⟩ := run T hT X
  cases ho
  obtain ⟨t2, a1, b1⟩ := kk p e s m args below meth c ls T'.heap (locs ++ L') C hL (by rw [e1]; exact hH1) (fun q hq => by
    rcases List.mem_append.mp hq with z | z
    · exact hlc q z
    · exact hLf q z) T' rfl X'
  refine ⟨t2, stp t2 ?_, b1⟩
  have e3 : (Option.map (tv G) r1).toList ++ st.map (tv G) = (r1.toList ++ st).map (tv G) := by cases r1 <;> simp
  rw [e3]
  exact a1

theorem go_callV {M2 : MD} {as stk : List Value} {mc1 ms1 : Nat} {b : Nat} (hc : lk M pc = some (.invokevirtual i, npc, 3)) (hl : Lv M.1.cls i M2.1 n) (hM2 : MOk M2) (hct : Ct l G d mc1 ms1 M2 (.ref b :: as) h r1 h1) (hstk : stk = as.reverse ++ .ref b :: st) (hs : kC (mS h b).1 = M2.1.cls) (hkd : Nat.blt (mS h b).1 11 = true) (hn : as.length = n) (hst : Nat.ble (st.map fun v => v.category).sum 8 = true) (hmc : kc + mc1 ≤ mc) (hms : ks + ms1 ≤ ms) (kk : Go l G (d + 1) mc ms M (kc + mc1) (ks + ms1) npc L (r1.toList ++ st) h1 r h') : Go l G (d + 1) mc ms M kc ks pc L stk h r h' := by
  have h3 := hct
  intro p e s m args below meth c ls H locs C hL hH hlc
  obtain ⟨hd, -⟩ := C.dec hc
  have hx := C.1
  have hb := C.2.1
  have hts : ∀ w ∈ gtbl, w.before args s = true := fun w hw => C.word hw
  have hown : s.vm.findClass M.1.cls = some m.cls := C.2.2.2.2.2.1
  have hK : KX G s := C.2.2.2.2.2.2.2.1
  have hml : c.maxLocals = M.2.2.1 := C.2.2.2.1
  have hpc : npc = pc + 3 := (C.dec hc).2
  have hroom : (rmm d mc1 ms1).frames + 1 ≤ (rmm (d + 1) mc ms).frames ∧ 8 + (M2.2.2.1 + 11) + (rmm d mc1 ms1).locals ≤ (rmm (d + 1) mc ms).locals := by
    have h40 : M2.2.2.1 ≤ 40 := hM2.2.2.2.2.1
    exact ⟨Nat.le_refl _, by show 8 + (M2.2.2.1 + 11) + 64 * d ≤ 64 * (d + 1); omega⟩
  have hW : 2 * (F0 m pc ls (stk.map (tv G))).monitorRoom + ((st.map (tv G)).map fun v => v.category).sum ≤ 8 := lv_room (by rw [cat_sum]; exact Nat.ble_eq.mp hst)
  have hkd := Nat.blt_eq.mp hkd
  obtain ⟨cell, q1, q2, q3, q4⟩ := hH.obj rfl hkd
  have hrecv : ∃ cellB : Cell, H[gB G + b]? = some cellB ∧ cellB.vm.isStatics = false ∧ s.vm.findClass M2.1.cls = some cellB.cls := ⟨cell, q1, by rw [q3]; rfl, by rw [q2, ← hs]; exact (hK.1.1 _ _ (k_cl _ hkd)).2.1⟩
  have run := va_runV (e := e) (meth := meth) (locs := locs) (cells := kc) (slots := ks) (rest := st.map (tv G)) (As := as.map (tv G)) (b := gB G + b) (R := rmm (d + 1) mc ms) (H := H) (below := below) (n := n) (C := M2.1.cls) (bytes := M2.2.1) (maxL := M2.2.2.1) (ret := M2.2.2.2.1) (g := F0 m pc ls (stk.map (tv G))) (Ts := gtbl) (nL := M.2.2.1) ⟨hx, hb, hml, hown, hts⟩ h3
    ⟨⟨rfl, rfl, hroom.1, hroom.2, pay_g hts hM2, List.mem_cons_self, hts _ hM2.2.1, hts _ hM2.2.2.1, hM2.2.2.2.1, hl.2.2.2, hts _ hl.1⟩, hts _ hl.2.1, hts _ hl.2.2.1⟩
    ⟨blind G h _, hrecv, fun U hU hW2 => ⟨rfl, by rw [hU]; exact hH, KX.warm hW2 hK⟩⟩ rfl (by rw [List.length_map]; exact hn) hL.1
    (by subst hstk; simp [tv]) hW hd ⟨hmc, hms⟩
  exact go_runs run C hL hlc hpc kk

theorem go_callS {M2 : MD} {as stk : List Value} {mc1 ms1 : Nat} (hc : lk M pc = some (.invokestatic i, npc, 3)) (hl : Ls M.1.cls i M2.1 n) (hM2 : MOk M2) (hct : Ct l G d mc1 ms1 M2 as h r1 h1) (hstk : stk = as.reverse ++ st) (hn : as.length = n) (hst : Nat.ble (st.map fun v => v.category).sum 8 = true) (hmc : kc + mc1 ≤ mc) (hms : ks + ms1 ≤ ms) (kk : Go l G (d + 1) mc ms M (kc + mc1) (ks + ms1) npc L (r1.toList ++ st) h1 r h') : Go l G (d + 1) mc ms M kc ks pc L stk h r h' := by
  have h3 := hct
  intro p e s m args below meth c ls H locs C hL hH hlc
  obtain ⟨hd, -⟩ := C.dec hc
  have hx := C.1
  have hb := C.2.1
  have hts : ∀ w ∈ gtbl, w.before args s = true := fun w hw => C.word hw
  have hown : s.vm.findClass M.1.cls = some m.cls := C.2.2.2.2.2.1
  have hK : KX G s := C.2.2.2.2.2.2.2.1
  have hml : c.maxLocals = M.2.2.1 := C.2.2.2.1
  have hpc : npc = pc + 3 := (C.dec hc).2
  have hroom : (rmm d mc1 ms1).frames + 1 ≤ (rmm (d + 1) mc ms).frames ∧ 8 + (M2.2.2.1 + 11) + (rmm d mc1 ms1).locals ≤ (rmm (d + 1) mc ms).locals := by
    have h40 : M2.2.2.1 ≤ 40 := hM2.2.2.2.2.1
    exact ⟨Nat.le_refl _, by show 8 + (M2.2.2.1 + 11) + 64 * d ≤ 64 * (d + 1); omega⟩
  have hW : 2 * (F0 m pc ls (stk.map (tv G))).monitorRoom + ((st.map (tv G)).map fun v => v.category).sum ≤ 8 := lv_room (by rw [cat_sum]; exact Nat.ble_eq.mp hst)
  have run := va_runS (e := e) (meth := meth) (locs := locs) (cells := kc) (slots := ks) (rest := st.map (tv G)) (As := as.map (tv G)) (R := rmm (d + 1) mc ms) (H := H) (below := below) (n := n) (bytes := M2.2.1) (maxL := M2.2.2.1) (ret := M2.2.2.2.1) (g := F0 m pc ls (stk.map (tv G))) (Ts := gtbl) (nL := M.2.2.1) ⟨hx, hb, hml, hown, hts⟩ h3
    ⟨⟨rfl, rfl, hroom.1, hroom.2, pay_g hts hM2, List.mem_cons_self, hts _ hM2.2.1, hts _ hM2.2.2.1, hM2.2.2.2.1, hl.2.2, hts _ hl.1⟩, hts _ hl.2.1⟩
    ⟨blind G h _, fun U hU hW2 => ⟨rfl, by rw [hU]; exact hH, KX.warm hW2 hK⟩⟩ rfl (by rw [List.length_map]; exact hn) hL.1
    (by subst hstk; simp [tv]) hW hd ⟨hmc, hms⟩
  exact go_runs run C hL hlc hpc kk

theorem go_callSN {M2 : MD} {as stk : List Value} {mc1 ms1 : Nat} (hc : lk M pc = some (.invokestatic i, npc, 3)) (hl : LsN M.1.cls i M2.1 n) (hM2 : MOk M2) (hct : Ct l G d mc1 ms1 M2 as h r1 h1) (hstk : stk = as.reverse ++ st) (hn : as.length = n) (hst : Nat.ble (st.map fun v => v.category).sum 8 = true) (hmc : kc + mc1 ≤ mc) (hms : ks + ms1 ≤ ms) (kk : Go l G (d + 1) mc ms M (kc + mc1) (ks + ms1) npc L (r1.toList ++ st) h1 r h') : Go l G (d + 1) mc ms M kc ks pc L stk h r h' := by
  have h3 := hct
  intro p e s m args below meth c ls H locs C hL hH hlc
  obtain ⟨hd, -⟩ := C.dec hc
  have hx := C.1
  have hb := C.2.1
  have hts : ∀ w ∈ gtbl, w.before args s = true := fun w hw => C.word hw
  have hown : s.vm.findClass M.1.cls = some m.cls := C.2.2.2.2.2.1
  have hK : KX G s := C.2.2.2.2.2.2.2.1
  have hml : c.maxLocals = M.2.2.1 := C.2.2.2.1
  have hpc : npc = pc + 3 := (C.dec hc).2
  have hroom : (rmm d mc1 ms1).frames + 1 ≤ (rmm (d + 1) mc ms).frames ∧ 8 + (M2.2.2.1 + 11) + (rmm d mc1 ms1).locals ≤ (rmm (d + 1) mc ms).locals := by
    have h40 : M2.2.2.1 ≤ 40 := hM2.2.2.2.2.1
    exact ⟨Nat.le_refl _, by show 8 + (M2.2.2.1 + 11) + 64 * d ≤ 64 * (d + 1); omega⟩
  have hW : 2 * (F0 m pc ls (stk.map (tv G))).monitorRoom + ((st.map (tv G)).map fun v => v.category).sum ≤ 8 := lv_room (by rw [cat_sum]; exact Nat.ble_eq.mp hst)
  have run := va_runSN (e := e) (meth := meth) (locs := locs) (cells := kc) (slots := ks) (rest := st.map (tv G)) (As := as.map (tv G)) (R := rmm (d + 1) mc ms) (H := H) (below := below) (n := n) (host := "TinNation") (bytes := M2.2.1) (maxL := M2.2.2.1) (ret := M2.2.2.2.1) (g := F0 m pc ls (stk.map (tv G))) (Ts := gtbl) (nL := M.2.2.1) ⟨hx, hb, hml, hown, hts⟩ h3
    ⟨⟨⟨rfl, rfl, hroom.1, hroom.2, pay_g hts hM2, List.mem_cons_self⟩, hts _ hM2.2.1, hts _ hM2.2.2.1, hM2.2.2.2.1, hl.2.2, va_Nw.use rfl (hK.2.2.1 _ hl.1)⟩, hts _ hl.2.1, trivial⟩
    ⟨blind G h _, fun U hU hW2 => ⟨rfl, by rw [hU]; exact hH, KX.warm hW2 hK⟩⟩ rfl (by rw [List.length_map]; exact hn) hL.1
    (by subst hstk; simp [tv]) hW hd ⟨hmc, hms⟩
  exact go_runs run C hL hlc hpc kk

theorem go_callI {M2 : MD} {as stk : List Value} {mc1 ms1 : Nat} {b : Nat} (hc : lk M pc = some (.invokespecial i, npc, 3)) (hl : Li M.1.cls i M2.1 n) (hM2 : MOk M2) (hret : M2.2.2.2.1 = none) (hct : Ct l G d mc1 ms1 M2 (.ref b :: as) h r1 h1) (hstk : stk = as.reverse ++ .ref b :: st) (hn : as.length = n) (hst : Nat.ble (st.map fun v => v.category).sum 8 = true) (hmc : kc + mc1 ≤ mc) (hms : ks + ms1 ≤ ms) (kk : Go l G (d + 1) mc ms M (kc + mc1) (ks + ms1) npc L (r1.toList ++ st) h1 r h') : Go l G (d + 1) mc ms M kc ks pc L stk h r h' := by
  have h3 := hct
  intro p e s m args below meth c ls H locs C hL hH hlc
  obtain ⟨hd, -⟩ := C.dec hc
  have hx := C.1
  have hb := C.2.1
  have hts : ∀ w ∈ gtbl, w.before args s = true := fun w hw => C.word hw
  have hown : s.vm.findClass M.1.cls = some m.cls := C.2.2.2.2.2.1
  have hK : KX G s := C.2.2.2.2.2.2.2.1
  have hml : c.maxLocals = M.2.2.1 := C.2.2.2.1
  have hpc : npc = pc + 3 := (C.dec hc).2
  have hroom : (rmm d mc1 ms1).frames + 1 ≤ (rmm (d + 1) mc ms).frames ∧ 8 + (M2.2.2.1 + 11) + (rmm d mc1 ms1).locals ≤ (rmm (d + 1) mc ms).locals := by
    have h40 : M2.2.2.1 ≤ 40 := hM2.2.2.2.2.1
    exact ⟨Nat.le_refl _, by show 8 + (M2.2.2.1 + 11) + 64 * d ≤ 64 * (d + 1); omega⟩
  have hW : 2 * (F0 m pc ls (stk.map (tv G))).monitorRoom + ((st.map (tv G)).map fun v => v.category).sum ≤ 8 := lv_room (by rw [cat_sum]; exact Nat.ble_eq.mp hst)
  have hret : M2.2.2.2.1 = none := hret
  have run := va_runI (e := e) (meth := meth) (locs := locs) (cells := kc) (slots := ks) (rest := st.map (tv G)) (As := as.map (tv G)) (b := gB G + b) (R := rmm (d + 1) mc ms) (H := H) (below := below) (n := n) (bytes := M2.2.1) (maxL := M2.2.2.1) (g := F0 m pc ls (stk.map (tv G))) (Ts := gtbl) (nL := M.2.2.1) ⟨hx, hb, hml, hown, hts⟩ h3
    ⟨⟨rfl, rfl, hroom.1, hroom.2, pay_g hts hM2, by rw [← hret]; exact List.mem_cons_self, by rw [← hret]; exact hts _ hM2.2.1, hts _ hM2.2.2.1, hM2.2.2.2.1, hl.2.2.2, hts _ hl.1⟩, hl.2.2.1, hts _ hl.2.1⟩
    ⟨blind G h _, fun U hU hW2 => ⟨rfl, by rw [hU]; exact hH, KX.warm hW2 hK⟩⟩ rfl (by rw [List.length_map]; exact hn) hL.1
    (by subst hstk; simp [tv]) hW hd ⟨hmc, hms⟩
  exact go_runs run C hL hlc hpc kk

theorem go_callIN {M2 : MD} {as stk : List Value} {mc1 ms1 : Nat} {b : Nat} (hc : lk M pc = some (.invokespecial i, npc, 3)) (hl : LiN M.1.cls i M2.1 n) (hM2 : MOk M2) (hret : M2.2.2.2.1 = none) (hct : Ct l G d mc1 ms1 M2 (.ref b :: as) h r1 h1) (hstk : stk = as.reverse ++ .ref b :: st) (hn : as.length = n) (hst : Nat.ble (st.map fun v => v.category).sum 8 = true) (hmc : kc + mc1 ≤ mc) (hms : ks + ms1 ≤ ms) (kk : Go l G (d + 1) mc ms M (kc + mc1) (ks + ms1) npc L (r1.toList ++ st) h1 r h') : Go l G (d + 1) mc ms M kc ks pc L stk h r h' := by
  have h3 := hct
  intro p e s m args below meth c ls H locs C hL hH hlc
  obtain ⟨hd, -⟩ := C.dec hc
  have hx := C.1
  have hb := C.2.1
  have hts : ∀ w ∈ gtbl, w.before args s = true := fun w hw => C.word hw
  have hown : s.vm.findClass M.1.cls = some m.cls := C.2.2.2.2.2.1
  have hK : KX G s := C.2.2.2.2.2.2.2.1
  have hml : c.maxLocals = M.2.2.1 := C.2.2.2.1
  have hpc : npc = pc + 3 := (C.dec hc).2
  have hroom : (rmm d mc1 ms1).frames + 1 ≤ (rmm (d + 1) mc ms).frames ∧ 8 + (M2.2.2.1 + 11) + (rmm d mc1 ms1).locals ≤ (rmm (d + 1) mc ms).locals := by
    have h40 : M2.2.2.1 ≤ 40 := hM2.2.2.2.2.1
    exact ⟨Nat.le_refl _, by show 8 + (M2.2.2.1 + 11) + 64 * d ≤ 64 * (d + 1); omega⟩
  have hW : 2 * (F0 m pc ls (stk.map (tv G))).monitorRoom + ((st.map (tv G)).map fun v => v.category).sum ≤ 8 := lv_room (by rw [cat_sum]; exact Nat.ble_eq.mp hst)
  have hret : M2.2.2.2.1 = none := hret
  have run := va_runIN (e := e) (meth := meth) (locs := locs) (cells := kc) (slots := ks) (rest := st.map (tv G)) (As := as.map (tv G)) (b := gB G + b) (R := rmm (d + 1) mc ms) (H := H) (below := below) (n := n) (host := "TinNation") (bytes := M2.2.1) (maxL := M2.2.2.1) (g := F0 m pc ls (stk.map (tv G))) (Ts := gtbl) (nL := M.2.2.1) ⟨hx, hb, hml, hown, hts⟩ h3
    ⟨⟨⟨rfl, rfl, hroom.1, hroom.2, pay_g hts hM2, by rw [← hret]; exact List.mem_cons_self⟩, by rw [← hret]; exact hts _ hM2.2.1, hts _ hM2.2.2.1, hM2.2.2.2.1, hl.2.2.2, va_Nw.use rfl (hK.2.2.1 _ hl.1)⟩, hl.2.2.1, hts _ hl.2.1⟩
    ⟨blind G h _, fun U hU hW2 => ⟨rfl, by rw [hU]; exact hH, KX.warm hW2 hK⟩⟩ rfl (by rw [List.length_map]; exact hn) hL.1
    (by subst hstk; simp [tv]) hW hd ⟨hmc, hms⟩
  exact go_runs run C hL hlc hpc kk

end RowsF
