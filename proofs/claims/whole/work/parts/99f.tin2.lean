/-! ===== tin: what it throws ===== -/
/-- the machine to any end, in a method with this table of handlers, begun in h0 -/
def Gx (l : Launch) (G : GG) (d mc ms : Nat) (TB : List ExceptionTableEntry) (Z : List Frame → Array Value → State → State → Prop) (h0 : Hp) (M : MD) (kc ks pc : Nat) (L st : List Value) (h : Hp) : Prop :=
  ∀ (p : Program) (e : Env) (s : State) (m : MethodId) (args : Array Value) (below : List Frame) (meth : Method) (c : Code) (ls : Array Slot) (H : Heap) (locs : List Loc),
    Cx G M p s m args meth c → LR G L ls M.2.2.1 → HR G h H → (∀ q ∈ locs, gB G ≤ q.base) → c.exceptionTable.toList = TB → HR G h0 s.heap →
    W p l e (rmm d mc ms) s m args below meth c H locs kc ks (Z below args s) (F0 m pc ls (st.map (tv G)))
section RowsX
variable {l : Launch} {G : GG} {d mc ms kc ks pc npc : Nat} {TB : List ExceptionTableEntry} {Z : List Frame → Array Value → State → State → Prop} {h0 : Hp} {M : MD} {L st : List Value} {h h1 h2 : Hp} {r1 : Option Value} {a k kd n i : Nat}
theorem gx_aload_n {i : Fin 4} {x : Nat} (hc : lk M pc = some (.aload_n i, npc, 1)) (hl : L[(i : Nat)]? = some (.ref x)) (k : Gx l G d mc ms TB Z h0 M kc ks npc L (.ref x :: st) h ) : Gx l G d mc ms TB Z h0 M kc ks pc L st h := by
  intro p e s m args below meth c ls H locs C hL hH hlc htb hs0
  obtain ⟨hd, rfl⟩ := C.dec hc
  have hx := C.1
  have hb := C.2.1
  exact lv_aload_n hx hb hd rfl (hL.2.2 (i : Nat) _ hl (fun q => by cases q)) (k p e s m args below meth c ls H locs C hL hH hlc htb hs0)
theorem gx_iconst {n : Int} {v : Int32} (hc : lk M pc = some (.iconst n, npc, 1)) (hv : Int32.ofInt n = v) (k : Gx l G d mc ms TB Z h0 M kc ks npc L (.int v :: st) h ) : Gx l G d mc ms TB Z h0 M kc ks pc L st h := by
  intro p e s m args below meth c ls H locs C hL hH hlc htb hs0
  obtain ⟨hd, rfl⟩ := C.dec hc
  have hx := C.1
  have hb := C.2.1
  exact lv_iconst hx hb hd hv (k p e s m args below meth c ls H locs C hL hH hlc htb hs0)
theorem gx_iload_n {i : Fin 4} {x : Int32} (hc : lk M pc = some (.iload_n i, npc, 1)) (hl : L[(i : Nat)]? = some (.int x)) (k : Gx l G d mc ms TB Z h0 M kc ks npc L (.int x :: st) h ) : Gx l G d mc ms TB Z h0 M kc ks pc L st h := by
  intro p e s m args below meth c ls H locs C hL hH hlc htb hs0
  obtain ⟨hd, rfl⟩ := C.dec hc
  have hx := C.1
  have hb := C.2.1
  exact lv_iload_n hx hb hd rfl (hL.2.2 (i : Nat) _ hl (fun q => by cases q)) (k p e s m args below meth c ls H locs C hL hH hlc htb hs0)
theorem gx_if_ne {x : Int32} {off : Int} {tgt : Nat} (hc : lk M pc = some (.ifCond .ne off, npc, 3)) (ht : (pc : Int) + off = (tgt : Int)) (kt : ¬ x = 0 → Gx l G d mc ms TB Z h0 M kc ks tgt L st h ) (kf : x = 0 → Gx l G d mc ms TB Z h0 M kc ks npc L st h ) : Gx l G d mc ms TB Z h0 M kc ks pc L (.int x :: st) h := by
  intro p e s m args below meth c ls H locs C hL hH hlc htb hs0
  obtain ⟨hd, rfl⟩ := C.dec hc
  have hx := C.1
  have hb := C.2.1
  exact lv_if_ne hx hb hd ht (fun z => kt z p e s m args below meth c ls H locs C hL hH hlc htb hs0) (fun z => kf z p e s m args below meth c ls H locs C hL hH hlc htb hs0)
theorem gx_tableOut {dflt lo hi : Int} {offs : Array Int} {len : Nat} {x : Int32} {tgt : Nat} (hc : lk M pc = some (.tableswitch dflt lo hi offs, npc, len)) (hh : x.toInt < lo ∨ hi < x.toInt) (ht : (pc : Int) + dflt = (tgt : Int)) (k : Gx l G d mc ms TB Z h0 M kc ks tgt L st h ) : Gx l G d mc ms TB Z h0 M kc ks pc L (.int x :: st) h := by
  intro p e s m args below meth c ls H locs C hL hH hlc htb hs0
  obtain ⟨hd, rfl⟩ := C.dec hc
  have hx := C.1
  have hb := C.2.1
  exact lv_tableOut hx hb hd hh ht (k p e s m args below meth c ls H locs C hL hH hlc htb hs0)
theorem gx_getV {w : Value} (hc : lk M pc = some (.getfield i, npc, 3)) (hf : Fl M.1.cls i kd k) (hs : (mS h a).1 = kd) (hw : cv G h kd a k = tv G w) (kk : Gx l G d mc ms TB Z h0 M kc ks npc L (w :: st) h ) : Gx l G d mc ms TB Z h0 M kc ks pc L (.ref a :: st) h := by
  intro p e s m args below meth c ls H locs C hL hH hlc htb hs0
  obtain ⟨hd, rfl⟩ := C.dec hc
  have hx := C.1
  have hb := C.2.1
  have hts : ∀ w ∈ gtbl, w.before args s = true := fun w hw => C.word hw
  have hown : s.vm.findClass M.1.cls = some m.cls := C.2.2.2.2.2.1
  have hK : KX G s := C.2.2.2.2.2.2.2.1
  obtain ⟨hkd, hk, hlk, hde⟩ := hf
  obtain ⟨cell, q1, q2, q3, q4⟩ := hH.obj hs hkd
  obtain ⟨hS, hfc, kC1, hkC, hkind⟩ := hK.1.1 kd _ (k_cl kd hkd)
  dsimp only at hS
  obtain ⟨cf, kf, fi, f, hi, hsl⟩ := hS k hk
  have hst := (u_facts hfc hkC (u_lays hts (k_in kd hkd) hk) hi).1
  rw [hde] at hi
  exact W.getf hx hb hown (hts _ hlk) hi hst q1 (by rw [q3]; exact fun z => by cases z) (v := tv G w) (by rw [hsl, q4 k hk, hw]) rfl rfl hd (kk p e s m args below meth c ls H locs C hL hH hlc htb hs0)
theorem gx_getP {b : Nat} (hc : lk M pc = some (.getfield i, npc, 3)) (hf : Fl M.1.cls i kd k) (hs : (mS h a).1 = kd) (ht : sty kd k = 2) (hp : mP h a k = some b) (kk : Gx l G d mc ms TB Z h0 M kc ks npc L (.ref b :: st) h ) : Gx l G d mc ms TB Z h0 M kc ks pc L (.ref a :: st) h := gx_getV hc hf hs (by simp [cv, ht, tv, hp, va_rf]) kk
theorem gx_runs {p : Program} {e : Env} {s : State} {m : MethodId} {args : Array Value} {below : List Frame} {meth : Method} {c : Code} {ls : Array Slot} {H : Heap} {locs : List Loc} {mc1 ms1 : Nat} {stk : List Value} {a : Array Value}
    (run : va_Run p l e (rmm d mc ms) s m args below meth c H locs kc ks mc1 ms1 (F0 m pc ls stk) (st.map (tv G)) (Qx G r1 h1 a) (fun q => gB G ≤ q))
    (C : Cx G M p s m args meth c) (hL : LR G L ls M.2.2.1) (hlc : ∀ q ∈ locs, gB G ≤ q.base) (hn : npc = pc + 3) (htb : c.exceptionTable.toList = TB) (hs0 : HR G h0 s.heap)
    (kk : Gx l G d mc ms TB Z h0 M (kc + mc1) (ks + ms1) npc L (r1.toList ++ st) h1 ) : W p l e (rmm d mc ms) s m args below meth c H locs kc ks (Z below args s) (F0 m pc ls stk) := by
  subst hn
  intro T hT X
  obtain ⟨v, st₀, t, T', L', h0, X', hLf, e1, e2, ⟨ho, hH1⟩, stp⟩ := run T hT X
  cases ho
  obtain ⟨t2, a1, b1⟩ := kk p e s m args below meth c ls T'.heap (locs ++ L') C hL (by rw [e1]; exact hH1) (fun q hq => by
    rcases List.mem_append.mp hq with z | z
    · exact hlc q z
    · exact hLf q z) htb hs0 T' rfl X'
  refine ⟨t2, stp t2 ?_, b1⟩
  have e3 : (Option.map (tv G) r1).toList ++ st.map (tv G) = (r1.toList ++ st).map (tv G) := by cases r1 <;> simp
  rw [e3]
  exact a1
theorem gx_callV {M2 : MD} {as stk : List Value} {mc1 ms1 : Nat} {b : Nat} (hc : lk M pc = some (.invokevirtual i, npc, 3)) (hl : Lv M.1.cls i M2.1 n) (hM2 : MOk M2) (hct : Ct l G d mc1 ms1 M2 (.ref b :: as) h r1 h1) (hstk : stk = as.reverse ++ .ref b :: st) (hs : kC (mS h b).1 = M2.1.cls) (hkd : Nat.blt (mS h b).1 11 = true) (hn : as.length = n) (hst : Nat.ble (st.map fun v => v.category).sum 8 = true) (hmc : kc + mc1 ≤ mc) (hms : ks + ms1 ≤ ms) (kk : Gx l G (d + 1) mc ms TB Z h0 M (kc + mc1) (ks + ms1) npc L (r1.toList ++ st) h1 ) : Gx l G (d + 1) mc ms TB Z h0 M kc ks pc L stk h := by
  have h3 := hct
  intro p e s m args below meth c ls H locs C hL hH hlc htb hs0
  obtain ⟨hd, -⟩ := C.dec hc
  have hx := C.1
  have hb := C.2.1
  have hts : ∀ w ∈ gtbl, w.before args s = true := fun w hw => C.word hw
  have hown : s.vm.findClass M.1.cls = some m.cls := C.2.2.2.2.2.1
  have hK : KX G s := C.2.2.2.2.2.2.2.1
  have hml : c.maxLocals = M.2.2.1 := C.2.2.2.1
  have hpc : npc = pc + 3 := (C.dec hc).2
  have hroom : (rmm d mc1 ms1).frames + 1 ≤ (rmm (d + 1) mc ms).frames ∧ 8 + (M2.2.2.1 + 11) + (rmm d mc1 ms1).locals ≤ (rmm (d + 1) mc ms).locals := by
    have h40 : M2.2.2.1 ≤ 40 := hM2.2.2.2.2.1
    exact ⟨Nat.le_refl _, by show 8 + (M2.2.2.1 + 11) + 64 * d ≤ 64 * (d + 1); omega⟩
  have hW : 2 * (F0 m pc ls (stk.map (tv G))).monitorRoom + ((st.map (tv G)).map fun v => v.category).sum ≤ 8 := lv_room (by rw [cat_sum]; exact Nat.ble_eq.mp hst)
  have hkd := Nat.blt_eq.mp hkd
  obtain ⟨cell, q1, q2, q3, q4⟩ := hH.obj rfl hkd
  have hrecv : ∃ cellB : Cell, H[gB G + b]? = some cellB ∧ cellB.vm.isStatics = false ∧ s.vm.findClass M2.1.cls = some cellB.cls := ⟨cell, q1, by rw [q3]; rfl, by rw [q2, ← hs]; exact (hK.1.1 _ _ (k_cl _ hkd)).2.1⟩
  have run := va_runV (e := e) (meth := meth) (locs := locs) (cells := kc) (slots := ks) (rest := st.map (tv G)) (As := as.map (tv G)) (b := gB G + b) (R := rmm (d + 1) mc ms) (H := H) (below := below) (n := n) (C := M2.1.cls) (bytes := M2.2.1) (maxL := M2.2.2.1) (ret := M2.2.2.2.1) (g := F0 m pc ls (stk.map (tv G))) (Ts := gtbl) (nL := M.2.2.1) ⟨hx, hb, hml, hown, hts⟩ h3
    ⟨⟨rfl, rfl, hroom.1, hroom.2, pay_g hts hM2, List.mem_cons_self, hts _ hM2.2.1, hts _ hM2.2.2.1, hM2.2.2.2.1, hl.2.2.2, hts _ hl.1⟩, hts _ hl.2.1, hts _ hl.2.2.1⟩
    ⟨blind G h _, hrecv, fun U hU hW2 => ⟨rfl, by rw [hU]; exact hH, KX.warm hW2 hK⟩⟩ rfl (by rw [List.length_map]; exact hn) hL.1
    (by subst hstk; simp [tv]) hW hd ⟨hmc, hms⟩
  exact gx_runs run C hL hlc hpc htb hs0 kk
/-- one cell more of which nothing is said -/
def bN (h : Hp) : Hp := (h.1, h.2.1, h.2.2.1, h.2.2.2.1, mN h + 1)
theorem HR.bn {H H1 : Heap} (hH : HR G h H) (z : H1.size = H.size + 1) (o : ∀ q : Nat, q < H.size → H1[q]? = H[q]?) : HR G (bN h) H1 := by
  obtain ⟨h1, h3, h4, h5⟩ := hH
  refine ⟨by rw [z, h1]; show _ = gB G + (mN h + 1); omega, fun q hq => (o q (by omega)).trans (h3 q hq), fun a ha => ?_, fun a ha => h5 a (by have : mN h + 1 ≤ a := ha; omega)⟩
  have ha : a < mN h + 1 := ha
  by_cases e : a < mN h
  · exact cAt.kept' (h := h) (h2 := bN h) rfl (fun kd => rfl) (o _ (by omega)) (h4 a e)
  · unfold cAt
    have := h5 a (by omega)
    have e2 : mS (bN h) a = mS h a := rfl
    rw [e2, if_neg (by omega), if_neg (by omega)]
    trivial
/-- a method's contract where it throws -/
theorem Mx.of {as : List Value} {Qc : Array Value → State → Outcome → State → Prop} {XC : String → State → State → Prop} (hM : MOk M) (hn : Nat.ble (argF as).length M.2.2.1 = true) (hl : argL as M.2.2.1 = L)
    (hg : Gx l G d mc ms [] (fun below args s => vx_MQ below Qc XC args s mc ms (fun q => gB G ≤ q)) h M 0 0 0 L [] h) : vx_Met l M.1 (wsM M) (rmm d mc ms) (va_Pc (as.map (tv G)) (fun U => HR G h U.heap ∧ KX G U)) Qc XC mc ms (fun q => gB G ≤ q) := by
  subst hl
  refine vx_ofW (cc := M.2.1) (maxL := M.2.2.1) (ret := M.2.2.2.1) hM.1 rfl ?_
  intro p e s m args below meth c s₁ B hml htb hv
  obtain ⟨rfl, hH, hK⟩ := hv
  have C : Cx G M p s m (as.map (tv G)).toArray meth c := ⟨B.exec, B.bytes, B.returns, hml, fun w hw => atoms_spec (ws := wsM M) B.pre w (List.mem_cons_of_mem _ hw), findClass_of_methodNamed B.named, B.notSynchronized, hK, hM.2.2.2.2.2, (name_of_methodNamed B.named B.method).1⟩
  rw [lg_entry_eq]
  exact hg p e s m _ below meth c _ s.heap [] C (LR.entry (Nat.ble_eq.mp hn)) hH (fun q hq => by cases hq) (List.eq_nil_iff_forall_not_mem.mpr htb) hH
def XE (G : GG) (E : String) (h : Hp) : String → State → State → Prop := fun E' _ t => E' = E ∧ HR G (bN h) t.heap
def ZE (G : GG) (E : String) (h : Hp) : List Frame → Array Value → State → State → Prop := fun below args s => vx_MQ below (fun _ _ _ _ => False) (XE G E h) args s 1 6 (fun q => gB G ≤ q)
theorem w_ix1 : Cond.classLink RX9 125 eIx ∈ gtbl := List.mem_filter.mpr ⟨by decide +kernel, rfl⟩
theorem w_ix2 : Cond.initialized eIx ∈ gtbl := List.mem_filter.mpr ⟨by decide +kernel, rfl⟩
theorem w_no1 : Cond.classLink RX9 151 eNo ∈ gtbl := List.mem_filter.mpr ⟨by decide +kernel, rfl⟩
theorem w_no2 : Cond.initialized eNo ∈ gtbl := List.mem_filter.mpr ⟨by decide +kernel, rfl⟩
theorem w_ix3 : ∀ w ∈ Cond.classLink RX9 125 eIx :: Cond.initialized eIx :: vx_atS RX9 129 eIx nE1, vx_ot w = true := by decide +kernel
theorem w_no3 : ∀ w ∈ Cond.classLink RX9 151 eNo :: Cond.initialized eNo :: vx_atX RX9 155 eNo 13 rx13 nE1, vx_ot w = true := by decide +kernel
theorem gx_ix (hl : l.stackTraces = false) : Gx l G (d + 6) 1 6 [] (ZE G eIx h) h m9_tin 0 0 11 L [] h := by
  intro p e s m args below meth c ls H locs C hL hH hlc htb hs0
  have hK : KX G s := C.2.2.2.2.2.2.2.1
  have hZ : ZX G s := hK.2.2.2
  have cov : ∀ a : Nat, a < (gH G).size → ¬ gB G ≤ a → s.heap[a]? = (gH G)[a]? := fun a _ ha => hs0.2.1 a (Nat.lt_of_not_le ha)
  have hS : va_S (fun q => gB G ≤ q) s.heap H locs := ⟨by rw [hs0.1, hH.1]; exact Nat.le_refl _, fun q _ hq => (hH.2.1 q (Nat.lt_of_not_le hq)).trans (hs0.2.1 q (Nat.lt_of_not_le hq)).symm, hlc⟩
  have hat : ∀ w ∈ vx_atS RX9 129 eIx nE1, w.before args s = true := vx_hat (B := fws) (fun w hw => C.word (List.mem_filter.mpr ⟨w_ixm w (List.mem_filter.mp hw).1, (List.mem_filter.mp hw).2⟩)) w_ixg (fun w hw => va_tabs (fws_ok w hw).1 rfl (hZ.2.2.2.2.2.2.2.1.2.1 w hw))
  exact vx_throwS (cc := m9_tin.2.1) (pc := 11) C.1 C.2.1 hl (own := RX9) (cls := eIx) (text := "no such tin") (names := nE1) (ik := 125) (is := 127) (ic := 129) (sa := gA G 2) (A := fun q => gB G ≤ q) (rest := []) 
    C.2.2.2.2.2.1 (by decide +kernel) (by decide +kernel) (C.word w_ix1) (C.word w_ix2) (hZ.2.1 ("TinNation", 127, "no such tin", 2) (by simp [strs])) hat w_ix3
    (vx_Zq.kept hZ.2.2.2.2.2.1 cov) (vx_Zq.kept hZ.2.2.2.2.2.2.1 cov) hS (hL.1.trans C.2.2.2.1.symm) (C.dec (pc := 11) rfl).1 (C.dec (pc := 11 + 3) rfl).1 (C.dec (pc := 11 + 4) rfl).1 (C.dec (pc := 11 + 6) rfl).1 (C.dec (pc := 11 + 9) rfl).1
    (fun x hx => by rw [htb] at hx; cases hx) (by show 2 + 3 < d + 6; omega) (by show 0 + (13 * (2 + 1) + 43) ≤ 64 * (d + 6); omega) (by show 0 + 1 ≤ 1; omega) (by show 0 + 6 ≤ 6; omega) C.2.2.2.2.2.2.1
    (fun t _ z o => ⟨rfl, HR.bn hH z o⟩) hlc (Nat.le_refl _) (Nat.le_refl _)
theorem gx_no (hl : l.stackTraces = false) : Gx l G (d + 6) 1 6 [] (ZE G eNo h) h m9_tin 0 0 140 L [] h := by
  intro p e s m args below meth c ls H locs C hL hH hlc htb hs0
  have hK : KX G s := C.2.2.2.2.2.2.2.1
  have hZ : ZX G s := hK.2.2.2
  have cov : ∀ a : Nat, a < (gH G).size → ¬ gB G ≤ a → s.heap[a]? = (gH G)[a]? := fun a _ ha => hs0.2.1 a (Nat.lt_of_not_le ha)
  have hS : va_S (fun q => gB G ≤ q) s.heap H locs := ⟨by rw [hs0.1, hH.1]; exact Nat.le_refl _, fun q _ hq => (hH.2.1 q (Nat.lt_of_not_le hq)).trans (hs0.2.1 q (Nat.lt_of_not_le hq)).symm, hlc⟩
  have hat : ∀ w ∈ vx_atX RX9 155 eNo 13 rx13 nE1, w.before args s = true := vx_hat (B := fws) (fun w hw => C.word (List.mem_filter.mpr ⟨w_nom w (List.mem_filter.mp hw).1, (List.mem_filter.mp hw).2⟩)) w_nog (fun w hw => va_tabs (fws_ok w hw).1 rfl (hZ.2.2.2.2.2.2.2.1.2.1 w hw))
  exact vx_throwX (cc := m9_tin.2.1) (pc := 140) C.1 C.2.1 hl (own := RX9) (cls := eNo) (text := "no such thing of a tin") (names := nE1) (ik := 151) (is := 153) (ic := 155) (sa := gA G 3) (A := fun q => gB G ≤ q) (rest := []) (ix := 13) (rx := rx13) (by decide +kernel) (by decide +kernel) (by decide +kernel) (by decide +kernel)
    C.2.2.2.2.2.1 (by decide +kernel) (by decide +kernel) (C.word w_no1) (C.word w_no2) (hZ.2.1 ("TinNation", 153, "no such thing of a tin", 3) (by simp [strs])) hat w_no3
    (vx_Zq.kept hZ.2.2.2.2.2.1 cov) (vx_Zq.kept hZ.2.2.2.2.2.2.1 cov) hS (hL.1.trans C.2.2.2.1.symm) (C.dec (pc := 140) rfl).1 (C.dec (pc := 140 + 3) rfl).1 (C.dec (pc := 140 + 4) rfl).1 (C.dec (pc := 140 + 6) rfl).1 (C.dec (pc := 140 + 9) rfl).1
    (fun x hx => by rw [htb] at hx; cases hx) (by show 2 + 3 < d + 6; omega) (by show 0 + (13 * (2 + 1) + 43) ≤ 64 * (d + 6); omega) (by show 0 + 1 ≤ 1; omega) (by show 0 + 6 ≤ 6; omega) C.2.2.2.2.2.2.1
    (fun t _ z o => ⟨rfl, HR.bn hH z o⟩) hlc (Nat.le_refl _) (Nat.le_refl _)
variable {I : IM} {J : JM} {K : Kt} {S : SM}
theorem gx_has (hG : GK K) (hC : RC I J 62 n S) {t w : Int32} {E : String} (k1 : inN n t = true → Gx l G (d + 6) 1 6 [] (ZE G E (I, J, K)) (I, J, K) m9_tin 0 0 21 [.ref 0, .int t, .int w] [] (I, J, K)) (k2 : inN n t = false → Gx l G (d + 6) 1 6 [] (ZE G E (I, J, K)) (I, J, K) m9_tin 0 0 11 [.ref 0, .int t, .int w] [] (I, J, K)) :
    Gx l G (d + 6) 1 6 [] (ZE G E (I, J, K)) (I, J, K) m9_tin 0 0 0 [.ref 0, .int t, .int w] [] (I, J, K) := by
  obtain ⟨⟨k9, t0, t2, t3, t4, t5, t6, t7, t9, t10, t11, t12⟩, -, -, -, p33, -, s62, -⟩ := hG
  obtain ⟨h6, q0, q1, q2, q3, q4, q5, q6, a1, a2, a3, a4, a5, a6, a7⟩ := s62
  obtain ⟨c1, c2, c3, -⟩ := hC
  refine gx_aload_n rfl rfl ?_
  refine gx_getP rfl f9_41 (by assumption) rfl (by assumption) ?_
  refine gx_iload_n rfl rfl ?_
  refine gx_callV (M2 := m6_has) rfl v9_121 ok6_has (c6_has h6 c1 _) rfl (by show kC (K.2.1 62).1 = _; rw [h6]; rfl) (by show Nat.blt (K.2.1 62).1 11 = true; rw [h6]; rfl) rfl rfl (Nat.zero_le _) (Nat.zero_le _) ?_
  show Gx l G (d + 6) 1 6 [] (ZE G E (I, J, K)) (I, J, K) m9_tin 0 0 8 [.ref 0, .int t, .int w] [.int (bI (inN n t))] (I, J, K)
  cases e : inN n t
  · exact gx_if_ne (tgt := 21) rfl rfl (fun z => absurd rfl z) (fun _ => k2 e)
  · exact gx_if_ne (tgt := 21) rfl rfl (fun _ => k1 e) (fun z => absurd z (by decide))
theorem x9_ix (hl : l.stackTraces = false) (hG : GK K) (hC : RC I J 62 n S) {t w : Int32} (ht : inN n t = false) : vx_Met l yX9_tin (wsM m9_tin) (rmm (d + 6) 1 6) (va_Pc ([.ref 0, .int t, .int w].map (tv G)) (fun U => HR G (I, J, K) U.heap ∧ KX G U)) (fun _ _ _ _ => False) (XE G eIx (I, J, K)) 1 6 (fun q => gB G ≤ q) :=
  Mx.of (M := m9_tin) ok9_tin rfl (rfl : argL _ _ = [.ref 0, .int t, .int w]) (gx_has hG hC (fun z => by rw [ht] at z; cases z) (fun _ => gx_ix hl))
theorem x9_no (hl : l.stackTraces = false) (hG : GK K) (hC : RC I J 62 n S) {t w : Int32} (ht : inN n t = true) (hw : inN 7 w = false) : vx_Met l yX9_tin (wsM m9_tin) (rmm (d + 6) 1 6) (va_Pc ([.ref 0, .int t, .int w].map (tv G)) (fun U => HR G (I, J, K) U.heap ∧ KX G U)) (fun _ _ _ _ => False) (XE G eNo (I, J, K)) 1 6 (fun q => gB G ≤ q) := by
  have q : ¬ (0 ≤ w ∧ w < nI 7) := of_decide_eq_false hw
  have hh : w.toInt < 0 ∨ 6 < w.toInt := by
    by_cases a : w.toInt < 0
    · exact Or.inl a
    · refine Or.inr (Int.not_le.mp fun b => q ⟨Int32.le_iff_toInt_le.mpr ?_, Int32.lt_iff_toInt_lt.mpr ?_⟩)
      · show (0 : Int) ≤ w.toInt
        omega
      · show w.toInt < 7
        omega
  exact Mx.of (M := m9_tin) ok9_tin rfl (rfl : argL _ _ = [.ref 0, .int t, .int w]) (gx_has hG hC (fun _ => gx_iload_n rfl rfl (gx_tableOut (tgt := 140) rfl hh rfl (gx_no hl))) (fun z => by rw [ht] at z; cases z))
end RowsX
