/-! ===== the law's own tin ===== -/
section LawTin
variable {l : Launch} {G : GG} {d mc ms kc ks pc npc : Nat} {TB : List ExceptionTableEntry} {h0 : Hp} {M : MD} {L st : List Value} {h h1 h2 : Hp} {r1 r : Option Value} {a k kd n i : Nat}
theorem LR.stq {ls : Array Slot} {n i : Nat} {q : Addr} (h : LR G L ls n) (hi : i < n) (hlen : L.length ≤ i) (hp : ∀ w, L[i - 1]? = some w → 0 < i → w.category = 1) : ∃ ls', storeLocals ls i (.ref q) = some ls' ∧ LR G L ls' n := by
  obtain ⟨ls', h1, h2⟩ := lv_store1 (v := .ref q) h.has hi rfl
  refine ⟨ls', h1, h2.1, h2.2.1, fun j w hj hw => ?_⟩
  have hij : j ≠ i := fun e => by
    rw [List.getElem?_eq_none (by omega)] at hj
    cases hj
  have h5 := prs_mem (G := G) (b := 0) hj hw
  rw [Nat.zero_add] at h5
  refine h2.2.2 (j, tv G w) (List.mem_cons_of_mem _ (List.mem_filter.mpr ⟨h5, ?_⟩))
  simp only [Bool.and_eq_true, Bool.not_eq_true', beq_eq_false_iff_ne, ne_eq, Bool.and_eq_false_iff]
  refine ⟨hij, ?_⟩
  by_cases hji : j + 1 = i
  · right
    rw [tv_cat, hp w (by rw [show i - 1 = j by omega]; exact hj) (by omega)]
    decide
  · exact Or.inl hji
/-- the end of a method that answers -/
def ZA (G : GG) (r : Option Value) (h' : Hp) (mc ms : Nat) : List Frame → Array Value → State → State → Prop := fun below args s => MQ below (Qx G r h') args s mc ms (fun q => gB G ≤ q)
theorem gx_go {h' : Hp} (k : Go l G d mc ms M kc ks pc L st h r h') : Gx l G d mc ms TB (ZA G r h' mc ms) h0 M kc ks pc L st h := fun p e s m args below meth c ls H locs C hL hH hlc _ _ => k p e s m args below meth c ls H locs C hL hH hlc
/-- a call that throws, and its handler here -/
theorem gx_callX {h' : Hp} {M2 : MD} {as stk : List Value} {mc1 ms1 : Nat} {b i4 npc4 : Nat} {E : String} (hc : lk M pc = some (.invokevirtual i, npc, 3)) (hl : Lv M.1.cls i M2.1 n) (hM2 : MOk M2)
    (hct : vx_Met l M2.1 (wsM M2) (rmm d mc1 ms1) (va_Pc ((.ref b :: as).map (tv G)) (fun U => HR G h U.heap ∧ KX G U)) (fun _ _ _ _ => False) (XE G E h) mc1 ms1 (fun q => gB G ≤ q)) (hstk : stk = as.reverse ++ .ref b :: st) (hs : kC (mS h b).1 = M2.1.cls) (hkd : Nat.blt (mS h b).1 11 = true) (hn : as.length = n) (hst : Nat.ble (st.map fun v => v.category).sum 8 = true) (hmc : kc + mc1 ≤ mc) (hms : ks + ms1 ≤ ms)
    (pre : List ExceptionTableEntry) (x : ExceptionTableEntry) (suf : List ExceptionTableEntry) (hsplit : TB = pre ++ x :: suf) (hpass : ∀ z ∈ pre, z.catchType ≠ 0 ∧ Cond.classLink M.1.cls z.catchType eIx ∈ gtbl ∧ E = eNo) (hx1 : covers x pc = true) (h01 : x.catchType ≠ 0)
    (hlink : Cond.classLink M.1.cls x.catchType E ∈ gtbl) (hcast : Cond.castable E E ∈ fws) (h4 : lk M x.handlerPc = some (.astore i4, npc4, 2)) (hi4 : Nat.blt i4 M.2.2.1 = true) (hlen : L.length ≤ i4) (ho : okL L i4 = true)
    (kk : Go l G (d + 1) mc ms M (kc + mc1) (ks + ms1) npc4 L [] (bN h) r h') : Gx l G (d + 1) mc ms TB (ZA G r h' mc ms) h0 M kc ks pc L stk h := by
  intro p e s m args below meth c ls H locs C hL hH hlc htb hs0
  obtain ⟨hd, -⟩ := C.dec hc
  have hx := C.1
  have hb := C.2.1
  have hts : ∀ w ∈ gtbl, w.before args s = true := fun w hw => C.word hw
  have hown : s.vm.findClass M.1.cls = some m.cls := C.2.2.2.2.2.1
  have hK : KX G s := C.2.2.2.2.2.2.2.1
  have hml : c.maxLocals = M.2.2.1 := C.2.2.2.1
  have hroom : (rmm d mc1 ms1).frames + 1 ≤ (rmm (d + 1) mc ms).frames ∧ 8 + (M2.2.2.1 + 11) + (rmm d mc1 ms1).locals ≤ (rmm (d + 1) mc ms).locals := by
    have h40 : M2.2.2.1 ≤ 40 := hM2.2.2.2.2.1
    exact ⟨Nat.le_refl _, by show 8 + (M2.2.2.1 + 11) + 64 * d ≤ 64 * (d + 1); omega⟩
  have hW : 2 * (F0 m pc ls (stk.map (tv G))).monitorRoom + ((st.map (tv G)).map fun v => v.category).sum ≤ 8 := lv_room (by rw [cat_sum]; exact Nat.ble_eq.mp hst)
  have hkd := Nat.blt_eq.mp hkd
  obtain ⟨cell, q1, q2, q3, q4⟩ := hH.obj rfl hkd
  have hrecv : ∃ cellB : Cell, H[gB G + b]? = some cellB ∧ cellB.vm.isStatics = false ∧ s.vm.findClass M2.1.cls = some cellB.cls := ⟨cell, q1, by rw [q3]; rfl, by rw [q2, ← hs]; exact (hK.1.1 _ _ (k_cl _ hkd)).2.1⟩
  have run := vx_runV (e := e) (meth := meth) (locs := locs) (cells := kc) (slots := ks) (rest := st.map (tv G)) (As := as.map (tv G)) (b := gB G + b) (R := rmm (d + 1) mc ms) (H := H) (below := below) (n := n) (C := M2.1.cls) (bytes := M2.2.1) (maxL := M2.2.2.1) (ret := M2.2.2.2.1) (g := F0 m pc ls (stk.map (tv G))) (Ts := gtbl) (nL := M.2.2.1) ⟨hx, hb, hml, hown, hts⟩ hct
    ⟨⟨rfl, rfl, hroom.1, hroom.2, pay_g hts hM2, List.mem_cons_self, hts _ hM2.2.1, hts _ hM2.2.2.1, hM2.2.2.2.1, hl.2.2.2, hts _ hl.1⟩, hts _ hl.2.1, hts _ hl.2.2.1⟩
    ⟨blind G h _, hrecv, fun U hU hW2 => ⟨rfl, by rw [hU]; exact hH, KX.warm hW2 hK⟩⟩ rfl (by rw [List.length_map]; exact hn) hL.1
    (by subst hstk; simp [tv]) hW hd ⟨hmc, hms⟩
  intro T hT X
  rcases run T hT X with ⟨v, st₀, t, T', L', -, -, -, -, -, ho9, -⟩ | ⟨q, st₀, t, T', L', E', ce, z0, X', hLf, e1, e2, ⟨rfl, hHb⟩, hce, hcv, hcl, stp⟩
  · exact ho9.elim
  · have hFW : FW s := hK.2.2.2.2.2.2.2.2.2.2.1.2
    have hlc' : ∀ z ∈ locs ++ L', gB G ≤ z.base := fun z hz => (List.mem_append.mp hz).elim (hlc z) (hLf z)
    have hHT : HR G (bN h) T'.heap := by rw [e1]; exact hHb
    obtain ⟨ls', s1, s2⟩ := hL.stq (q := q) (Nat.blt_eq.mp hi4) hlen (okL_spec ho)
    have after : W p l e (rmm (d + 1) mc ms) s m args below meth c T'.heap (locs ++ L') (kc + mc1) (ks + ms1) (ZA G r h' mc ms below args s) (F0 m x.handlerPc ls [.ref q]) := by
      intro T2 hT2 X2
      obtain ⟨hd4, rfl⟩ := C.dec h4
      obtain ⟨t2, a2, b2⟩ := kk p e s m args below meth c ls' T'.heap (locs ++ L') C s2 hHT hlc' T2 hT2 X2
      refine ⟨t2, ?_, b2⟩
      jvm_step X2.here [X2.here.top, ↓top_set X2.here.top, hx, hb, hd4, s1, Value.isRef]
      exact a2
    obtain ⟨t2, a2, b2⟩ := vx_catch (pc := pc) (ls := ls) (rest := st.map (tv G)) (H := T'.heap) (own := M.1.cls) (name := E') hown pre x suf (by rw [htb, hsplit]) (fun z hz => by
      obtain ⟨z1, z2, z3⟩ := hpass z hz
      exact Or.inr ⟨z1, eIx, hts _ z2, by rw [z3]; exact hFW.2⟩) hx1 h01 (hts _ hlink) (va_tabs (fws_ok _ hcast).1 rfl (hFW.1 _ hcast)) (by rw [e1]; exact hce) hcv hcl after T' rfl X'
    exact ⟨t2, stp.trans a2, b2⟩
def hhT : List (Nat × Nat × Nat × Nat) := [(0, 10, 13, 13), (0, 10, 17, 15)]
def mLt : MD := (yL_tin, cL_tin, 5, some .int, [(0, .aload_n 3, 1, 1), (1, .iconst 0, 2, 1), (2, .aload_n 0, 3, 1), (3, .iload_n 1, 4, 1), (4, .iload_n 2, 5, 1), (5, .invokevirtual 7, 8, 3), (8, .i2l, 9, 1), (9, .lastore, 10, 1), (10, .goto 11, 13, 3), (13, .astore 4, 15, 2), (15, .iconst 1, 16, 1), (16, .ireturn, 17, 1), (17, .astore 4, 19, 2), (19, .iconst 2, 20, 1), (20, .ireturn, 21, 1), (21, .iconst 0, 22, 1), (22, .ireturn, 23, 1)])
theorem mLt_d : MDe mLt := by unfold MDe; decide +kernel
def wsT : List Cond := Cond.codeWith yL_tin cL_tin 5 (some .int) hhT :: gtbl
theorem w_T : Cond.codeWith yL_tin cL_tin 5 (some .int) hhT ∈ gtbl := List.mem_filter.mpr ⟨by decide +kernel, rfl⟩
theorem vT_7 : Lv RL 7 yX9_tin 2 := ⟨List.mem_filter.mpr ⟨by decide +kernel, rfl⟩, List.mem_filter.mpr ⟨by decide +kernel, rfl⟩, List.mem_filter.mpr ⟨by decide +kernel, rfl⟩, Lp.of (by decide +kernel)⟩
/-- the contract of the law's tin -/
def CT3 (l : Launch) (G : GG) (d : Nat) (t w : Int32) (o : Nat) (h : Hp) (r : Option Value) (h' : Hp) : Prop := Met l yL_tin wsT (rmm d 1 6) (va_Pc ([.ref 0, .int t, .int w, .ref o].map (tv G)) (fun U => HR G h U.heap ∧ KX G U)) (Qx G r h') 1 6 (fun q => gB G ≤ q)
theorem CT3.of {t w : Int32} {o : Nat} {h' : Hp} (hg : Gx l G d 1 6 (tableOf hhT) (ZA G r h' 1 6) h mLt 0 0 0 [.ref 0, .int t, .int w, .ref o] [] h) : CT3 l G d t w o h r h' := by
  refine va_MetW (cc := cL_tin) (maxL := 5) (ret := some .int) (hh := hhT) (by decide) rfl ?_
  intro p e s m args below meth c s₁ B hml hv
  obtain ⟨rfl, hH, hK⟩ := hv
  have C : Cx G mLt p s m ([.ref 0, .int t, .int w, .ref o].map (tv G)).toArray meth c := ⟨B.exec, B.bytes, B.returns, hml, fun w hw => atoms_spec (ws := wsT) B.pre w (List.mem_cons_of_mem _ hw), findClass_of_methodNamed B.named, B.notSynchronized, hK, mLt_d, (name_of_methodNamed B.named B.method).1⟩
  have htb := vx_table (x := yL_tin) B (atoms_spec (ws := wsT) B.pre _ List.mem_cons_self)
  rw [lg_entry_eq]
  have q := LR.entry (G := G) (as := [.ref 0, .int t, .int w, .ref o]) (n := 5) (by decide : 4 ≤ 5)
  refine hg p e s m _ below meth c _ s.heap [] C ⟨q.1, q.2.1, fun i v hi hv => q.2.2 i v ?_ hv⟩ hH (fun q hq => by cases hq) htb hH
  show ([.ref 0, .int t, .int w, .ref o] ++ [.null])[i]? = some v
  rw [List.getElem?_append_left (List.getElem?_eq_some_iff.mp hi).1]
  exact hi
variable {I : IM} {J : JM} {K : Kt} {P : Pl} {S : SM}
theorem t3_pre {t w : Int32} {o : Nat} {Z : List Frame → Array Value → State → State → Prop} (k : Gx l G d 1 6 TB Z h mLt 0 0 5 [.ref 0, .int t, .int w, .ref o] [.int w, .int t, .ref 0, .int 0, .ref o] h) : Gx l G d 1 6 TB Z h mLt 0 0 0 [.ref 0, .int t, .int w, .ref o] [] h :=
  gx_aload_n rfl rfl (gx_iconst rfl rfl (gx_aload_n rfl rfl (gx_iload_n rfl rfl (gx_iload_n rfl rfl k))))
theorem t3_ix (hl : l.stackTraces = false) (hG : GK K) (hC : RC I J 62 n S) {t w : Int32} {o : Nat} (ht : inN n t = false) : CT3 l G (d + 7) t w o (I, J, K) (some (.int 1)) (bN (I, J, K)) :=
  CT3.of (t3_pre (gx_callX (M2 := m9_tin) (st := [.int 0, .ref o]) rfl vT_7 ok9_tin (x9_ix hl hG hC ht) rfl (by have := hG.1.1; show kC (K.2.1 0).1 = _; rw [this]; rfl) (by have := hG.1.1; show Nat.blt (K.2.1 0).1 11 = true; rw [this]; rfl) rfl rfl (Nat.le_refl _) (Nat.le_refl _)
    [] ⟨0, 10, 13, 13⟩ [⟨0, 10, 17, 15⟩] rfl (fun z hz => nomatch hz) (by decide) (by decide) (List.mem_filter.mpr ⟨by decide +kernel, rfl⟩) (by decide) rfl rfl (Nat.le_refl 4) rfl
    (go_iconst rfl rfl (go_ireturn rfl rfl rfl rfl))))
theorem t3_no (hl : l.stackTraces = false) (hG : GK K) (hC : RC I J 62 n S) {t w : Int32} {o : Nat} (ht : inN n t = true) (hw : inN 7 w = false) : CT3 l G (d + 7) t w o (I, J, K) (some (.int 2)) (bN (I, J, K)) :=
  CT3.of (t3_pre (gx_callX (M2 := m9_tin) (st := [.int 0, .ref o]) rfl vT_7 ok9_tin (x9_no hl hG hC ht hw) rfl (by have := hG.1.1; show kC (K.2.1 0).1 = _; rw [this]; rfl) (by have := hG.1.1; show Nat.blt (K.2.1 0).1 11 = true; rw [this]; rfl) rfl rfl (Nat.le_refl _) (Nat.le_refl _)
    [⟨0, 10, 13, 13⟩] ⟨0, 10, 17, 15⟩ [] rfl (fun z hz => by cases List.mem_singleton.mp hz; exact ⟨by decide, List.mem_filter.mpr ⟨by decide +kernel, rfl⟩, rfl⟩) (by decide) (by decide) (List.mem_filter.mpr ⟨by decide +kernel, rfl⟩) (by decide) rfl rfl (Nat.le_refl 4) rfl
    (go_iconst rfl rfl (go_ireturn rfl rfl rfl rfl))))
theorem t3_ok (hG : GK K) (h3 : K.2.1 145 = (23, 1)) (hR : RP I 33 P) (hC : RC I J 62 n S) (hn : P.1 1 = n) {t : Nat} (ht : t < n) {w : Int32} (hw : inN 7 w = true) : CT3 l G (d + 3) (nI t) w 145 (I, J, K) (some (.int 0)) (wJ (I, J, K) 145 0 (a_tin P S t w).toInt64) := by
  obtain ⟨r1, h1, ct, e1, e2⟩ := Cw.of ok9_tin rfl (rfl : argL [.ref 0, .int (nI t), .int w] 3 = [.ref 0, .int (nI t), .int w]) (g9_tin (l := l) (G := G) (d := d) hG hR hC hn ht hw)
  subst e1
  subst e2
  have k9 := hG.1.1
  refine CT3.of (t3_pre (gx_go ?_))
  refine go_callV (M2 := m9_tin) (st := [.int 0, .ref 145]) rfl vT_7 ok9_tin ct rfl (by show kC (K.2.1 0).1 = _; rw [k9]; rfl) (by show Nat.blt (K.2.1 0).1 11 = true; rw [k9]; rfl) rfl rfl (Nat.zero_le _) (Nat.zero_le _) ?_
  refine go_i2l rfl ?_
  refine go_lastore rfl h3 (by unfold vp_in; decide) ?_
  refine go_goto (tgt := 21) rfl rfl ?_
  refine go_widen (kc' := 1) (ks' := 6) (Nat.zero_le _) (Nat.zero_le _) ?_
  exact go_iconst rfl rfl (go_ireturn rfl rfl rfl rfl)
theorem w_T2 : Cond.initialized RL ∈ gtbl := List.mem_filter.mpr ⟨by decide +kernel, rfl⟩
theorem w_T3 : Cond.static yL_tin ∈ gtbl := List.mem_filter.mpr ⟨by decide +kernel, rfl⟩
theorem w_T4 : Cond.methodLink RL 39 yL_tin ∈ gtbl := List.mem_filter.mpr ⟨by decide +kernel, rfl⟩
/-- the law's call of its own tin -/
theorem go_callT {stk : List Value} {t w : Int32} {o : Nat} {h' : Hp} (hc : lk M pc = some (.invokestatic i, npc, 3)) (hlk : Cond.methodLink M.1.cls i yL_tin ∈ gtbl) (hct : CT3 l G d t w o h r1 h1) (hstk : stk = [.ref 0, .int t, .int w, .ref o].reverse ++ st) (hst : Nat.ble (st.map fun v => v.category).sum 8 = true) (hmc : kc + 1 ≤ mc) (hms : ks + 6 ≤ ms)
    (kk : Go l G (d + 1) mc ms M (kc + 1) (ks + 6) npc L (r1.toList ++ st) h1 r h') : Go l G (d + 1) mc ms M kc ks pc L stk h r h' := by
  intro p e s m args below meth c ls H locs C hL hH hlc
  obtain ⟨hd, -⟩ := C.dec hc
  have hx := C.1
  have hb := C.2.1
  have hts : ∀ w ∈ gtbl, w.before args s = true := fun w hw => C.word hw
  have hown : s.vm.findClass M.1.cls = some m.cls := C.2.2.2.2.2.1
  have hK : KX G s := C.2.2.2.2.2.2.2.1
  have hml : c.maxLocals = M.2.2.1 := C.2.2.2.1
  have hpc : npc = pc + 3 := (C.dec hc).2
  have hW : 2 * (F0 m pc ls (stk.map (tv G))).monitorRoom + ((st.map (tv G)).map fun v => v.category).sum ≤ 8 := lv_room (by rw [cat_sum]; exact Nat.ble_eq.mp hst)
  have hin : ∀ w ∈ wsT, w ∈ gtbl := fun w hw => (List.mem_cons.mp hw).elim (fun e => by rw [e]; exact w_T) id
  have run := vx_runSW (e := e) (meth := meth) (locs := locs) (cells := kc) (slots := ks) (rest := st.map (tv G)) (As := [.ref 0, .int t, .int w, .ref o].map (tv G)) (R := rmm (d + 1) mc ms) (H := H) (below := below) (n := 4) (hh := hhT) (bytes := cL_tin) (maxL := 5) (ret := some .int) (g := F0 m pc ls (stk.map (tv G))) (Ts := gtbl) (nL := M.2.2.1) ⟨hx, hb, hml, hown, hts⟩ hct
    ⟨⟨rfl, rfl, Nat.le_refl _, by show 8 + (5 + 11) + 64 * d ≤ 64 * (d + 1); omega, fun w hw a' U hW => word_at hW (g_good (hin w hw)) (hts _ (hin w hw)), List.mem_cons_self⟩, hts _ w_T, hts _ w_T2, by decide, Lp.of (by decide +kernel), hts _ hlk, hts _ w_T3⟩
    ⟨blind G h _, fun U hU hW2 => ⟨rfl, by rw [hU]; exact hH, KX.warm hW2 hK⟩⟩ rfl rfl hL.1
    (by subst hstk; simp [tv]) hW hd ⟨hmc, hms⟩
  exact go_runs run C hL hlc hpc kk
variable {im : Bool} {SI : SM} {m : Nat} {T : SM} {kn : Int32} {u : Nat} {Hs : Nat → SM} {B t : Nat} {f : Nat → Nat} {fk : Nat} {fp : Int32}
/-- the law's tin, whatever the class does -/
theorem t3_all (hl : l.stackTraces = false) (hK : AK' K) (hv : Ivc I J P S im SI m T kn u Hs B t f fk fp) (x w : Int32) : ∃ J1 K1, CT3 l G (d + 128) x w 145 (I, J, K) (some (.int (nI (thr (P.1 1) x w)))) (I, J1, K1) ∧ AK' K1 ∧ (∀ c, c ≤ 101 → J1 c = J c) ∧ (thr (P.1 1) x w = 0 → J1 145 0 = (a_tin P S x.toNatClampNeg w).toInt64) := by
  unfold thr
  cases e : inN (P.1 1) x
  · exact ⟨J, (K.1, K.2.1, K.2.2 + 1), t3_ix (d := d + 121) hl hK.1 hv.1.2.2.1 e, ⟨hK.1, hK.2.1, hK.2.2.1, Nat.le_succ_of_le hK.2.2.2⟩, fun _ _ => rfl, fun z => by simp at z⟩
  · cases e2 : inN 7 w
    · exact ⟨J, (K.1, K.2.1, K.2.2 + 1), t3_no (d := d + 121) hl hK.1 hv.1.2.2.1 e e2, ⟨hK.1, hK.2.1, hK.2.2.1, Nat.le_succ_of_le hK.2.2.2⟩, fun _ _ => rfl, fun z => by simp at z⟩
    · obtain ⟨j, j1, rfl⟩ := inN_is (by have := hv.1.2.2.1.2.1; omega) e
      refine ⟨_, K, t3_ok (d := d + 125) hK.1 hK.2.2.1 hv.1.1 hv.1.2.2.1 rfl j1 e2, hK, fun c hc => ?_, fun _ => ?_⟩
      · funext q
        exact if_neg (by omega)
      · rw [nI_clamp (by have := hv.1.2.2.1.2.1; omega)]
        exact if_pos ⟨rfl, rfl⟩
end LawTin
