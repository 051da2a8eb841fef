/-! ===== the reference: goes, within, calls, opens ===== -/
theorem u2_comm {α : Type} (I : Nat → Nat → α) {a k a' k' : Nat} (v v' : α) (h : ¬ (a = a' ∧ k = k')) : u2 (u2 I a k v) a' k' v' = u2 (u2 I a' k' v') a k v := by
  funext c i
  unfold u2
  by_cases e : c = a' ∧ i = k'
  · rw [if_pos e, if_neg (fun q => h ⟨q.1.symm.trans e.1, q.2.symm.trans e.2⟩), if_pos e]
  · rw [if_neg e]
    by_cases g : c = a ∧ i = k
    · rw [if_pos g, if_pos g]
    · rw [if_neg g, if_neg g, if_neg e]
/-- of what a store's days may change -/
def FM (f : Nat) (I : IM) (J : JM) (I' : IM) (J' : JM) : Prop := (∀ c i, ¬ onF f c i → ¬ (c = 102 ∧ i = 36) → I' c i = I c i) ∧ ∀ c, c ≠ 122 → c ≠ 123 → J' c = J c
theorem FM.rf {f : Nat} {I : IM} {J : JM} : FM f I J I J := ⟨fun _ _ _ _ => rfl, fun _ _ _ => rfl⟩
theorem FM.tr {f : Nat} {I I1 I2 : IM} {J J1 J2 : JM} (h : FM f I J I1 J1) (g : FM f I1 J1 I2 J2) : FM f I J I2 J2 := ⟨fun c k a e => (g.1 c k a e).trans (h.1 c k a e), fun c a b => (g.2 c a b).trans (h.2 c a b)⟩
theorem FW5.fm {f : Nat} {I I' : IM} {J J' : JM} (h : FW5 I J I' J') : FM f I J I' J' := ⟨fun c k _ e => h.1 c k e, h.2⟩
theorem FM.row {f : Nat} {I I' : IM} {J J' : JM} (h : FM f I J I' J') {c : Nat} (hc : c ≠ 102) (h2 : c < 124 ∨ 136 < c) : I' c = I c := funext fun k => h.1 c k (by unfold onF; omega) (fun q => hc q.1)
theorem FM.obj {f : Nat} {I I' : IM} {J J' : JM} (h : FM f I J I' J') {k : Nat} (hk : k ≠ 36) : I' 102 k = I 102 k := h.1 102 k (by unfold onF; omega) (fun q => hk q.2)
theorem MP.fm {f : Nat} {I I' : IM} {J J' : JM} {P : Pl} (hP : MP I P) (h : FM f I J I' J') : MP I' P := hP.frame (fun c a b => h.row (by omega) (by omega))
theorem RM.fw {f n B : Nat} {I I' : IM} {J J' : JM} {S : SM} (h : RM I f n S B) (hn : n ≤ 8) (g : FW5 I J I' J') : RM I' f n S B := h.frame hn (fun c i e => g.1 c i (by unfold onF at e; omega))
theorem FM.w {f c i : Nat} {I : IM} {J : JM} {v : Int32} (h : onF f c i) : FM f I J (u2 I c i v) J := ⟨fun c' i' e _ => if_neg (fun q => e (by rw [q.1, q.2]; exact h)), fun _ _ _ => rfl⟩
theorem on1 {f c : Nat} (a : 124 ≤ c) (b : c ≤ 129) : onF f c f := Or.inl ⟨a, b, rfl⟩
theorem on8 {f c t : Nat} (a : 130 ≤ c) (b : c ≤ 136) (h : t < 8) : onF f c (8 * f + t) := Or.inr ⟨a, b, by omega, by omega⟩
theorem wf_law {P : Pl} (h : wfX P) {w : Nat} (hw : w < 3) (hb : bitOf (P.2 16 0) (nI w) = true) : ∃ a b, P.2 14 w = nI a ∧ P.2 15 w = nI b ∧ a < b ∧ b ≤ P.1 4 ∧ b ≤ 64 ∧ htF (P.2 13) (b - a) a 0 = some 1 := by
  obtain ⟨a, b, h1, h2, h3, h4, h5⟩ := h.2.1.1 w hw hb
  have h6 := h.2.1.2
  refine ⟨a, b, h1, h2, ?_, h4, by omega, h5 0⟩
  rcases Nat.lt_or_ge a b with q | q
  · exact q
  · have h50 := h5 0
    rw [show b - a = 0 by omega] at h50
    exact absurd (Option.some.inj h50) (by omega)
section MOpen
variable {l : Launch} {G : GG} {d : Nat} {I : IM} {J : JM} {K : Kt} {Q : Option Value → Hp → Prop} {P : Pl} {f n B : Nat} {S : SM}
theorem c10_hasLaw (hM : MK K) (hP : MP I P) (hX : wfX P) {w : Nat} (hw : w < 3) : Cp l G d m10_hasLaw [.ref 102, .int (nI w)] (I, J, K) (.int (bI (bitOf (P.2 16 0) (nI w)))) := by
  obtain ⟨e1, e2⟩ := hP.2.2.2.2.2.1 w hw
  refine Cp.of ok10_hasLaw rfl (rfl : argL _ _ = [.ref 102, .int (nI w)]) ?_
  cases hb : bitOf (P.2 16 0) (nI w) with
  | true =>
    obtain ⟨a, b, h1, h2, h3, h4, h5, -⟩ := wf_law hX hw hb
    obtain ⟨q1, q2⟩ := e1 hb
    refine e_aload_n rfl rfl ?_
    refine e_getP rfl f10_58 hM.k rfl hM.p18 ?_
    refine e_iload_n rfl rfl ?_
    first | refine e_ialoadN rfl hM.a18 (by omega) (by omega) ?_ | (refine e_iaload rfl hM.a18 ?_ ?_; rotate_left)
    rw [q2, h2]
    refine e_aload_n rfl rfl ?_
    refine e_getP rfl f10_55 hM.k rfl hM.p17 ?_
    refine e_iload_n rfl rfl ?_
    first | refine e_ialoadN rfl hM.a17 (by omega) (by omega) ?_ | (refine e_iaload rfl hM.a17 ?_ ?_; rotate_left)
    rw [q1, h1]
    first | refine e_icmp_leN (tgt := 19) rfl rfl (by omega) (by omega) (fun z => ?_) (fun z => ?_) | refine e_icmp_le (tgt := 19) rfl rfl (fun z => ?_) (fun z => ?_)
    · omega
    · refine e_iconst (v := nI 1) rfl ic_1N ?_
      refine e_goto (tgt := 20) rfl rfl ?_
      refine e_zreturn rfl rfl ?_ ?_
      · exact Or.inr rfl
      · exact ⟨rfl, rfl⟩
  | false =>
    obtain ⟨q1, q2⟩ := e2 hb
    refine e_aload_n rfl rfl ?_
    refine e_getP rfl f10_58 hM.k rfl hM.p18 ?_
    refine e_iload_n rfl rfl ?_
    first | refine e_ialoadN rfl hM.a18 (by omega) (by omega) ?_ | (refine e_iaload rfl hM.a18 ?_ ?_; rotate_left)
    rw [q2]
    refine e_aload_n rfl rfl ?_
    refine e_getP rfl f10_55 hM.k rfl hM.p17 ?_
    refine e_iload_n rfl rfl ?_
    first | refine e_ialoadN rfl hM.a17 (by omega) (by omega) ?_ | (refine e_iaload rfl hM.a17 ?_ ?_; rotate_left)
    rw [q1]
    first | refine e_icmp_leN (tgt := 19) rfl rfl (by omega) (by omega) (fun z => ?_) (fun z => ?_) | refine e_icmp_le (tgt := 19) rfl rfl (fun z => ?_) (fun z => ?_)
    · refine e_iconst (v := nI 0) rfl ic_0N ?_
      refine e_zreturn rfl rfl ?_ ?_
      · exact Or.inl rfl
      · exact ⟨rfl, rfl⟩
    · omega
theorem c10_goes (hM : MK K) (hP : MP I P) (hX : wfX P) {w : Nat} (hw : w < 3) (hb : bitOf (P.2 16 0) (nI w) = true) {nm : Nat → Int32} (hn : ∀ j, j < 7 → J 122 j = (nm j).toInt64) : Cw l G (d + 2) m10_goes [.ref 102, .int (nI w)] (I, J, K) (fun r h' => ∃ I' J', h' = (I', J', K) ∧ FW5 I J I' J' ∧ ((r = some (.int (bI false)) ∧ lawP P w nm = MINL) ∨ (r = some (.int (bI true)) ∧ vB (lawP P w nm) ∧ J' 123 0 = lawP P w nm))) := by
  obtain ⟨a, b, h1, h2, h3, h4, h5, h6⟩ := wf_law hX hw hb
  obtain ⟨q1, q2⟩ := (hP.2.2.2.2.2.1 w hw).1 hb
  have el : lawP P w nm = evW (P.2 13) nm (b - a) a [] := by
    unfold lawP lawV
    rw [if_pos hb, h1, h2, nI_clamp (by omega), nI_clamp (by omega)]
  rw [el]
  refine Cw.of ok10_goes rfl (rfl : argL _ _ = [.ref 102, .int (nI w), .null]) ?_
  refine e_aload_n rfl rfl ?_
  refine e_iconst (v := nI 0) rfl ic_0N ?_
  refine e_putI rfl f10_310 hM.k rfl rfl ?_
  refine e_aload_n rfl rfl ?_
  refine e_getP rfl f10_55 hM.k rfl hM.p17 ?_
  refine e_iload_n rfl rfl ?_
  first | refine e_ialoadN rfl hM.a17 (by omega) (by omega) ?_ | (refine e_iaload rfl hM.a17 ?_ ?_; rotate_left)
  rw [u2_ne _ _ (by omega), q1, h1]
  refine e_ist2 rfl rfl rfl ?_
  have fw : FW5 I J (u2 I 102 36 (nI 0)) J := ⟨fun c k e => if_neg e, fun _ _ _ => rfl⟩
  exact goes_loop hM hw h5 (b - a) a [] _ J (by omega) (by rw [u2_ne _ _ (by omega), q2, h2]) (fun j hj => by rw [u2_ne _ _ (by omega), u2_ne _ _ (by omega)]; exact hP.2.2.2.2.2.2 j (by omega)) hn trivial (u2_at _ _ _ _) (by show 0 + (b - a) ≤ 64; omega) trivial h6 (fun I' J' g e => ⟨I', J', rfl, fw.tr g, Or.inl ⟨rfl, e⟩⟩) (fun I' J' g e1 e2 => ⟨I', J', rfl, fw.tr g, Or.inr ⟨rfl, e1, e2⟩⟩)
theorem c10_within (hM : MK K) (hP : MP I P) (hX : wfX P) {w : Nat} (hw : w < 3) {nm : Nat → Int32} (hn : ∀ j, j < 7 → J 122 j = (nm j).toInt64) (lo hi wo : Int32) : Cw l G (d + 3) m10_within [.ref 102, .int (nI w), .int lo, .int hi, .int wo] (I, J, K) (fun r h' => r = some (.int (wn (lawP P w nm) lo hi wo)) ∧ ∃ I' J', h' = (I', J', K) ∧ FW5 I J I' J') := by
  refine Cw.of ok10_within rfl (rfl : argL _ _ = [.ref 102, .int (nI w), .int lo, .int hi, .int wo]) ?_
  refine e_aload_n rfl rfl ?_
  refine e_iload_n rfl rfl ?_
  refine e_callVp (kd := 10) (M2 := m10_hasLaw) rfl v10_340 ok10_hasLaw (c10_hasLaw (d := d + 2) hM hP hX hw) rfl hM.k rfl rfl rfl rfl ?_
  refine e_if_eqB (tgt := 16) rfl rfl (fun z => ?_) (fun z => ?_)
  · refine e_iload rfl rfl ?_
    refine e_ireturn rfl rfl ?_
    have el : lawP P w nm = MINL := by
      unfold lawP lawV
      rw [if_neg (by rw [z]; decide)]
    rw [wn, if_pos el]
    exact ⟨rfl, I, J, rfl, FW5.rf⟩
  · refine e_aload_n rfl rfl ?_
    refine e_iload_n rfl rfl ?_
    refine e_callV (kd := 10) (M2 := m10_goes) rfl v10_343 ok10_goes (c10_goes (d := d) hM hP hX hw z hn) rfl hM.k rfl rfl rfl rfl (fun r1 h1 q1 => ?_)
    obtain ⟨I1, J1, rfl, g1, q⟩ := q1
    rcases q with ⟨rfl, e⟩ | ⟨rfl, e1, e2⟩
    · refine e_if_neB (tgt := 19) rfl rfl (fun z => absurd z (by decide)) (fun _ => ?_)
      refine e_iload rfl rfl ?_
      refine e_ireturn rfl rfl ?_
      rw [wn, if_pos e]
      exact ⟨rfl, I1, J1, rfl, g1⟩
    · refine e_if_neB (tgt := 19) rfl rfl (fun _ => ?_) (fun z => absurd z (by decide))
      refine e_iload_n rfl rfl ?_
      refine e_i2l rfl ?_
      refine e_iload_n rfl rfl ?_
      refine e_i2l rfl ?_
      refine e_aload_n rfl rfl ?_
      refine e_getP rfl f10_75 hM.k rfl hM.p35 ?_
      refine e_iconst (v := nI 0) rfl ic_0N ?_
      refine e_laloadN (j := 0) rfl hM.a35 (by omega) (by omega) ?_
      rw [e2]
      refine e_minl rfl v10_346 rfl ?_
      refine e_maxl rfl v10_350 rfl ?_
      refine e_l2i rfl ?_
      refine e_ireturn rfl rfl ?_
      rw [wn, if_neg (vB_ne e1)]
      exact ⟨rfl, I1, J1, rfl, g1⟩
theorem c10_calls (hM : MK K) (hP : MP I P) (hX : wfX P) (hn : P.1 1 = n) (hR : RM I f n S B) (hf : f < 23) {t : Nat} (ht : t < n) (wo : Int32) : Cw l G d m10_calls [.ref 102, .int (nI f), .int (nI t), .int wo] (I, J, K) (fun r h' => r = none ∧ ∃ J', h' = (I, J', K) ∧ (∀ c, c ≠ 122 → J' c = J c) ∧ ∀ j, j < 7 → J' 122 j = (nmS P S t wo j).toInt64) := by
  have h8 := hX.1.1.2.1
  obtain ⟨e0, e1, e2, e4, e5⟩ := hR.1 t ht
  obtain ⟨p3, p4, p5, p6, p7⟩ := hP.2.2.1 t (by omega)
  obtain ⟨⟨kd, hkd, ekd⟩, -⟩ := hX.1.2.2.1 t (by omega)
  have h6 := hX.1.1.1
  obtain ⟨k0, k1, k2⟩ := hP.2.1 kd hkd
  have ed := hR.2.2.1.1
  refine Cw.of ok10_calls rfl (rfl : argL _ _ = [.ref 102, .int (nI f), .int (nI t), .int wo, .null]) ?_
  refine e_bipush (v := nI 8) rfl bp_8N ?_
  refine e_iload_n rfl rfl ?_
  first | refine e_imulN rfl ?_ | refine e_imul rfl ?_
  refine e_iload_n rfl rfl ?_
  first | refine e_iaddN rfl ?_ | refine e_iadd rfl ?_
  refine e_ist4 rfl rfl rfl ?_
  refine e_aload_n rfl rfl ?_
  refine e_getP rfl f10_71 hM.k rfl hM.p34 ?_
  refine e_iconst (v := nI 0) rfl ic_0N ?_
  refine e_aload_n rfl rfl ?_
  refine e_getP rfl f10_102 hM.k rfl hM.p45 ?_
  refine e_iload rfl rfl ?_
  first | refine e_ialoadN rfl hM.a45 (by omega) (by omega) ?_ | (refine e_iaload rfl hM.a45 ?_ ?_; rotate_left)
  rw [e1]
  refine e_i2l rfl ?_
  first | refine e_lastoreN rfl hM.a34 (by omega) (by omega) ?_ | (refine e_lastore rfl hM.a34 ?_ ?_; rotate_left)
  refine e_aload_n rfl rfl ?_
  refine e_getP rfl f10_71 hM.k rfl hM.p34 ?_
  refine e_iconst (v := nI 1) rfl ic_1N ?_
  refine e_aload_n rfl rfl ?_
  refine e_getP rfl f10_34 hM.k rfl hM.p10 ?_
  refine e_iload_n rfl rfl ?_
  first | refine e_ialoadN rfl hM.a10 (by omega) (by omega) ?_ | (refine e_iaload rfl hM.a10 ?_ ?_; rotate_left)
  rw [p6]
  refine e_i2l rfl ?_
  first | refine e_lastoreN rfl hM.a34 (by omega) (by omega) ?_ | (refine e_lastore rfl hM.a34 ?_ ?_; rotate_left)
  refine e_aload_n rfl rfl ?_
  refine e_getP rfl f10_71 hM.k rfl hM.p34 ?_
  refine e_iconst (v := nI 2) rfl ic_2N ?_
  refine e_aload_n rfl rfl ?_
  refine e_getP rfl f10_19 hM.k rfl hM.p5 ?_
  refine e_aload_n rfl rfl ?_
  refine e_getP rfl f10_28 hM.k rfl hM.p8 ?_
  refine e_iload_n rfl rfl ?_
  first | refine e_ialoadN rfl hM.a8 (by omega) (by omega) ?_ | (refine e_iaload rfl hM.a8 ?_ ?_; rotate_left)
  rw [p4, ekd]
  first | refine e_ialoadN rfl hM.a5 (by omega) (by omega) ?_ | (refine e_iaload rfl hM.a5 ?_ ?_; rotate_left)
  rw [k1]
  refine e_i2l rfl ?_
  first | refine e_lastoreN rfl hM.a34 (by omega) (by omega) ?_ | (refine e_lastore rfl hM.a34 ?_ ?_; rotate_left)
  refine e_aload_n rfl rfl ?_
  refine e_getP rfl f10_71 hM.k rfl hM.p34 ?_
  refine e_iconst (v := nI 3) rfl ic_3N ?_
  refine e_aload_n rfl rfl ?_
  refine e_getP rfl f10_22 hM.k rfl hM.p6 ?_
  refine e_aload_n rfl rfl ?_
  refine e_getP rfl f10_28 hM.k rfl hM.p8 ?_
  refine e_iload_n rfl rfl ?_
  first | refine e_ialoadN rfl hM.a8 (by omega) (by omega) ?_ | (refine e_iaload rfl hM.a8 ?_ ?_; rotate_left)
  rw [p4, ekd]
  first | refine e_ialoadN rfl hM.a6 (by omega) (by omega) ?_ | (refine e_iaload rfl hM.a6 ?_ ?_; rotate_left)
  rw [k2]
  refine e_i2l rfl ?_
  first | refine e_lastoreN rfl hM.a34 (by omega) (by omega) ?_ | (refine e_lastore rfl hM.a34 ?_ ?_; rotate_left)
  refine e_aload_n rfl rfl ?_
  refine e_getP rfl f10_71 hM.k rfl hM.p34 ?_
  refine e_iconst (v := nI 4) rfl ic_4N ?_
  refine e_iload_n rfl rfl ?_
  refine e_i2l rfl ?_
  first | refine e_lastoreN rfl hM.a34 (by omega) (by omega) ?_ | (refine e_lastore rfl hM.a34 ?_ ?_; rotate_left)
  refine e_aload_n rfl rfl ?_
  refine e_getP rfl f10_71 hM.k rfl hM.p34 ?_
  refine e_iconst (v := nI 5) rfl ic_5N ?_
  refine e_aload_n rfl rfl ?_
  refine e_getP rfl f10_108 hM.k rfl hM.p47 ?_
  refine e_iload rfl rfl ?_
  first | refine e_ialoadN rfl hM.a47 (by omega) (by omega) ?_ | (refine e_iaload rfl hM.a47 ?_ ?_; rotate_left)
  rw [e4]
  refine e_i2l rfl ?_
  first | refine e_lastoreN rfl hM.a34 (by omega) (by omega) ?_ | (refine e_lastore rfl hM.a34 ?_ ?_; rotate_left)
  refine e_aload_n rfl rfl ?_
  refine e_getP rfl f10_71 hM.k rfl hM.p34 ?_
  refine e_bipush (v := nI 6) rfl bp_6N ?_
  refine e_aload_n rfl rfl ?_
  refine e_getP rfl f10_78 hM.k rfl hM.p37 ?_
  refine e_iload_n rfl rfl ?_
  first | refine e_ialoadN rfl hM.a37 (by omega) (by omega) ?_ | (refine e_iaload rfl hM.a37 ?_ ?_; rotate_left)
  rw [ed]
  refine e_i2l rfl ?_
  first | refine e_lastoreN rfl hM.a34 (by omega) (by omega) ?_ | (refine e_lastore rfl hM.a34 ?_ ?_; rotate_left)
  refine e_return rfl rfl ?_
  refine ⟨rfl, _, rfl, fun c hc => ?_, fun j hj => ?_⟩
  · simp (disch := omega) only [u2_row]
  · unfold nmS
    rw [ekd, nI_clamp (by omega)]
    obtain rfl | rfl | rfl | rfl | rfl | rfl | rfl : j = 0 ∨ j = 1 ∨ j = 2 ∨ j = 3 ∨ j = 4 ∨ j = 5 ∨ j = 6 := by omega
    all_goals simp (disch := omega) only [u2_nk, u2_at] <;> rfl
theorem c10_opens (hM : MK K) (hP : MP I P) (hX : wfX P) (hn : P.1 1 = n) (hR : RM I f n S B) (hf : f < 23) {t : Nat} (ht : t < n) {ky : Nat} (hk : ky ≤ 99) (ek : S 9 0 = nI ky) : Cw l G (d + 4) m10_opens [.ref 102, .int (nI f), .int (nI t)] (I, J, K) (fun r h' => r = none ∧ ∃ I' J', h' = (I', J', K) ∧ FM f I J I' J' ∧ RM I' f n (unsA P S t) B) := by
  have h8 := hX.1.1.2.1
  have e9 := hR.2.2.1.2.1
  have e0 := (hR.1 t ht).1
  have no : ¬ (S 0 t = 0 ∧ 0 < S 9 0) → Gw l G (d + 4) m10_opens 18 [.ref 102, .int (nI f), .int (nI t)] [] (I, J, K) (fun r h' => r = none ∧ ∃ I' J', h' = (I', J', K) ∧ FM f I J I' J' ∧ RM I' f n (unsA P S t) B) := by
    intro hno
    refine e_return rfl rfl ?_
    rw [unsA, if_neg hno]
    exact ⟨rfl, I, J, rfl, FM.rf, hR⟩
  refine Cw.of ok10_opens rfl (rfl : argL _ _ = [.ref 102, .int (nI f), .int (nI t)]) ?_
  refine e_aload_n rfl rfl ?_
  refine e_getP rfl f10_84 hM.k rfl hM.p39 ?_
  refine e_iload_n rfl rfl ?_
  first | refine e_ialoadN rfl hM.a39 (by omega) (by omega) ?_ | (refine e_iaload rfl hM.a39 ?_ ?_; rotate_left)
  rw [e9, ek]
  first | refine e_if_eqB (tgt := 18) rfl rfl (fun z => ?_) (fun z => ?_) | refine e_if_eqN (tgt := 18) rfl rfl (by omega) (fun z => ?_) (fun z => ?_) | refine e_if_eq (tgt := 18) rfl rfl (fun z => ?_) (fun z => ?_)
  · have y : ky = 0 := by assumption
    exact no (fun q => absurd q.2 (by rw [ek, y]; decide))
  · have y : ky ≠ 0 := by assumption
    refine e_aload_n rfl rfl ?_
    refine e_iload_n rfl rfl ?_
    refine e_iload_n rfl rfl ?_
    refine e_callVp (kd := 10) (M2 := m10_isClosed) rfl v10_333 ok10_isClosed (c10_isClosed (d := d + 3) hM hf (by omega)) rfl hM.k rfl rfl rfl rfl ?_
    rw [e0]
    refine e_if_neB (tgt := 19) rfl rfl (fun z => ?_) (fun z => ?_)
    · have z := of_decide_eq_true z
      refine e_aload_n rfl rfl ?_
      refine e_getP rfl f10_84 hM.k rfl hM.p39 ?_
      refine e_iload_n rfl rfl ?_
      refine e_dup2 rfl rfl rfl ?_
      first | refine e_ialoadN rfl hM.a39 (by omega) (by omega) ?_ | (refine e_iaload rfl hM.a39 ?_ ?_; rotate_left)
      rw [e9, ek]
      refine e_iconst (v := nI 1) rfl ic_1N ?_
      first | refine e_isubN rfl (by omega) ?_ | refine e_isub rfl ?_
      first | refine e_iastoreN rfl hM.a39 (by omega) (by omega) ?_ | (refine e_iastore rfl hM.a39 ?_ ?_; rotate_left)
      have R1 : RM (u2 I 126 f (nI (ky - 1))) f n (u2 S 9 0 (nI (ky - 1))) B := hR.w9 _
      have P1 : MP (u2 I 126 f (nI (ky - 1))) P := hP.frame (fun c a b => u2_row _ _ (by omega))
      refine e_aload_n rfl rfl ?_
      refine e_iload_n rfl rfl ?_
      refine e_iload_n rfl rfl ?_
      refine e_iconst (v := nI 0) rfl ic_0N ?_
      refine e_callV (kd := 10) (M2 := m10_calls) rfl v10_353 ok10_calls (c10_calls (d := d + 3) hM P1 hX hn R1 hf ht 0) rfl hM.k rfl rfl rfl rfl (fun r1 h1 q1 => ?_)
      obtain ⟨rfl, J2, rfl, j2, n2⟩ := q1
      refine e_aload_n rfl rfl ?_
      refine e_getP rfl f10_108 hM.k rfl hM.p47 ?_
      refine e_bipush (v := nI 8) rfl bp_8N ?_
      refine e_iload_n rfl rfl ?_
      first | refine e_imulN rfl ?_ | refine e_imul rfl ?_
      refine e_iload_n rfl rfl ?_
      first | refine e_iaddN rfl ?_ | refine e_iadd rfl ?_
      refine e_aload_n rfl rfl ?_
      refine e_iconst (v := nI 0) rfl ic_0N ?_
      refine e_iconst (v := nI 1) rfl ic_1N ?_
      refine e_bipush (v := nI 9) rfl bp_9N ?_
      refine e_iconst (v := nI 3) rfl ic_3N ?_
      refine e_callV (kd := 10) (M2 := m10_within) rfl v10_357 ok10_within (c10_within (d := d) (w := 0) hM P1 hX (by omega) n2 (nI 1) (nI 9) (nI 3)) rfl hM.k rfl rfl rfl rfl (fun r1 h1 q1 => ?_)
      obtain ⟨rfl, I3, J3, rfl, g3⟩ := q1
      have R3 := R1.fw (by omega) g3
      first | refine e_iastoreN rfl hM.a47 (by omega) (by omega) ?_ | (refine e_iastore rfl hM.a47 ?_ ?_; rotate_left)
      refine e_aload_n rfl rfl ?_
      refine e_getP rfl f10_105 hM.k rfl hM.p46 ?_
      refine e_bipush (v := nI 8) rfl bp_8N ?_
      refine e_iload_n rfl rfl ?_
      first | refine e_imulN rfl ?_ | refine e_imul rfl ?_
      refine e_iload_n rfl rfl ?_
      first | refine e_iaddN rfl ?_ | refine e_iadd rfl ?_
      refine e_iconst (v := nI 1) rfl ic_1N ?_
      first | refine e_iastoreN rfl hM.a46 (by omega) (by omega) ?_ | (refine e_iastore rfl hM.a46 ?_ ?_; rotate_left)
      refine e_return rfl rfl ?_
      have en : nmS P (u2 S 9 0 (nI (ky - 1))) t 0 = nmS P S t 0 := by
        unfold nmS
        simp (disch := omega) only [u2_ne]
      rw [en]
      have f1 : FM f I J (u2 I 126 f (nI (ky - 1))) J := FM.w (on1 (by omega) (by omega))
      have f2 : FM f (u2 I 126 f (nI (ky - 1))) J (u2 I 126 f (nI (ky - 1))) J2 := ⟨fun _ _ _ _ => rfl, fun c a _ => j2 c a⟩
      refine ⟨rfl, _, J3, rfl, ((f1.tr f2).tr g3.fm).tr ((FM.w (on8 (by omega) (by omega) (by omega))).tr (FM.w (on8 (by omega) (by omega) (by omega)))), ?_⟩
      have eu : unsA P S t = u2 (u2 (u2 S 9 0 (nI (ky - 1))) 4 t (wn (lawP P 0 (nmS P S t 0)) (nI 1) (nI 9) (nI 3))) 0 t (nI 1) := by
        rw [unsA, if_pos ⟨z, by rw [ek]; show nI 0 < nI ky; exact (nI_ltI (by omega) (by omega)).mpr (by omega)⟩, unsS, ek, pk_sub (by omega)]
        rw [u2_comm S (nI 1) (nI (ky - 1)) (by omega), u2_comm (u2 S 9 0 (nI (ky - 1))) (nI 1) _ (by omega)]
      rw [eu]
      exact (R3.w4 (by omega) _).w0 (by omega) _
    · exact no (fun q => of_decide_eq_false z q.1)
/-- one open told, as the reference has it -/
def otI (P : Pl) (way : Int32) (n : Nat) (S : SM) (t : Nat) : SM := if 0 < S 9 0 ∧ (if way = nI 3 then decide (S 0 t = 0) else topS S n t) = true then unsS P S t else u2 S 13 0 (S 13 0 + nI 1)
theorem c10_opensTold (hM : MK K) (hP : MP I P) (hX : wfX P) (hn : P.1 1 = n) (hR : RM I f n S B) (hf : f < 23) {t : Nat} (ht : t < n) {ky : Nat} (hk : ky ≤ 99) (ek : S 9 0 = nI ky) {way : Int32} (hw : I 102 52 = way) : Cw l G (d + 5) m10_opensTold [.ref 102, .int (nI f), .int (nI t)] (I, J, K) (fun r h' => r = none ∧ ∃ I' J', h' = (I', J', K) ∧ FM f I J I' J' ∧ RM I' f n (otI P way n S t) B) := by
  have h8 := hX.1.1.2.1
  have hn1 : I 104 1 = nI n := by rw [← hn]; exact hP.1.2.1
  have e9 := hR.2.2.1.2.1
  have e0 := (hR.1 t ht).1
  have e13 := hR.2.2.1.2.2.2.1
  have no : ¬ (0 < S 9 0 ∧ (if way = nI 3 then decide (S 0 t = 0) else topS S n t) = true) → ∀ v3, Gw l G (d + 5) m10_opensTold 46 [.ref 102, .int (nI f), .int (nI t), v3] [] (I, J, K) (fun r h' => r = none ∧ ∃ I' J', h' = (I', J', K) ∧ FM f I J I' J' ∧ RM I' f n (otI P way n S t) B) := by
    intro hno v3
    refine e_aload_n rfl rfl ?_
    refine e_getP rfl f10_90 hM.k rfl hM.p41 ?_
    refine e_iload_n rfl rfl ?_
    refine e_dup2 rfl rfl rfl ?_
    first | refine e_ialoadN rfl hM.a41 (by omega) (by omega) ?_ | (refine e_iaload rfl hM.a41 ?_ ?_; rotate_left)
    rw [e13]
    refine e_iconst (v := nI 1) rfl ic_1N ?_
    refine e_iadd rfl ?_
    first | refine e_iastoreN rfl hM.a41 (by omega) (by omega) ?_ | (refine e_iastore rfl hM.a41 ?_ ?_; rotate_left)
    refine e_return rfl rfl ?_
    rw [otI, if_neg hno]
    exact ⟨rfl, _, J, rfl, FM.w (on1 (by omega) (by omega)), hR.w13 _⟩
  have mid : ∀ b : Bool, b = (if way = nI 3 then decide (S 0 t = 0) else topS S n t) → ∀ v3, Gw l G (d + 5) m10_opensTold 23 [.ref 102, .int (nI f), .int (nI t), v3] [.int (bI b)] (I, J, K) (fun r h' => r = none ∧ ∃ I' J', h' = (I', J', K) ∧ FM f I J I' J' ∧ RM I' f n (otI P way n S t) B) := by
    intro b hb v3
    refine e_ist3 rfl rfl rfl ?_
    refine e_iload_n rfl rfl ?_
    refine e_if_eqB (tgt := 46) rfl rfl (fun z => ?_) (fun z => ?_)
    · exact no (fun q => absurd q.2 (by rw [← hb, z]; decide)) _
    · have zb := z
      refine e_aload_n rfl rfl ?_
      refine e_getP rfl f10_84 hM.k rfl hM.p39 ?_
      refine e_iload_n rfl rfl ?_
      first | refine e_ialoadN rfl hM.a39 (by omega) (by omega) ?_ | (refine e_iaload rfl hM.a39 ?_ ?_; rotate_left)
      rw [e9, ek]
      first | refine e_if_leN (tgt := 46) rfl rfl (by omega) (fun z => ?_) (fun z => ?_) | refine e_if_le (tgt := 46) rfl rfl (fun z => ?_) (fun z => ?_)
      · have y : ky = 0 := by assumption
        exact no (fun q => absurd q.1 (by rw [ek, y]; decide)) _
      · have y : 0 < ky := by assumption
        refine e_aload_n rfl rfl ?_
        refine e_iload_n rfl rfl ?_
        refine e_iload_n rfl rfl ?_
        refine e_callV (kd := 10) (M2 := m10_opens) rfl v10_367 ok10_opens (c10_opens (d := d) hM hP hX hn hR hf ht hk ek) rfl hM.k rfl rfl rfl rfl (fun r1 h1 q1 => ?_)
        obtain ⟨rfl, I1, J1, rfl, g1, R1⟩ := q1
        refine e_goto (tgt := 56) rfl rfl ?_
        refine e_return rfl rfl ?_
        have k0 : 0 < S 9 0 := by rw [ek]; show nI 0 < nI ky; exact (nI_ltI (by omega) (by omega)).mpr y
        have c0 : S 0 t = 0 := by
          rw [zb] at hb
          by_cases c : way = nI 3
          · rw [if_pos c] at hb; exact of_decide_eq_true hb.symm
          · rw [if_neg c] at hb
            exact of_decide_eq_true ((Bool.and_eq_true _ _).mp hb.symm).1
        rw [unsA, if_pos ⟨c0, k0⟩] at R1
        rw [otI, if_pos ⟨k0, by rw [← hb]; exact zb⟩]
        exact ⟨rfl, I1, J1, rfl, g1, R1⟩
  refine Cw.of ok10_opensTold rfl (rfl : argL _ _ = [.ref 102, .int (nI f), .int (nI t), .null]) ?_
  refine e_aload_n rfl rfl ?_
  refine e_getI rfl f10_361 hM.k rfl ?_
  rw [hw]
  refine e_iconst (v := nI 3) rfl ic_3N ?_
  refine e_icmp_ne (tgt := 17) rfl rfl (fun z => ?_) (fun z => ?_)
  · refine e_aload_n rfl rfl ?_
    refine e_iload_n rfl rfl ?_
    refine e_iload_n rfl rfl ?_
    refine e_callVp (kd := 10) (M2 := m10_isOnTop) rfl v10_364 ok10_isOnTop (c10_isOnTop (d := d + 2) hM hn1 (by omega) hR hf ht) rfl hM.k rfl rfl rfl rfl ?_
    exact mid _ (by rw [if_neg z]) _
  · refine e_aload_n rfl rfl ?_
    refine e_iload_n rfl rfl ?_
    refine e_iload_n rfl rfl ?_
    refine e_callVp (kd := 10) (M2 := m10_isClosed) rfl v10_333 ok10_isClosed (c10_isClosed (d := d + 4) hM hf (by omega)) rfl hM.k rfl rfl rfl rfl ?_
    refine e_goto (tgt := 23) rfl rfl ?_
    rw [e0]
    exact mid _ (by rw [if_pos z]) _
end MOpen
