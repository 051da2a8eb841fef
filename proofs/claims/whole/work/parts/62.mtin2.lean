/-! ===== the reference: put, dent, find, undo, keep, back, want, count ===== -/
section MTn2
variable {l : Launch} {G : GG} {d : Nat} {I : IM} {J : JM} {K : Kt} {Q : Option Value → Hp → Prop} {P : Pl} {S : SM} {im : Bool} {SI : SM} {m : Nat} {T : SM} {kn : Int32} {u : Nat} {Hs : Nat → SM} {B n : Nat}
theorem c10_put (hM : MK K) (hI : MI I P S im SI m T kn u Hs B) (hn : P.1 1 = n) (hB : B < 2 ^ 29) (t x : Int32) : Cw l G (d + 3) m10_put [.ref 102, .int t, .int x] (I, J, K) (fun r h' => r = some (.int (bI (isPut S n t x))) ∧ MPst I J K h' P (if isPut S n t x = true then putS S t.toNatClampNeg x else S) im SI m T kn (if isPut S n t x = true then u1 u else u) (if isPut S n t x = true then H1 u Hs S else Hs) (B + 2)) := by
  have g0 : FQm I J (u2 I 102 0 (nI 0)) J := FQm.w0
  have hI1 := hI.t0 J
  have hP := hI1.1
  have hR := hI1.2.2.1
  obtain ⟨hu, hu20, hH⟩ := hI1.2.2.2.2.2.2.1
  rw [hn] at hR hH
  have h8 := hI.2.1.1.1.2.1
  have hn1 : (u2 I 102 0 (nI 0)) 104 1 = nI n := by rw [← hn]; exact hP.1.2.1
  have no : isPut S n t x = false → Gw l G (d + 3) m10_put 39 [.ref 102, .int t, .int x] [] (u2 I 102 0 (nI 0), J, K) (fun r h' => r = some (.int (bI (isPut S n t x))) ∧ MPst I J K h' P (if isPut S n t x = true then putS S t.toNatClampNeg x else S) im SI m T kn (if isPut S n t x = true then u1 u else u) (if isPut S n t x = true then H1 u Hs S else Hs) (B + 2)) := by
    intro hno
    rw [hno]
    refine e_iconst (v := nI 0) rfl ic_0N ?_
    refine e_zreturn rfl rfl ?_ ?_
    · exact Or.inl rfl
    · exact ⟨rfl, hI.fin g0⟩
  refine Cw.of ok10_put rfl (rfl : argL _ _ = [.ref 102, .int t, .int x]) ?_
  refine e_aload_n rfl rfl ?_
  refine e_iconst (v := nI 0) rfl ic_0N ?_
  refine e_putI rfl f10_151 hM.k rfl rfl ?_
  refine e_aload_n rfl rfl ?_
  refine e_iload_n rfl rfl ?_
  refine e_callVp (kd := 10) (M2 := m10_isTin) rfl v10_397 ok10_isTin (c10_isTin (d := d + 2) hM hn1 t) rfl hM.k rfl rfl rfl rfl ?_
  refine e_if_eqB (tgt := 39) rfl rfl (fun z => ?_) (fun z => ?_)
  · exact no (by unfold isPut; rw [z, Bool.false_and])
  · refine e_iload_n rfl rfl ?_
    refine e_callSp (M2 := m10_isStack) rfl v10_406 ok10_isStack (c10_isStack (d := d + 2) x) rfl rfl rfl ?_
    refine e_if_eqB (tgt := 39) rfl rfl (fun y => ?_) (fun y => ?_)
    · exact no (by unfold isPut; rw [y, Bool.false_and, Bool.and_false])
    · obtain ⟨i, hi, rfl⟩ := inN_of (by omega) z
      have ep : isPut S n (nI i) x = (topS S n i && !decide (S 2 i = x)) := by unfold isPut; rw [z, y, nI_clamp (by omega), Bool.true_and, Bool.true_and]
      rw [nI_clamp (by omega)] at no ⊢
      refine e_aload_n rfl rfl ?_
      refine e_iconst (v := nI 0) rfl ic_0N ?_
      refine e_iload_n rfl rfl ?_
      refine e_callVp (kd := 10) (M2 := m10_isOnTop) rfl v10_364 ok10_isOnTop (c10_isOnTop (d := d) (f := 0) hM hn1 (by omega) hR (by omega) hi) rfl hM.k rfl rfl rfl rfl ?_
      refine e_if_eqB (tgt := 39) rfl rfl (fun w => ?_) (fun w => ?_)
      · exact no (by rw [ep, w, Bool.false_and])
      · refine e_aload_n rfl rfl ?_
        refine e_getP rfl f10_99 hM.k rfl hM.p44 ?_
        refine e_iload_n rfl rfl ?_
        first | refine e_ialoadN rfl hM.a44 (by omega) (by omega) ?_ | (refine e_iaload rfl hM.a44 ?_ ?_; rotate_left)
        rw [(hR.z hi).2.2.1]
        refine e_iload_n rfl rfl ?_
        refine e_icmp_ne (tgt := 41) rfl rfl (fun v => ?_) (fun v => ?_)
        · have yes : isPut S n (nI i) x = true := by rw [ep, w, decide_eq_false v]; rfl
          rw [yes]
          obtain ⟨p, hp, hpB, -⟩ := hR.2.2.2.2
          refine e_aload_n rfl rfl ?_
          refine e_callV (kd := 10) (M2 := m10_keepNow) rfl v10_413 ok10_keepNow (c10_keepNow (d := d + 1) hM hR (by omega) hu hu20 hH) rfl hM.k rfl rfl rfl rfl (fun r1 h1 q1 => ?_)
          obtain ⟨rfl, I1, rfl, g1, e1, h1⟩ := q1
          have R1 : RM I1 0 n S (B + 1) := hR.frame (by omega) (fun c i o => g1 c i (fun f _ _ => by unfold onF at o ⊢; omega) (by unfold onF at o; omega))
          have ep1 : I1 129 0 = nI p := by rw [g1 129 0 (fun f _ _ => by unfold onF; omega) (by omega)]; exact hp
          refine e_aload_n rfl rfl ?_
          refine e_getP rfl f10_99 hM.k rfl hM.p44 ?_
          refine e_iload_n rfl rfl ?_
          refine e_iload_n rfl rfl ?_
          first | refine e_iastoreN rfl hM.a44 (by omega) (by omega) ?_ | (refine e_iastore rfl hM.a44 ?_ ?_; rotate_left)
          refine e_aload_n rfl rfl ?_
          refine e_getP rfl f10_96 hM.k rfl hM.p43 ?_
          refine e_iload_n rfl rfl ?_
          refine e_aload_n rfl rfl ?_
          refine e_getP rfl f10_93 hM.k rfl hM.p42 ?_
          refine e_iconst (v := nI 0) rfl ic_0N ?_
          first | refine e_ialoadN rfl hM.a42 (by omega) (by omega) ?_ | (refine e_iaload rfl hM.a42 ?_ ?_; rotate_left)
          rw [u2_ne _ _ (by omega), ep1]
          first | refine e_iastoreN rfl hM.a43 (by omega) (by omega) ?_ | (refine e_iastore rfl hM.a43 ?_ ?_; rotate_left)
          refine e_aload_n rfl rfl ?_
          refine e_getP rfl f10_93 hM.k rfl hM.p42 ?_
          refine e_iconst (v := nI 0) rfl ic_0N ?_
          refine e_dup2 rfl rfl rfl ?_
          first | refine e_ialoadN rfl hM.a42 (by omega) (by omega) ?_ | (refine e_iaload rfl hM.a42 ?_ ?_; rotate_left)
          rw [u2_ne _ _ (by omega), u2_ne _ _ (by omega), ep1]
          refine e_iconst (v := nI 1) rfl ic_1N ?_
          first | refine e_iaddN rfl ?_ | refine e_iadd rfl ?_
          first | refine e_iastoreN rfl hM.a42 (by omega) (by omega) ?_ | (refine e_iastore rfl hM.a42 ?_ ?_; rotate_left)
          refine e_iconst (v := nI 1) rfl ic_1N ?_
          refine e_zreturn rfl rfl ?_ ?_
          · exact Or.inr rfl
          · have R2 := R1.put (by omega) hi x ep1 (by omega)
            have f1 : FM 0 I1 J (u2 I1 131 i x) J := by
              have := FM.w (f := 0) (I := I1) (J := J) (v := x) (on8 (c := 131) (t := i) (by omega) (by omega) (by omega))
              rw [show 8 * 0 + i = i by omega] at this
              exact this
            have f2 : FM 0 (u2 I1 131 i x) J (u2 (u2 I1 131 i x) 130 i (nI p)) J := by
              have := FM.w (f := 0) (I := u2 I1 131 i x) (J := J) (v := nI p) (on8 (c := 130) (t := i) (by omega) (by omega) (by omega))
              rw [show 8 * 0 + i = i by omega] at this
              exact this
            have f3 : FM 0 (u2 (u2 I1 131 i x) 130 i (nI p)) J (u2 (u2 (u2 I1 131 i x) 130 i (nI p)) 129 0 (nI (p + 1))) J := FM.w (on1 (by omega) (by omega))
            exact ⟨rfl, hI1.step (J := J) hn g1 e1 h1 ((f1.tr f2).tr f3) R2⟩
        · exact no (by rw [ep, decide_eq_true v]; simp)
theorem c10_dent (hM : MK K) (hI : MI I P S im SI m T kn u Hs B) (hn : P.1 1 = n) (hW : W1 n S) (t : Int32) : Cw l G (d + 2) m10_dent [.ref 102, .int t] (I, J, K) (fun r h' => r = some (.int (a_dent S n t)) ∧ MPst I J K h' P (if isDent S n t = true then u2 S 1 t.toNatClampNeg (S 1 t.toNatClampNeg + nI 1) else S) im SI m T kn (if isDent S n t = true then u1 u else u) (if isDent S n t = true then H1 u Hs S else Hs) (B + 2)) := by
  have g0 : FQm I J (u2 I 102 0 (nI 0)) J := FQm.w0
  have hI1 := hI.t0 J
  have hP := hI1.1
  have hR := hI1.2.2.1
  obtain ⟨hu, hu20, hH⟩ := hI1.2.2.2.2.2.2.1
  rw [hn] at hR hH
  have h8 := hI.2.1.1.1.2.1
  have hn1 : (u2 I 102 0 (nI 0)) 104 1 = nI n := by rw [← hn]; exact hP.1.2.1
  unfold a_dent
  have no : isDent S n t = false → Gw l G (d + 2) m10_dent 33 [.ref 102, .int t] [] (u2 I 102 0 (nI 0), J, K) (fun r h' => r = some (.int (if isDent S n t = true then S 1 t.toNatClampNeg + nI 1 else -1)) ∧ MPst I J K h' P (if isDent S n t = true then u2 S 1 t.toNatClampNeg (S 1 t.toNatClampNeg + nI 1) else S) im SI m T kn (if isDent S n t = true then u1 u else u) (if isDent S n t = true then H1 u Hs S else Hs) (B + 2)) := by
    intro hno
    rw [hno]
    refine e_iconst rfl ic_m1 ?_
    refine e_ireturn rfl rfl ?_
    exact ⟨rfl, hI.fin g0⟩
  refine Cw.of ok10_dent rfl (rfl : argL _ _ = [.ref 102, .int t]) ?_
  refine e_aload_n rfl rfl ?_
  refine e_iconst (v := nI 0) rfl ic_0N ?_
  refine e_putI rfl f10_151 hM.k rfl rfl ?_
  refine e_aload_n rfl rfl ?_
  refine e_iload_n rfl rfl ?_
  refine e_callVp (kd := 10) (M2 := m10_isTin) rfl v10_397 ok10_isTin (c10_isTin (d := d + 1) hM hn1 t) rfl hM.k rfl rfl rfl rfl ?_
  refine e_if_eqB (tgt := 33) rfl rfl (fun z => ?_) (fun z => ?_)
  · exact no (by unfold isDent; rw [z, Bool.false_and])
  · obtain ⟨i, hi, rfl⟩ := inN_of (by omega) z
    have ep : isDent S n (nI i) = (decide (S 0 i = 0) && decide (S 1 i < nI 10)) := by unfold isDent; rw [z, nI_clamp (by omega), Bool.true_and]
    rw [nI_clamp (by omega)] at no ⊢
    obtain ⟨st, de, fr, -, b, -, -, w1, -⟩ := hW.1 i hi
    refine e_aload_n rfl rfl ?_
    refine e_iconst (v := nI 0) rfl ic_0N ?_
    refine e_iload_n rfl rfl ?_
    refine e_callVp (kd := 10) (M2 := m10_isClosed) rfl v10_333 ok10_isClosed (c10_isClosed (d := d + 1) (f := 0) hM (by omega) (by omega)) rfl hM.k rfl rfl rfl rfl ?_
    rw [(hR.1 i hi).1]
    refine e_if_eqB (tgt := 33) rfl rfl (fun y => ?_) (fun y => ?_)
    · exact no (by rw [ep, y, Bool.false_and])
    · refine e_aload_n rfl rfl ?_
      refine e_getP rfl f10_102 hM.k rfl hM.p45 ?_
      refine e_iload_n rfl rfl ?_
      first | refine e_ialoadN rfl hM.a45 (by omega) (by omega) ?_ | (refine e_iaload rfl hM.a45 ?_ ?_; rotate_left)
      rw [((hR.z hi).2.1).trans w1]
      refine e_bipush (v := nI 10) rfl bp_10N ?_
      refine e_icmp_neN (tgt := 35) rfl rfl (by omega) (by omega) (fun v => ?_) (fun v => ?_)
      · have yes : isDent S n (nI i) = true := by rw [ep, y, w1, decide_eq_true ((nI_ltI (by omega) (by omega)).mpr (by omega))]; rfl
        rw [yes]
        refine e_aload_n rfl rfl ?_
        refine e_callV (kd := 10) (M2 := m10_keepNow) rfl v10_413 ok10_keepNow (c10_keepNow (d := d) hM hR (by omega) hu hu20 hH) rfl hM.k rfl rfl rfl rfl (fun r1 h1 q1 => ?_)
        obtain ⟨rfl, I1, rfl, g1, e1, h1⟩ := q1
        have R1 : RM I1 0 n S (B + 1) := hR.frame (by omega) (fun c i o => g1 c i (fun f _ _ => by unfold onF at o ⊢; omega) (by unfold onF at o; omega))
        refine e_aload_n rfl rfl ?_
        refine e_getP rfl f10_102 hM.k rfl hM.p45 ?_
        refine e_iload_n rfl rfl ?_
        refine e_dup2 rfl rfl rfl ?_
        first | refine e_ialoadN rfl hM.a45 (by omega) (by omega) ?_ | (refine e_iaload rfl hM.a45 ?_ ?_; rotate_left)
        rw [(R1.z hi).2.1]
        refine e_iconst (v := nI 1) rfl ic_1N ?_
        refine e_iadd rfl ?_
        first | refine e_iastoreN rfl hM.a45 (by omega) (by omega) ?_ | (refine e_iastore rfl hM.a45 ?_ ?_; rotate_left)
        refine e_aload_n rfl rfl ?_
        refine e_getP rfl f10_102 hM.k rfl hM.p45 ?_
        refine e_iload_n rfl rfl ?_
        first | refine e_ialoadN rfl hM.a45 (by omega) (by omega) ?_ | (refine e_iaload rfl hM.a45 ?_ ?_; rotate_left)
        rw [u2_at]
        refine e_ireturn rfl rfl ?_
        have f1 : FM 0 I1 J (u2 I1 132 i (S 1 i + nI 1)) J := by
          have := FM.w (f := 0) (I := I1) (J := J) (v := S 1 i + nI 1) (on8 (c := 132) (t := i) (by omega) (by omega) (by omega))
          rw [show 8 * 0 + i = i by omega] at this
          exact this
        exact ⟨rfl, hI1.step (J := J) hn g1 e1 h1 f1 ((R1.w1z (by omega) _).mono (by omega))⟩
      · exact no (by rw [ep, w1, v]; simp [nI, Int32.lt_irrefl])
theorem c10_find (hM : MK K) (hI : MI I P S im SI m T kn u Hs B) (hn : P.1 1 = n) (k : Int32) : Cw l G (d + 2) m10_find [.ref 102, .int k] (I, J, K) (fun r h' => r = some (.int (a_find S k)) ∧ MPst I J K h' P (if isFind S k = true then u2 S 9 0 (S 9 0 + k) else S) im SI m T kn (if isFind S k = true then u1 u else u) (if isFind S k = true then H1 u Hs S else Hs) (B + 2)) := by
  have g0 : FQm I J (u2 I 102 0 (nI 0)) J := FQm.w0
  have hI1 := hI.t0 J
  have hR := hI1.2.2.1
  obtain ⟨hu, hu20, hH⟩ := hI1.2.2.2.2.2.2.1
  rw [hn] at hR hH
  have h8 := hI.2.1.1.1.2.1
  have e9 := hR.2.2.1.2.1
  unfold a_find
  have no : isFind S k = false → Gw l G (d + 2) m10_find 29 [.ref 102, .int k] [] (u2 I 102 0 (nI 0), J, K) (fun r h' => r = some (.int (if isFind S k = true then S 9 0 + k else -1)) ∧ MPst I J K h' P (if isFind S k = true then u2 S 9 0 (S 9 0 + k) else S) im SI m T kn (if isFind S k = true then u1 u else u) (if isFind S k = true then H1 u Hs S else Hs) (B + 2)) := by
    intro hno
    rw [hno]
    refine e_iconst rfl ic_m1 ?_
    refine e_ireturn rfl rfl ?_
    exact ⟨rfl, hI.fin g0⟩
  refine Cw.of ok10_find rfl (rfl : argL _ _ = [.ref 102, .int k]) ?_
  refine e_aload_n rfl rfl ?_
  refine e_iconst (v := nI 0) rfl ic_0N ?_
  refine e_putI rfl f10_151 hM.k rfl rfl ?_
  refine e_iload_n rfl rfl ?_
  refine e_iconst (v := nI 1) rfl ic_1N ?_
  refine e_icmp_lt (tgt := 29) rfl rfl (fun z => ?_) (fun z => ?_)
  · exact no (decide_eq_false (fun q => absurd z (Int32.not_lt.mpr q.1)))
  · refine e_iload_n rfl rfl ?_
    refine e_bipush (v := nI 9) rfl bp_9N ?_
    refine e_icmp_gt (tgt := 29) rfl rfl (fun y => ?_) (fun y => ?_)
    · exact no (decide_eq_false (fun q => absurd y (Int32.not_lt.mpr q.2.1)))
    · refine e_aload_n rfl rfl ?_
      refine e_getP rfl f10_84 hM.k rfl hM.p39 ?_
      refine e_iconst (v := nI 0) rfl ic_0N ?_
      first | refine e_ialoadN rfl hM.a39 (by omega) (by omega) ?_ | (refine e_iaload rfl hM.a39 ?_ ?_; rotate_left)
      rw [e9]
      refine e_iload_n rfl rfl ?_
      refine e_iadd rfl ?_
      refine e_bipush (v := nI 99) rfl bp_99N ?_
      refine e_icmp_le (tgt := 31) rfl rfl (fun x => ?_) (fun x => ?_)
      · have yes : isFind S k = true := decide_eq_true ⟨Int32.not_lt.mp z, Int32.not_lt.mp y, x⟩
        rw [yes]
        refine e_aload_n rfl rfl ?_
        refine e_callV (kd := 10) (M2 := m10_keepNow) rfl v10_413 ok10_keepNow (c10_keepNow (d := d) hM hR (by omega) hu hu20 hH) rfl hM.k rfl rfl rfl rfl (fun r1 h1 q1 => ?_)
        obtain ⟨rfl, I1, rfl, g1, e1, h1⟩ := q1
        have R1 : RM I1 0 n S (B + 1) := hR.frame (by omega) (fun c i o => g1 c i (fun f _ _ => by unfold onF at o ⊢; omega) (by unfold onF at o; omega))
        refine e_aload_n rfl rfl ?_
        refine e_getP rfl f10_84 hM.k rfl hM.p39 ?_
        refine e_iconst (v := nI 0) rfl ic_0N ?_
        refine e_dup2 rfl rfl rfl ?_
        first | refine e_ialoadN rfl hM.a39 (by omega) (by omega) ?_ | (refine e_iaload rfl hM.a39 ?_ ?_; rotate_left)
        rw [R1.2.2.1.2.1]
        refine e_iload_n rfl rfl ?_
        refine e_iadd rfl ?_
        first | refine e_iastoreN rfl hM.a39 (by omega) (by omega) ?_ | (refine e_iastore rfl hM.a39 ?_ ?_; rotate_left)
        refine e_aload_n rfl rfl ?_
        refine e_getP rfl f10_84 hM.k rfl hM.p39 ?_
        refine e_iconst (v := nI 0) rfl ic_0N ?_
        first | refine e_ialoadN rfl hM.a39 (by omega) (by omega) ?_ | (refine e_iaload rfl hM.a39 ?_ ?_; rotate_left)
        rw [u2_at]
        refine e_ireturn rfl rfl ?_
        exact ⟨rfl, hI1.step (J := J) hn g1 e1 h1 (FM.w (on1 (by omega) (by omega))) ((R1.w9 _).mono (by omega))⟩
      · exact no (decide_eq_false (fun q => absurd q.2.2 x))
theorem c10_undo (hM : MK K) (hI : MI I P S im SI m T kn u Hs B) (hn : P.1 1 = n) : Cw l G (d + 1) m10_undo [.ref 102] (I, J, K) (fun r h' => r = some (.int (if u = 0 then -1 else nI (u - 1))) ∧ MPst I J K h' P (if u = 0 then S else Hs (u - 1)) im SI m T kn (u - 1) Hs (B + 2)) := by
  have g0 : FQm I J (u2 I 102 0 (nI 0)) J := FQm.w0
  have hI1 := hI.t0 J
  obtain ⟨p1, p2, p3, p4, p5, ⟨t1, t2, t3, t4⟩, ⟨hu, hu20, hH⟩, p8, p9⟩ := hI1
  have h8 := p2.1.1.2.1
  refine Cw.of ok10_undo rfl (rfl : argL _ _ = [.ref 102]) ?_
  refine e_aload_n rfl rfl ?_
  refine e_iconst (v := nI 0) rfl ic_0N ?_
  refine e_putI rfl f10_151 hM.k rfl rfl ?_
  refine e_aload_n rfl rfl ?_
  refine e_getI rfl f10_307 hM.k rfl ?_
  rw [hu]
  first | refine e_if_neB (tgt := 14) rfl rfl (fun z => ?_) (fun z => ?_) | refine e_if_neN (tgt := 14) rfl rfl (by omega) (fun z => ?_) (fun z => ?_) | refine e_if_ne (tgt := 14) rfl rfl (fun z => ?_) (fun z => ?_)
  · have y : u ≠ 0 := by assumption
    rw [if_neg y, if_neg y]
    refine e_aload_n rfl rfl ?_
    refine e_dup rfl rfl ?_
    refine e_getI rfl f10_307 hM.k rfl ?_
    rw [hu]
    refine e_iconst (v := nI 1) rfl ic_1N ?_
    first | refine e_isubN rfl (by omega) ?_ | refine e_isub rfl ?_
    refine e_putI rfl f10_307 hM.k rfl rfl ?_
    refine e_aload_n rfl rfl ?_
    refine e_iconst (v := nI 0) rfl ic_0N ?_
    refine e_iconst (v := nI 3) rfl ic_3N ?_
    refine e_aload_n rfl rfl ?_
    refine e_getI rfl f10_307 hM.k rfl ?_
    rw [u2_at]
    first | refine e_iaddN rfl ?_ | refine e_iadd rfl ?_
    refine e_callV (kd := 10) (M2 := m10_copies) rfl v10_391 ok10_copies (c10_copies (d := d) (to := 0) (as := 3 + (u - 1)) hM (by omega) (by omega) (by omega)) rfl hM.k rfl rfl rfl rfl (fun r1 h1 q1 => ?_)
    obtain ⟨rfl, I1, rfl, C1⟩ := q1
    have e1 : I1 102 51 = nI (u - 1) := by rw [C1.1 _ _ (by unfold onF; omega), u2_at]
    refine e_aload_n rfl rfl ?_
    refine e_getI rfl f10_307 hM.k rfl ?_
    rw [e1]
    refine e_ireturn rfl rfl ?_
    have fr : ∀ f c i, onF f c i → u2 (u2 I 102 0 (nI 0)) 102 51 (nI (u - 1)) c i = (u2 I 102 0 (nI 0)) c i := fun f c i o => u2_ne _ _ (by unfold onF at o; omega)
    have fc : ∀ c, (c < 124 ∨ 136 < c) → c ≠ 102 → I1 c = I c := fun c a b => funext fun i => by rw [C1.1 c i (by unfold onF; omega), u2_ne _ _ b, u2_ne _ _ b]
    have fo : ∀ k, k ≠ 51 → k ≠ 0 → I1 102 k = I 102 k := fun k a b => by rw [C1.1 102 k (by unfold onF; omega), u2_nk _ _ a, u2_nk _ _ b]
    have fo1 : ∀ k, k ≠ 51 → I1 102 k = (u2 I 102 0 (nI 0)) 102 k := fun k a => by rw [C1.1 102 k (by unfold onF; omega), u2_nk _ _ a]
    have fc1 : ∀ c, (c < 124 ∨ 136 < c) → c ≠ 102 → I1 c = (u2 I 102 0 (nI 0)) c := fun c a b => (fc c a b).trans (u2_row _ _ b).symm
    refine ⟨rfl, I1, J, rfl, ⟨fun c a => fc c (by omega) (by omega), fun _ _ => rfl, fun k a => fo k (by omega) (by omega)⟩, p1.frame (fun c a b => fc1 c (by omega) (by omega)), p2, ?_, by rw [fo1 50 (by omega)]; exact p4, fun q => ?_, ⟨by rw [fo1 59 (by omega)]; exact t1, t2, by rw [fo1 60 (by omega)]; exact t3, fun i hi => ?_⟩, ⟨e1, by omega, fun i hi => ?_⟩, by rw [fo1 52 (by omega)]; exact p8, by rw [fo1 53 (by omega)]; exact p9⟩
    · exact (((hH (u - 1) (by omega)).frame h8 (fr _)).cp h8 C1).mono (by omega)
    · exact (((p5 q).frame h8 (fr _)).frame h8 (fun c i o => C1.1 c i (by unfold onF at o ⊢; omega))).mono (by omega)
    · rw [fc1 140 (by omega) (by omega), fc1 141 (by omega) (by omega), fc1 142 (by omega) (by omega), fc1 143 (by omega) (by omega)]
      exact t4 i hi
    · exact (((hH i (by omega)).frame h8 (fr _)).frame h8 (fun c i o => C1.1 c i (by unfold onF at o ⊢; omega))).mono (by omega)
  · have y : u = 0 := by assumption
    rw [if_pos y, if_pos y]
    refine e_iconst rfl ic_m1 ?_
    refine e_ireturn rfl rfl ?_
    refine ⟨rfl, ?_⟩
    have := hI.fin (K := K) g0
    subst y
    exact this
theorem c10_keep (hM : MK K) (hI : MI I P S im SI m T kn u Hs B) (hn : P.1 1 = n) : Cw l G (d + 1) m10_keep [.ref 102] (I, J, K) (fun r h' => r = some (.int (S 8 0)) ∧ MPst I J K h' P S true S m T kn u Hs (B + 2)) := by
  have hI1 := hI.t0 J
  obtain ⟨p1, p2, p3, p4, p5, ⟨t1, t2, t3, t4⟩, ⟨hu, hu20, hH⟩, p8, p9⟩ := hI1
  have h8 := p2.1.1.2.1
  refine Cw.of ok10_keep rfl (rfl : argL _ _ = [.ref 102]) ?_
  refine e_aload_n rfl rfl ?_
  refine e_iconst (v := nI 0) rfl ic_0N ?_
  refine e_putI rfl f10_151 hM.k rfl rfl ?_
  refine e_aload_n rfl rfl ?_
  refine e_iconst (v := nI 2) rfl ic_2N ?_
  refine e_iconst (v := nI 0) rfl ic_0N ?_
  refine e_callV (kd := 10) (M2 := m10_copies) rfl v10_391 ok10_copies (c10_copies (d := d) (to := 2) (as := 0) hM (by omega) (by omega) (by omega)) rfl hM.k rfl rfl rfl rfl (fun r1 h1 q1 => ?_)
  obtain ⟨rfl, I1, rfl, C1⟩ := q1
  have R0 : RM I1 0 (P.1 1) S (B + 1) := p3.frame h8 (fun c i o => C1.1 c i (by unfold onF at o ⊢; omega))
  refine e_aload_n rfl rfl ?_
  refine e_iconst (v := nI 1) rfl ic_1N ?_
  refine e_putZ rfl f10_303 hM.k rfl rfl (by first | decide | assumption) ?_
  refine e_aload_n rfl rfl ?_
  refine e_getP rfl f10_78 hM.k rfl hM.p37 ?_
  refine e_iconst (v := nI 0) rfl ic_0N ?_
  first | refine e_ialoadN rfl hM.a37 (by omega) (by omega) ?_ | (refine e_iaload rfl hM.a37 ?_ ?_; rotate_left)
  rw [u2_ne _ _ (by omega), R0.2.2.1.1]
  refine e_ireturn rfl rfl ?_
  have fr : ∀ f c i, onF f c i → u2 I1 102 50 (nI 1) c i = I1 c i := fun f c i o => u2_ne _ _ (by unfold onF at o; omega)
  have fc1 : ∀ c, (c < 124 ∨ 136 < c) → c ≠ 102 → u2 I1 102 50 (nI 1) c = (u2 I 102 0 (nI 0)) c := fun c a b => funext fun i => by rw [u2_ne _ _ b, C1.1 c i (by unfold onF; omega)]
  have fo1 : ∀ k, k ≠ 50 → u2 I1 102 50 (nI 1) 102 k = (u2 I 102 0 (nI 0)) 102 k := fun k a => by rw [u2_nk _ _ a, C1.1 102 k (by unfold onF; omega)]
  refine ⟨rfl, _, J, rfl, ⟨fun c a => by rw [fc1 c (by omega) (by omega), u2_row _ _ (by omega)], fun _ _ => rfl, fun k a => by rw [fo1 k (by omega), u2_nk _ _ (by omega)]⟩, p1.frame (fun c a b => fc1 c (by omega) (by omega)), p2, (R0.frame h8 (fr _)).mono (by omega), u2_at _ _ _ _, fun _ => ((p3.cp h8 C1).frame h8 (fr _)).mono (by omega), ⟨by rw [fo1 59 (by omega)]; exact t1, t2, by rw [fo1 60 (by omega)]; exact t3, fun i hi => ?_⟩, ⟨by rw [fo1 51 (by omega)]; exact hu, hu20, fun i hi => ?_⟩, by rw [fo1 52 (by omega)]; exact p8, by rw [fo1 53 (by omega)]; exact p9⟩
  · rw [fc1 140 (by omega) (by omega), fc1 141 (by omega) (by omega), fc1 142 (by omega) (by omega), fc1 143 (by omega) (by omega)]
    exact t4 i hi
  · exact (((hH i hi).frame h8 (fun c i o => C1.1 c i (by unfold onF at o ⊢; omega))).frame h8 (fr _)).mono (by omega)
theorem c10_back (hM : MK K) (hI : MI I P S im SI m T kn u Hs B) (hn : P.1 1 = n) : Cw l G (d + 1) m10_back [.ref 102] (I, J, K) (fun r h' => r = some (.int (if im = true then SI 8 0 else -1)) ∧ MPst I J K h' P (if im = true then SI else S) im SI m T kn (if im = true then 0 else u) Hs (B + 2)) := by
  have g0 : FQm I J (u2 I 102 0 (nI 0)) J := FQm.w0
  have hI1 := hI.t0 J
  obtain ⟨p1, p2, p3, p4, p5, ⟨t1, t2, t3, t4⟩, ⟨hu, hu20, hH⟩, p8, p9⟩ := hI1
  have h8 := p2.1.1.2.1
  refine Cw.of ok10_back rfl (rfl : argL _ _ = [.ref 102]) ?_
  refine e_aload_n rfl rfl ?_
  refine e_iconst (v := nI 0) rfl ic_0N ?_
  refine e_putI rfl f10_151 hM.k rfl rfl ?_
  refine e_aload_n rfl rfl ?_
  refine e_getI rfl f10_303 hM.k rfl ?_
  rw [p4]
  refine e_if_neB (tgt := 14) rfl rfl (fun z => ?_) (fun z => ?_)
  · subst z
    have R2 := p5 rfl
    refine e_aload_n rfl rfl ?_
    refine e_iconst (v := nI 0) rfl ic_0N ?_
    refine e_iconst (v := nI 2) rfl ic_2N ?_
    refine e_callV (kd := 10) (M2 := m10_copies) rfl v10_391 ok10_copies (c10_copies (d := d) (to := 0) (as := 2) hM (by omega) (by omega) (by omega)) rfl hM.k rfl rfl rfl rfl (fun r1 h1 q1 => ?_)
    obtain ⟨rfl, I1, rfl, C1⟩ := q1
    have R0 : RM I1 0 (P.1 1) SI (B + 1) := R2.cp h8 C1
    refine e_aload_n rfl rfl ?_
    refine e_iconst (v := nI 0) rfl ic_0N ?_
    refine e_putI rfl f10_307 hM.k rfl rfl ?_
    refine e_aload_n rfl rfl ?_
    refine e_getP rfl f10_78 hM.k rfl hM.p37 ?_
    refine e_iconst (v := nI 0) rfl ic_0N ?_
    first | refine e_ialoadN rfl hM.a37 (by omega) (by omega) ?_ | (refine e_iaload rfl hM.a37 ?_ ?_; rotate_left)
    rw [u2_ne _ _ (by omega), R0.2.2.1.1]
    refine e_ireturn rfl rfl ?_
    have fr : ∀ f c i, onF f c i → u2 I1 102 51 (nI 0) c i = I1 c i := fun f c i o => u2_ne _ _ (by unfold onF at o; omega)
    have fc1 : ∀ c, (c < 124 ∨ 136 < c) → c ≠ 102 → u2 I1 102 51 (nI 0) c = (u2 I 102 0 (nI 0)) c := fun c a b => funext fun i => by rw [u2_ne _ _ b, C1.1 c i (by unfold onF; omega)]
    have fo1 : ∀ k, k ≠ 51 → u2 I1 102 51 (nI 0) 102 k = (u2 I 102 0 (nI 0)) 102 k := fun k a => by rw [u2_nk _ _ a, C1.1 102 k (by unfold onF; omega)]
    refine ⟨rfl, _, J, rfl, ⟨fun c a => by rw [fc1 c (by omega) (by omega), u2_row _ _ (by omega)], fun _ _ => rfl, fun k a => by rw [fo1 k (by omega), u2_nk _ _ (by omega)]⟩, p1.frame (fun c a b => fc1 c (by omega) (by omega)), p2, (R0.frame h8 (fr _)).mono (by omega), by rw [fo1 50 (by omega)]; exact p4, fun _ => ((R2.frame h8 (fun c i o => C1.1 c i (by unfold onF at o ⊢; omega))).frame h8 (fr _)).mono (by omega), ⟨by rw [fo1 59 (by omega)]; exact t1, t2, by rw [fo1 60 (by omega)]; exact t3, fun i hi => ?_⟩, ⟨u2_at _ _ _ _, by rw [if_pos rfl]; omega, fun i hi => absurd hi (Nat.not_lt_zero i)⟩, by rw [fo1 52 (by omega)]; exact p8, by rw [fo1 53 (by omega)]; exact p9⟩
    rw [fc1 140 (by omega) (by omega), fc1 141 (by omega) (by omega), fc1 142 (by omega) (by omega), fc1 143 (by omega) (by omega)]
    exact t4 i hi
  · subst z
    refine e_iconst rfl ic_m1 ?_
    refine e_ireturn rfl rfl ?_
    exact ⟨rfl, hI.fin g0⟩
end MTn2
