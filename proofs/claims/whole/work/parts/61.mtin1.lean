/-! ===== the reference: calls that change, calls that ask ===== -/
theorem MI.mono {I : IM} {P : Pl} {S : SM} {im : Bool} {SI : SM} {m : Nat} {T : SM} {kn : Int32} {u : Nat} {Hs : Nat → SM} {B B' : Nat} (h : MI I P S im SI m T kn u Hs B) (hB : B ≤ B') : MI I P S im SI m T kn u Hs B' := h.mk' hB (fun _ _ _ => rfl) (h.2.2.1.mono hB) (fun _ _ _ _ _ _ => rfl) (fun _ _ _ => rfl) (fun _ _ _ _ _ => rfl)
def a_named (P : Pl) (w x : Int32) : Int32 := if w = nI 0 then fnd (P.2 0) x (P.1 0) 0 else if w = nI 1 then fnd (P.2 3) x (P.1 1) 0 else -1
def a_fault (fk : Nat) (fp : Int32) (w : Int32) : Int32 := if w = nI 0 then nI fk else if w = nI 1 then fp else -1
section MTn1
variable {l : Launch} {G : GG} {d : Nat} {I : IM} {J : JM} {K : Kt} {Q : Option Value → Hp → Prop} {P : Pl} {S : SM} {im : Bool} {SI : SM} {m : Nat} {T : SM} {kn : Int32} {u : Nat} {Hs : Nat → SM} {B n : Nat}
theorem MI.fin {I' : IM} {J' : JM} (hI : MI I P S im SI m T kn u Hs B) (g : FQm I J I' J') : MPst I J K (I', J', K) P S im SI m T kn u Hs (B + 2) := ⟨I', J', rfl, g.fz, (hI.fq g).mono (by omega)⟩
theorem MI.t0 (hI : MI I P S im SI m T kn u Hs B) (J : JM) : MI (u2 I 102 0 (nI 0)) P S im SI m T kn u Hs (B + 1) := hI.fq (J := J) (J' := J) FQm.w0
theorem c10_named (hM : MK K) (hI : MI I P S im SI m T kn u Hs B) (w x : Int32) : Cw l G (d + 1) m10_named [.ref 102, .int w, .int x] (I, J, K) (fun r h' => r = some (.int (a_named P w x)) ∧ MPst I J K h' P S im SI m T kn u Hs (B + 2)) := by
  have g0 : FQm I J (u2 I 102 0 (nI 0)) J := FQm.w0
  have hP := (hI.t0 J).1
  have h6 := hI.2.1.1.1.1
  have h8 := hI.2.1.1.1.2.1
  have e0 := hP.1.1
  have e1 := hP.1.2.1
  unfold a_named
  refine Cw.of ok10_named rfl (rfl : argL _ _ = [.ref 102, .int w, .int x]) ?_
  refine e_aload_n rfl rfl ?_
  refine e_iconst (v := nI 0) rfl ic_0N ?_
  refine e_putI rfl f10_151 hM.k rfl rfl ?_
  refine e_iload_n rfl rfl ?_
  refine sw10_named_6 (fun z => ?_) (fun z => ?_) (fun z0 z1 => ?_)
  · rw [if_pos z]
    refine e_aload_n rfl rfl ?_
    refine e_getP rfl f10_16 hM.k rfl hM.p4 ?_
    refine e_iconst (v := nI 0) rfl ic_0N ?_
    refine e_aload_n rfl rfl ?_
    refine e_getP rfl f10_13 hM.k rfl hM.p3 ?_
    refine e_iconst (v := nI 0) rfl ic_0N ?_
    first | refine e_ialoadN rfl hM.a3 (by omega) (by omega) ?_ | (refine e_iaload rfl hM.a3 ?_ ?_; rotate_left)
    rw [e0]
    refine e_iload_n rfl rfl ?_
    refine e_callSp (M2 := m10_found) rfl v10_217 ok10_found (c10_found (d := d) (o := 0) (c := P.1 0) x hM.a4 (by omega) (by omega)) rfl rfl rfl ?_
    refine e_ireturn rfl rfl ?_
    refine ⟨?_, hI.fin g0⟩
    rw [fnd_congr (f := fun j => (u2 I 102 0 (nI 0)) 105 (0 + j)) (g := P.2 0) _ _ (fun j _ hj => by show (u2 I 102 0 (nI 0)) 105 (0 + j) = _; rw [Nat.zero_add]; exact (hP.2.1 j (by omega)).1)]
  · rw [if_neg (by rw [z]; decide), if_pos z]
    refine e_aload_n rfl rfl ?_
    refine e_getP rfl f10_25 hM.k rfl hM.p7 ?_
    refine e_iconst (v := nI 0) rfl ic_0N ?_
    refine e_aload_n rfl rfl ?_
    refine e_getP rfl f10_13 hM.k rfl hM.p3 ?_
    refine e_iconst (v := nI 1) rfl ic_1N ?_
    first | refine e_ialoadN rfl hM.a3 (by omega) (by omega) ?_ | (refine e_iaload rfl hM.a3 ?_ ?_; rotate_left)
    rw [e1]
    refine e_iload_n rfl rfl ?_
    refine e_callSp (M2 := m10_found) rfl v10_217 ok10_found (c10_found (d := d) (o := 0) (c := P.1 1) x hM.a7 (by omega) (by omega)) rfl rfl rfl ?_
    refine e_ireturn rfl rfl ?_
    refine ⟨?_, hI.fin g0⟩
    rw [fnd_congr (f := fun j => (u2 I 102 0 (nI 0)) 108 (0 + j)) (g := P.2 3) _ _ (fun j _ hj => by show (u2 I 102 0 (nI 0)) 108 (0 + j) = _; rw [Nat.zero_add]; exact (hP.2.2.1 j (by omega)).1)]
  · rw [if_neg z0, if_neg z1]
    refine e_iconst rfl ic_m1 ?_
    refine e_ireturn rfl rfl ?_
    exact ⟨rfl, hI.fin g0⟩
theorem c10_fault (hM : MK K) (hI : MI I P S im SI m T kn u Hs B) {fk : Nat} {fp : Int32} (h30 : I 102 30 = nI fk) (h31 : I 102 31 = fp) (w : Int32) : Cw l G d m10_fault [.ref 102, .int w] (I, J, K) (fun r h' => r = some (.int (a_fault fk fp w)) ∧ MPst I J K h' P S im SI m T kn u Hs (B + 2)) := by
  have g0 : FQm I J (u2 I 102 0 (nI 0)) J := FQm.w0
  unfold a_fault
  refine Cw.of ok10_fault rfl (rfl : argL _ _ = [.ref 102, .int w]) ?_
  refine e_aload_n rfl rfl ?_
  refine e_iconst (v := nI 0) rfl ic_0N ?_
  refine e_putI rfl f10_151 hM.k rfl rfl ?_
  refine e_iload_n rfl rfl ?_
  refine e_if_ne (tgt := 16) rfl rfl (fun z => ?_) (fun z => ?_)
  · have z : ¬ w = nI 0 := z
    rw [if_neg z]
    refine e_iload_n rfl rfl ?_
    refine e_iconst (v := nI 1) rfl ic_1N ?_
    refine e_icmp_ne (tgt := 28) rfl rfl (fun y => ?_) (fun y => ?_)
    · rw [if_neg y]
      refine e_iconst rfl ic_m1 ?_
      refine e_ireturn rfl rfl ?_
      exact ⟨rfl, hI.fin g0⟩
    · rw [if_pos y]
      refine e_aload_n rfl rfl ?_
      refine e_getI rfl f10_67 hM.k rfl ?_
      rw [u2_nk _ _ (by omega), h31]
      refine e_goto (tgt := 29) rfl rfl ?_
      refine e_ireturn rfl rfl ?_
      exact ⟨rfl, hI.fin g0⟩
  · have z : w = nI 0 := z
    rw [if_pos z]
    refine e_aload_n rfl rfl ?_
    refine e_getI rfl f10_293 hM.k rfl ?_
    rw [u2_nk _ _ (by omega), h30]
    refine e_goto (tgt := 29) rfl rfl ?_
    refine e_ireturn rfl rfl ?_
    exact ⟨rfl, hI.fin g0⟩
theorem c10_kind (hM : MK K) (hI : MI I P S im SI m T kn u Hs B) (hn : P.1 1 = n) (k w : Int32) : Cw l G (d + 1) m10_kind [.ref 102, .int k, .int w] (I, J, K) (fun r h' => r = some (.int (a_kind P S n k w)) ∧ MPst I J K h' P S im SI m T kn u Hs (B + 2)) := by
  have g0 : FQm I J (u2 I 102 0 (nI 0)) J := FQm.w0
  have hI1 := hI.t0 J
  have hP := hI1.1
  have hR := hI1.2.2.1
  rw [hn] at hR
  have h6 := hI.2.1.1.1.1
  have h8 := hI.2.1.1.1.2.1
  unfold a_kind
  refine Cw.of ok10_kind rfl (rfl : argL _ _ = [.ref 102, .int k, .int w]) ?_
  refine e_aload_n rfl rfl ?_
  refine e_iconst (v := nI 0) rfl ic_0N ?_
  refine e_putI rfl f10_151 hM.k rfl rfl ?_
  refine e_aload_n rfl rfl ?_
  refine e_iload_n rfl rfl ?_
  refine e_callVp (kd := 10) (M2 := m10_isKind) rfl v10_400 ok10_isKind (c10_isKind (d := d) hM hP.1.1 k) rfl hM.k rfl rfl rfl rfl ?_
  refine e_if_neB (tgt := 15) rfl rfl (fun z => ?_) (fun z => ?_)
  · rw [if_pos z]
    obtain ⟨i, hi, rfl⟩ := inN_of (by omega) z
    obtain ⟨q0, q1, q2⟩ := hP.2.1 i hi
    rw [nI_clamp (by omega)]
    refine e_iload_n rfl rfl ?_
    refine sw10_kind_16 (fun y => ?_) (fun y => ?_) (fun y => ?_) (fun y => ?_) (fun y0 y1 y2 y3 => ?_)
    · rw [if_pos y]
      refine e_aload_n rfl rfl ?_
      refine e_getP rfl f10_19 hM.k rfl hM.p5 ?_
      refine e_iload_n rfl rfl ?_
      first | refine e_ialoadN rfl hM.a5 (by omega) (by omega) ?_ | (refine e_iaload rfl hM.a5 ?_ ?_; rotate_left)
      rw [q1]
      refine e_ireturn rfl rfl ?_
      exact ⟨rfl, hI.fin g0⟩
    · rw [if_neg (by rw [y]; decide), if_pos y]
      refine e_aload_n rfl rfl ?_
      refine e_getP rfl f10_22 hM.k rfl hM.p6 ?_
      refine e_iload_n rfl rfl ?_
      first | refine e_ialoadN rfl hM.a6 (by omega) (by omega) ?_ | (refine e_iaload rfl hM.a6 ?_ ?_; rotate_left)
      rw [q2]
      refine e_ireturn rfl rfl ?_
      exact ⟨rfl, hI.fin g0⟩
    · rw [if_neg (by rw [y]; decide), if_neg (by rw [y]; decide), if_pos y]
      refine e_aload_n rfl rfl ?_
      refine e_iload_n rfl rfl ?_
      refine e_iconst (v := nI 0) rfl ic_0N ?_
      refine e_callVp (kd := 10) (M2 := m10_setOf) rfl v10_403 ok10_setOf (c10_setOf (d := d) hM hP hn (by omega) hR (nI i) (nI 0)) rfl hM.k rfl rfl rfl rfl ?_
      refine e_ireturn rfl rfl ?_
      exact ⟨rfl, hI.fin g0⟩
    · rw [if_neg (by rw [y]; decide), if_neg (by rw [y]; decide), if_neg (by rw [y]; decide), if_pos y]
      refine e_aload_n rfl rfl ?_
      refine e_iload_n rfl rfl ?_
      refine e_iconst (v := nI 1) rfl ic_1N ?_
      refine e_callVp (kd := 10) (M2 := m10_setOf) rfl v10_403 ok10_setOf (c10_setOf (d := d) hM hP hn (by omega) hR (nI i) (nI 1)) rfl hM.k rfl rfl rfl rfl ?_
      refine e_ireturn rfl rfl ?_
      exact ⟨rfl, hI.fin g0⟩
    · rw [if_neg y0, if_neg y1, if_neg y2, if_neg y3]
      refine e_iconst rfl ic_m1 ?_
      refine e_ireturn rfl rfl ?_
      exact ⟨rfl, hI.fin g0⟩
  · rw [if_neg (by rw [z]; decide)]
    refine e_iconst rfl ic_m1 ?_
    refine e_ireturn rfl rfl ?_
    exact ⟨rfl, hI.fin g0⟩
theorem c10_above (hM : MK K) (hI : MI I P S im SI m T kn u Hs B) (hn : P.1 1 = n) (t : Int32) : Cw l G (d + 2) m10_above [.ref 102, .int t] (I, J, K) (fun r h' => r = some (.int (a_above S n t)) ∧ MPst I J K h' P S im SI m T kn u Hs (B + 2)) := by
  have g0 : FQm I J (u2 I 102 0 (nI 0)) J := FQm.w0
  have hI1 := hI.t0 J
  have hP := hI1.1
  have hR := hI1.2.2.1
  rw [hn] at hR
  have h8 := hI.2.1.1.1.2.1
  have hn1 : (u2 I 102 0 (nI 0)) 104 1 = nI n := by rw [← hn]; exact hP.1.2.1
  unfold a_above
  refine Cw.of ok10_above rfl (rfl : argL _ _ = [.ref 102, .int t]) ?_
  refine e_aload_n rfl rfl ?_
  refine e_iconst (v := nI 0) rfl ic_0N ?_
  refine e_putI rfl f10_151 hM.k rfl rfl ?_
  refine e_aload_n rfl rfl ?_
  refine e_iload_n rfl rfl ?_
  refine e_callVp (kd := 10) (M2 := m10_isTin) rfl v10_397 ok10_isTin (c10_isTin (d := d + 1) hM hn1 t) rfl hM.k rfl rfl rfl rfl ?_
  refine e_if_neB (tgt := 15) rfl rfl (fun z => ?_) (fun z => ?_)
  · rw [if_pos z]
    obtain ⟨i, hi, rfl⟩ := inN_of (by omega) z
    have e0 := (hR.1 i hi).1
    rw [nI_clamp (by omega)]
    refine e_aload_n rfl rfl ?_
    refine e_iconst (v := nI 0) rfl ic_0N ?_
    refine e_iload_n rfl rfl ?_
    refine e_callVp (kd := 10) (M2 := m10_isClosed) rfl v10_333 ok10_isClosed (c10_isClosed (d := d + 1) (f := 0) hM (by omega) (by omega)) rfl hM.k rfl rfl rfl rfl ?_
    rw [e0]
    refine e_if_eqB (tgt := 33) rfl rfl (fun y => ?_) (fun y => ?_)
    · rw [if_neg (of_decide_eq_false y)]
      refine e_bipush rfl bp_m2 ?_
      refine e_ireturn rfl rfl ?_
      exact ⟨rfl, hI.fin g0⟩
    · rw [if_pos (of_decide_eq_true y)]
      refine e_aload_n rfl rfl ?_
      refine e_iconst (v := nI 0) rfl ic_0N ?_
      refine e_iload_n rfl rfl ?_
      refine e_callVp (kd := 10) (M2 := m10_aboveOf) rfl v10_337 ok10_aboveOf (c10_aboveOf (d := d) (f := 0) hM hn1 (by omega) hR (by omega) hi) rfl hM.k rfl rfl rfl rfl ?_
      refine e_goto (tgt := 35) rfl rfl ?_
      refine e_ireturn rfl rfl ?_
      exact ⟨rfl, hI.fin g0⟩
  · rw [if_neg (by rw [z]; decide)]
    refine e_iconst rfl ic_m1 ?_
    refine e_ireturn rfl rfl ?_
    exact ⟨rfl, hI.fin g0⟩
theorem mtop_loop (hM : MK K) (hn : I 104 1 = nI n) (h8 : n ≤ 8) (hR : RM I 0 n S B) {x : Int32} : ∀ k i, i + k = n → Q (some (.int (topF S n x i k))) (I, J, K) → Gw l G (d + 3) m10_top 16 [.ref 102, .int x, .int (nI i)] [] (I, J, K) Q := by
  intro k
  induction k with
  | zero =>
    intro i hi hq
    refine e_iload_n rfl rfl ?_
    refine e_aload_n rfl rfl ?_
    refine e_getP rfl f10_13 hM.k rfl hM.p3 ?_
    refine e_iconst (v := nI 1) rfl ic_1N ?_
    first | refine e_ialoadN rfl hM.a3 (by omega) (by omega) ?_ | (refine e_iaload rfl hM.a3 ?_ ?_; rotate_left)
    rw [hn]
    first | refine e_icmp_geN (tgt := 53) rfl rfl (by omega) (by omega) (fun z => ?_) (fun z => ?_) | refine e_icmp_ge (tgt := 53) rfl rfl (fun z => ?_) (fun z => ?_)
    · refine e_bipush rfl bp_m2 ?_
      refine e_ireturn rfl rfl ?_
      exact hq
    · omega
  | succ k ih =>
    intro i hi hq
    have e2 := (hR.z (by omega : i < n)).2.2.1
    rw [topF] at hq
    refine e_iload_n rfl rfl ?_
    refine e_aload_n rfl rfl ?_
    refine e_getP rfl f10_13 hM.k rfl hM.p3 ?_
    refine e_iconst (v := nI 1) rfl ic_1N ?_
    first | refine e_ialoadN rfl hM.a3 (by omega) (by omega) ?_ | (refine e_iaload rfl hM.a3 ?_ ?_; rotate_left)
    rw [hn]
    first | refine e_icmp_geN (tgt := 53) rfl rfl (by omega) (by omega) (fun z => ?_) (fun z => ?_) | refine e_icmp_ge (tgt := 53) rfl rfl (fun z => ?_) (fun z => ?_)
    · omega
    · refine e_aload_n rfl rfl ?_
      refine e_getP rfl f10_99 hM.k rfl hM.p44 ?_
      refine e_iload_n rfl rfl ?_
      first | refine e_ialoadN rfl hM.a44 (by omega) (by omega) ?_ | (refine e_iaload rfl hM.a44 ?_ ?_; rotate_left)
      rw [e2]
      refine e_iload_n rfl rfl ?_
      refine e_icmp_ne (tgt := 47) rfl rfl (fun z => ?_) (fun z => ?_)
      · rw [if_neg (fun q => z q.1)] at hq
        first | refine e_inc2 rfl rfl rfl (incN1 _) ?_ | refine e_inc2 rfl rfl rfl rfl ?_
        refine e_goto (tgt := 16) rfl rfl ?_
        exact ih (i + 1) (by omega) hq
      · refine e_aload_n rfl rfl ?_
        refine e_iconst (v := nI 0) rfl ic_0N ?_
        refine e_iload_n rfl rfl ?_
        refine e_callVp (kd := 10) (M2 := m10_isOnTop) rfl v10_364 ok10_isOnTop (c10_isOnTop (d := d) (f := 0) hM hn h8 hR (by omega) (by omega)) rfl hM.k rfl rfl rfl rfl ?_
        refine e_if_eqB (tgt := 47) rfl rfl (fun y => ?_) (fun y => ?_)
        · rw [if_neg (fun q => absurd q.2 (by rw [y]; decide))] at hq
          first | refine e_inc2 rfl rfl rfl (incN1 _) ?_ | refine e_inc2 rfl rfl rfl rfl ?_
          refine e_goto (tgt := 16) rfl rfl ?_
          exact ih (i + 1) (by omega) hq
        · rw [if_pos ⟨z, y⟩] at hq
          refine e_iload_n rfl rfl ?_
          refine e_ireturn rfl rfl ?_
          exact hq
theorem c10_top (hM : MK K) (hI : MI I P S im SI m T kn u Hs B) (hn : P.1 1 = n) (x : Int32) : Cw l G (d + 3) m10_top [.ref 102, .int x] (I, J, K) (fun r h' => r = some (.int (a_top S n x)) ∧ MPst I J K h' P S im SI m T kn u Hs (B + 2)) := by
  have g0 : FQm I J (u2 I 102 0 (nI 0)) J := FQm.w0
  have hI1 := hI.t0 J
  have hP := hI1.1
  have hR := hI1.2.2.1
  rw [hn] at hR
  have h8 := hI.2.1.1.1.2.1
  have hn1 : (u2 I 102 0 (nI 0)) 104 1 = nI n := by rw [← hn]; exact hP.1.2.1
  unfold a_top
  refine Cw.of ok10_top rfl (rfl : argL _ _ = [.ref 102, .int x, .null]) ?_
  refine e_aload_n rfl rfl ?_
  refine e_iconst (v := nI 0) rfl ic_0N ?_
  refine e_putI rfl f10_151 hM.k rfl rfl ?_
  refine e_iload_n rfl rfl ?_
  refine e_callSp (M2 := m10_isStack) rfl v10_406 ok10_isStack (c10_isStack (d := d + 2) x) rfl rfl rfl ?_
  refine e_if_neB (tgt := 14) rfl rfl (fun z => ?_) (fun z => ?_)
  · rw [if_pos z]
    refine e_iconst (v := nI 0) rfl ic_0N ?_
    refine e_ist2 rfl rfl rfl ?_
    exact mtop_loop hM hn1 (by omega) hR n 0 (by omega) ⟨rfl, hI.fin g0⟩
  · rw [if_neg (by rw [z]; decide)]
    refine e_iconst rfl ic_m1 ?_
    refine e_ireturn rfl rfl ?_
    exact ⟨rfl, hI.fin g0⟩
/-- store 0 changed, one more to go back to -/
theorem MI.step {I1 I2 : IM} {J2 : JM} {S' : SM} (hI : MI (u2 I 102 0 (nI 0)) P S im SI m T kn u Hs B) (hn : P.1 1 = n) (g1 : FB (u2 I 102 0 (nI 0)) I1) (e1 : I1 102 51 = nI (u1 u)) (h1 : ∀ i, i < u1 u → RM I1 (3 + i) n (H1 u Hs S i) B) (g2 : FM 0 I1 J I2 J2) (R2 : RM I2 0 n S' (B + 1)) : MPst I J K (I2, J2, K) P S' im SI m T kn (u1 u) (H1 u Hs S) (B + 1) := by
  subst hn
  obtain ⟨p1, p2, p3, p4, p5, ⟨t1, t2, t3, t4⟩, ⟨u1', u2', u3'⟩, p8, p9⟩ := hI
  have h8 := p2.1.1.2.1
  have fb : ∀ c, (c < 124 ∨ 136 < c) → c ≠ 102 → I1 c = (u2 I 102 0 (nI 0)) c := fun c a b => funext fun i => g1 c i (fun f _ _ => by unfold onF; omega) (by omega)
  have fo : ∀ k, k ≠ 51 → I1 102 k = (u2 I 102 0 (nI 0)) 102 k := fun k hk => g1 102 k (fun f _ _ => by unfold onF; omega) (by omega)
  have c2 : ∀ c, (c < 124 ∨ 136 < c) → c ≠ 102 → I2 c = (u2 I 102 0 (nI 0)) c := fun c a b => (g2.row b a).trans (fb c a b)
  have o2 : ∀ k, k ≠ 51 → k ≠ 36 → I2 102 k = (u2 I 102 0 (nI 0)) 102 k := fun k a b => (g2.obj b).trans (fo k a)
  have lu : u1 u ≤ 20 := by unfold u1; split <;> omega
  refine ⟨I2, J2, rfl, ⟨fun c a => ?_, fun c a => g2.2 c (by omega) (by omega), fun k a => ?_⟩, p1.frame (fun c a b => c2 c (by omega) (by omega)), p2, R2, by rw [o2 50 (by omega) (by omega)]; exact p4, fun q => ?_, ⟨by rw [o2 59 (by omega) (by omega)]; exact t1, t2, by rw [o2 60 (by omega) (by omega)]; exact t3, fun i hi => ?_⟩, ⟨by rw [g2.obj (by omega)]; exact e1, lu, fun i hi => ?_⟩, by rw [o2 52 (by omega) (by omega)]; exact p8, by rw [o2 53 (by omega) (by omega)]; exact p9⟩
  · rw [c2 c (by omega) (by omega), u2_row _ _ (by omega)]
  · rw [o2 k (by omega) (by omega), u2_nk _ _ (by omega)]
  · have r2 := (p5 q).frame h8 (I' := I1) (fun c i o => g1 c i (fun f a b => by unfold onF at o ⊢; omega) (by unfold onF at o; omega))
    exact (r2.fm h8 g2 (by omega)).mono (by omega)
  · rw [c2 140 (by omega) (by omega), c2 141 (by omega) (by omega), c2 142 (by omega) (by omega), c2 143 (by omega) (by omega)]
    exact t4 i hi
  · exact ((h1 i hi).fm h8 g2 (by omega)).mono (by omega)
theorem c10_open (hM : MK K) (hI : MI I P S im SI m T kn u Hs B) (hn : P.1 1 = n) (hW : W1 n S) (t : Int32) : Cw l G (d + 5) m10_open [.ref 102, .int t] (I, J, K) (fun r h' => r = some (.int (a_open P S n t)) ∧ MPst I J K h' P (if isOp S n t = true then unsS P S t.toNatClampNeg else S) im SI m T kn (if isOp S n t = true then u1 u else u) (if isOp S n t = true then H1 u Hs S else Hs) (B + 2)) := by
  have g0 : FQm I J (u2 I 102 0 (nI 0)) J := FQm.w0
  have hI1 := hI.t0 J
  have hP := hI1.1
  have hX := hI1.2.1
  have hR := hI1.2.2.1
  obtain ⟨hu, hu20, hH⟩ := hI1.2.2.2.2.2.2.1
  rw [hn] at hR hH
  have h8 := hI.2.1.1.1.2.1
  have hn1 : (u2 I 102 0 (nI 0)) 104 1 = nI n := by rw [← hn]; exact hP.1.2.1
  obtain ⟨ky, k1, k2⟩ := hW.2
  unfold a_open
  refine Cw.of ok10_open rfl (rfl : argL _ _ = [.ref 102, .int t]) ?_
  refine e_aload_n rfl rfl ?_
  refine e_iconst (v := nI 0) rfl ic_0N ?_
  refine e_putI rfl f10_151 hM.k rfl rfl ?_
  refine e_aload_n rfl rfl ?_
  refine e_iload_n rfl rfl ?_
  refine e_callVp (kd := 10) (M2 := m10_isTin) rfl v10_397 ok10_isTin (c10_isTin (d := d + 4) hM hn1 t) rfl hM.k rfl rfl rfl rfl ?_
  refine e_if_neB (tgt := 15) rfl rfl (fun z => ?_) (fun z => ?_)
  · rw [if_pos z]
    obtain ⟨i, hi, rfl⟩ := inN_of (by omega) z
    rw [nI_clamp (by omega)]
    have no : isOp S n (nI i) = false → Gw l G (d + 5) m10_open 33 [.ref 102, .int (nI i)] [] (u2 I 102 0 (nI 0), J, K) (fun r h' => r = some (.int (if isOp S n (nI i) = true then unsS P S i 4 i else -2)) ∧ MPst I J K h' P (if isOp S n (nI i) = true then unsS P S i else S) im SI m T kn (if isOp S n (nI i) = true then u1 u else u) (if isOp S n (nI i) = true then H1 u Hs S else Hs) (B + 2)) := by
      intro hno
      rw [hno]
      refine e_bipush rfl bp_m2 ?_
      refine e_ireturn rfl rfl ?_
      exact ⟨rfl, hI.fin g0⟩
    have eo : isOp S n (nI i) = (topS S n i && decide (0 < S 9 0)) := by unfold isOp; rw [z, nI_clamp (by omega), Bool.true_and]
    refine e_aload_n rfl rfl ?_
    refine e_iconst (v := nI 0) rfl ic_0N ?_
    refine e_iload_n rfl rfl ?_
    refine e_callVp (kd := 10) (M2 := m10_isOnTop) rfl v10_364 ok10_isOnTop (c10_isOnTop (d := d + 2) (f := 0) hM hn1 (by omega) hR (by omega) hi) rfl hM.k rfl rfl rfl rfl ?_
    refine e_if_eqB (tgt := 33) rfl rfl (fun y => ?_) (fun y => ?_)
    · exact no (by rw [eo, y, Bool.false_and])
    · refine e_aload_n rfl rfl ?_
      refine e_getP rfl f10_84 hM.k rfl hM.p39 ?_
      refine e_iconst (v := nI 0) rfl ic_0N ?_
      first | refine e_ialoadN rfl hM.a39 (by omega) (by omega) ?_ | (refine e_iaload rfl hM.a39 ?_ ?_; rotate_left)
      rw [hR.2.2.1.2.1, k2]
      first | refine e_if_neB (tgt := 36) rfl rfl (fun z => ?_) (fun z => ?_) | refine e_if_neN (tgt := 36) rfl rfl (by omega) (fun z => ?_) (fun z => ?_) | refine e_if_ne (tgt := 36) rfl rfl (fun z => ?_) (fun z => ?_)
      · have x : ky ≠ 0 := by assumption
        have kp : 0 < S 9 0 := by rw [k2]; show nI 0 < nI ky; exact (nI_ltI (by omega) (by omega)).mpr (by omega)
        have yes : isOp S n (nI i) = true := by rw [eo, y, decide_eq_true kp]; rfl
        have c0 : S 0 i = 0 := of_decide_eq_true ((Bool.and_eq_true _ _).mp y).1
        rw [yes]
        refine e_aload_n rfl rfl ?_
        refine e_callV (kd := 10) (M2 := m10_keepNow) rfl v10_413 ok10_keepNow (c10_keepNow (d := d + 3) hM hR (by omega) hu hu20 hH) rfl hM.k rfl rfl rfl rfl (fun r1 h1 q1 => ?_)
        obtain ⟨rfl, I1, rfl, g1, e1, h1⟩ := q1
        have R1 : RM I1 0 n S (B + 1) := hR.frame (by omega) (fun c i o => g1 c i (fun f _ _ => by unfold onF at o ⊢; omega) (by unfold onF at o; omega))
        have P1 : MP I1 P := hP.frame (fun c a b => funext fun i => g1 c i (fun f _ _ => by unfold onF; omega) (by omega))
        refine e_aload_n rfl rfl ?_
        refine e_iconst (v := nI 0) rfl ic_0N ?_
        refine e_iload_n rfl rfl ?_
        refine e_callV (kd := 10) (M2 := m10_opens) rfl v10_367 ok10_opens (c10_opens (d := d) (f := 0) hM P1 hX hn R1 (by omega) hi k1 k2) rfl hM.k rfl rfl rfl rfl (fun r1 h1 q1 => ?_)
        obtain ⟨rfl, I2, J2, rfl, g2, R2⟩ := q1
        rw [unsA, if_pos ⟨c0, kp⟩] at R2
        refine e_aload_n rfl rfl ?_
        refine e_getP rfl f10_108 hM.k rfl hM.p47 ?_
        refine e_iload_n rfl rfl ?_
        first | refine e_ialoadN rfl hM.a47 (by omega) (by omega) ?_ | (refine e_iaload rfl hM.a47 ?_ ?_; rotate_left)
        rw [(R2.z hi).2.2.2.1]
        refine e_ireturn rfl rfl ?_
        exact ⟨rfl, hI1.step (J := J) hn g1 e1 h1 g2 (R2.mono (by omega))⟩
      · have x : ky = 0 := by assumption
        exact no (by rw [eo, decide_eq_false (by rw [k2, x]; decide), Bool.and_false])
  · have no : isOp S n t = false := by unfold isOp; rw [z, Bool.false_and]
    rw [if_neg (by rw [z]; decide), no]
    refine e_iconst rfl ic_m1 ?_
    refine e_ireturn rfl rfl ?_
    exact ⟨rfl, hI.fin g0⟩
end MTn1
