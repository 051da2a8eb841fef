/-! ===== the reference: tried, chance, best, count, tin ===== -/
def a_tin (P : Pl) (S : SM) (t : Nat) (w : Int32) : Int32 := if w = nI 0 then P.2 4 t else if w = nI 1 then S 1 t else if w = nI 2 then P.2 6 t else if w = nI 3 then S 2 t else if w = nI 4 then S 0 t else if w = nI 5 then S 4 t else S 5 t
/-- what tin throws: 1 no such TIN, 2 no such thing -/
def thr (n : Nat) (t w : Int32) : Nat := if inN n t = true then (if inN 7 w = true then 0 else 2) else 1
section MRun2
variable {l : Launch} {G : GG} {d : Nat} {I : IM} {J : JM} {K : Kt} {Q : Option Value → Hp → Prop} {P : Pl} {S : SM} {im : Bool} {SI : SM} {m : Nat} {T : SM} {kn : Int32} {u : Nat} {Hs : Nat → SM} {B n f : Nat}
theorem c10_thrown (hM : MK K) : Cp l G d m10_thrown [.ref 102] (I, J, K) (.int (I 102 0)) := by
  refine Cp.of ok10_thrown rfl (rfl : argL _ _ = [.ref 102]) ?_
  refine e_aload_n rfl rfl ?_
  refine e_getI rfl f10_151 hM.k rfl ?_
  refine e_ireturn rfl rfl ?_
  exact ⟨rfl, rfl⟩
theorem c10_tin (hM : MK K) (hI : MI I P S im SI m T kn u Hs B) (hn : P.1 1 = n) (t w : Int32) : Cw l G (d + 1) m10_tin [.ref 102, .int t, .int w] (I, J, K) (fun r h' => ∃ v, r = some (.int v) ∧ (thr n t w = 0 → v = a_tin P S t.toNatClampNeg w) ∧ ∃ I' J', h' = (I', J', K) ∧ FZ I J I' J' ∧ MI I' P S im SI m T kn u Hs (B + 2) ∧ I' 102 0 = nI (thr n t w)) := by
  have hn1 : I 104 1 = nI n := by rw [← hn]; exact hI.1.1.2.1
  have h8 := hI.2.1.1.1.2.1
  have fin : ∀ q v, thr n t w = q → (q = 0 → v = a_tin P S t.toNatClampNeg w) → ∃ v', some (Value.int v) = some (.int v') ∧ (thr n t w = 0 → v' = a_tin P S t.toNatClampNeg w) ∧ ∃ I' J', ((u2 I 102 0 (nI q), J, K) : Hp) = (I', J', K) ∧ FZ I J I' J' ∧ MI I' P S im SI m T kn u Hs (B + 2) ∧ I' 102 0 = nI (thr n t w) := by
    intro q v hq hv
    have g0 : FQm I J (u2 I 102 0 (nI q)) J := FQm.w0
    exact ⟨v, rfl, fun z => hv (hq.symm.trans z), _, J, rfl, g0.fz, (hI.fq g0).mono (by omega), by rw [u2_at, hq]⟩
  have bad : ∀ q, q ≠ 0 → q < 10 → thr n t w = q → Gw l G (d + 1) m10_tin 31 [.ref 102, .int t, .int w] [] (u2 I 102 0 (nI q), J, K) (fun r h' => ∃ v, r = some (.int v) ∧ (thr n t w = 0 → v = a_tin P S t.toNatClampNeg w) ∧ ∃ I' J', h' = (I', J', K) ∧ FZ I J I' J' ∧ MI I' P S im SI m T kn u Hs (B + 2) ∧ I' 102 0 = nI (thr n t w)) := by
    intro q hq h10 hh
    refine e_aload_n rfl rfl ?_
    refine e_getI rfl f10_151 hM.k rfl ?_
    rw [u2_at]
    refine e_if_eqN (tgt := 40) rfl rfl (by omega) (fun z => absurd z hq) (fun _ => ?_)
    refine e_iconst (v := nI 0) rfl ic_0N ?_
    refine e_ireturn rfl rfl ?_
    exact fin q _ hh (fun z => absurd z hq)
  refine Cw.of ok10_tin rfl (rfl : argL _ _ = [.ref 102, .int t, .int w]) ?_
  refine e_aload_n rfl rfl ?_
  refine e_aload_n rfl rfl ?_
  refine e_iload_n rfl rfl ?_
  refine e_callVp (kd := 10) (M2 := m10_isTin) rfl v10_397 ok10_isTin (c10_isTin (d := d) hM hn1 t) rfl hM.k rfl rfl rfl rfl ?_
  refine e_if_neB (tgt := 13) rfl rfl (fun z => ?_) (fun z => ?_)
  · have two : inN 7 w = false → Gw l G (d + 1) m10_tin 23 [.ref 102, .int t, .int w] [.ref 102] (I, J, K) (fun r h' => ∃ v, r = some (.int v) ∧ (thr n t w = 0 → v = a_tin P S t.toNatClampNeg w) ∧ ∃ I' J', h' = (I', J', K) ∧ FZ I J I' J' ∧ MI I' P S im SI m T kn u Hs (B + 2) ∧ I' 102 0 = nI (thr n t w)) := by
      intro hno
      refine e_iconst (v := nI 2) rfl ic_2N ?_
      refine e_goto (tgt := 28) rfl rfl ?_
      refine e_putI rfl f10_151 hM.k rfl rfl ?_
      exact bad 2 (by omega) (by omega) (by unfold thr; rw [if_pos z, if_neg (by rw [hno]; decide)])
    refine e_iload_n rfl rfl ?_
    refine e_if_lt (tgt := 23) rfl rfl (fun y => ?_) (fun y => ?_)
    · exact two (Bool.eq_false_iff.mpr (fun q => (inN_lo (k := 6) (by omega) q).1 y))
    · refine e_iload_n rfl rfl ?_
      refine e_bipush (v := nI 6) rfl bp_6N ?_
      refine e_icmp_le (tgt := 27) rfl rfl (fun x => ?_) (fun x => ?_)
      · have hin : inN 7 w = true := inN_hi (k := 6) (by omega) y x
        have h0 : thr n t w = 0 := by unfold thr; rw [if_pos z, if_pos hin]
        have fin0 := fun v => fin 0 v h0
        obtain ⟨i, hi, rfl⟩ := inN_of (by omega) z
        obtain ⟨p3, p4, p5, p6, p7⟩ := hI.1.2.2.1 i (by omega)
        have hR := hI.2.2.1
        rw [hn] at hR
        obtain ⟨e0, e1, e2, e4, e5⟩ := hR.z hi
        refine e_iconst (v := nI 0) rfl ic_0N ?_
        refine e_putI rfl f10_151 hM.k rfl rfl ?_
        refine e_aload_n rfl rfl ?_
        refine e_getI rfl f10_151 hM.k rfl ?_
        rw [u2_at]
        refine e_if_eqN (tgt := 40) rfl rfl (by omega) (fun _ => ?_) (fun z => absurd rfl z)
        refine e_iload_n rfl rfl ?_
        refine sw10_tin_41 (fun v => ?_) (fun v => ?_) (fun v => ?_) (fun v => ?_) (fun v => ?_) (fun v => ?_) (fun v0 v1 v2 v3 v4 v5 => ?_)
        · refine e_aload_n rfl rfl ?_
          refine e_getP rfl f10_28 hM.k rfl hM.p8 ?_
          refine e_iload_n rfl rfl ?_
          first | refine e_ialoadN rfl hM.a8 (by omega) (by omega) ?_ | (refine e_iaload rfl hM.a8 ?_ ?_; rotate_left)
          rw [u2_ne _ _ (by omega), p4]
          refine e_ireturn rfl rfl ?_
          exact fin0 _ (fun _ => by rw [nI_clamp (by omega)]; unfold a_tin; rw [if_pos v])
        · refine e_aload_n rfl rfl ?_
          refine e_getP rfl f10_102 hM.k rfl hM.p45 ?_
          refine e_iload_n rfl rfl ?_
          first | refine e_ialoadN rfl hM.a45 (by omega) (by omega) ?_ | (refine e_iaload rfl hM.a45 ?_ ?_; rotate_left)
          rw [u2_ne _ _ (by omega), e1]
          refine e_ireturn rfl rfl ?_
          exact fin0 _ (fun _ => by rw [nI_clamp (by omega)]; unfold a_tin; rw [if_neg (by rw [v]; decide), if_pos v])
        · refine e_aload_n rfl rfl ?_
          refine e_getP rfl f10_34 hM.k rfl hM.p10 ?_
          refine e_iload_n rfl rfl ?_
          first | refine e_ialoadN rfl hM.a10 (by omega) (by omega) ?_ | (refine e_iaload rfl hM.a10 ?_ ?_; rotate_left)
          rw [u2_ne _ _ (by omega), p6]
          refine e_ireturn rfl rfl ?_
          exact fin0 _ (fun _ => by rw [nI_clamp (by omega)]; unfold a_tin; rw [if_neg (by rw [v]; decide), if_neg (by rw [v]; decide), if_pos v])
        · refine e_aload_n rfl rfl ?_
          refine e_getP rfl f10_99 hM.k rfl hM.p44 ?_
          refine e_iload_n rfl rfl ?_
          first | refine e_ialoadN rfl hM.a44 (by omega) (by omega) ?_ | (refine e_iaload rfl hM.a44 ?_ ?_; rotate_left)
          rw [u2_ne _ _ (by omega), e2]
          refine e_ireturn rfl rfl ?_
          exact fin0 _ (fun _ => by rw [nI_clamp (by omega)]; unfold a_tin; rw [if_neg (by rw [v]; decide), if_neg (by rw [v]; decide), if_neg (by rw [v]; decide), if_pos v])
        · refine e_aload_n rfl rfl ?_
          refine e_getP rfl f10_105 hM.k rfl hM.p46 ?_
          refine e_iload_n rfl rfl ?_
          first | refine e_ialoadN rfl hM.a46 (by omega) (by omega) ?_ | (refine e_iaload rfl hM.a46 ?_ ?_; rotate_left)
          rw [u2_ne _ _ (by omega), e0]
          refine e_ireturn rfl rfl ?_
          exact fin0 _ (fun _ => by rw [nI_clamp (by omega)]; unfold a_tin; rw [if_neg (by rw [v]; decide), if_neg (by rw [v]; decide), if_neg (by rw [v]; decide), if_neg (by rw [v]; decide), if_pos v])
        · refine e_aload_n rfl rfl ?_
          refine e_getP rfl f10_108 hM.k rfl hM.p47 ?_
          refine e_iload_n rfl rfl ?_
          first | refine e_ialoadN rfl hM.a47 (by omega) (by omega) ?_ | (refine e_iaload rfl hM.a47 ?_ ?_; rotate_left)
          rw [u2_ne _ _ (by omega), e4]
          refine e_ireturn rfl rfl ?_
          exact fin0 _ (fun _ => by rw [nI_clamp (by omega)]; unfold a_tin; rw [if_neg (by rw [v]; decide), if_neg (by rw [v]; decide), if_neg (by rw [v]; decide), if_neg (by rw [v]; decide), if_neg (by rw [v]; decide), if_pos v])
        · refine e_aload_n rfl rfl ?_
          refine e_getP rfl f10_111 hM.k rfl hM.p48 ?_
          refine e_iload_n rfl rfl ?_
          first | refine e_ialoadN rfl hM.a48 (by omega) (by omega) ?_ | (refine e_iaload rfl hM.a48 ?_ ?_; rotate_left)
          rw [u2_ne _ _ (by omega), e5]
          refine e_ireturn rfl rfl ?_
          exact fin0 _ (fun _ => by rw [nI_clamp (by omega)]; unfold a_tin; rw [if_neg v0, if_neg v1, if_neg v2, if_neg v3, if_neg v4, if_neg v5])
      · exact two (Bool.eq_false_iff.mpr (fun q => absurd (inN_lo (k := 6) (by omega) q).2 x))
  · refine e_iconst (v := nI 1) rfl ic_1N ?_
    refine e_goto (tgt := 28) rfl rfl ?_
    refine e_putI rfl f10_151 hM.k rfl rfl ?_
    exact bad 1 (by omega) (by omega) (by unfold thr; rw [if_neg (by rw [z]; decide)])
theorem c10_knownMany (hM : MK K) (hm : I 102 59 = nI m) (hk : I 102 60 = kn) : Cp l G d m10_knownMany [.ref 102] (I, J, K) (.int (if kn = -1 then nI m else kn)) := by
  refine Cp.of ok10_knownMany rfl (rfl : argL _ _ = [.ref 102]) ?_
  refine e_aload_n rfl rfl ?_
  refine e_getI rfl f10_129 hM.k rfl ?_
  rw [hk]
  refine e_iconst rfl ic_m1 ?_
  refine e_icmp_ne (tgt := 15) rfl rfl (fun z => ?_) (fun z => ?_)
  · rw [if_neg z]
    refine e_aload_n rfl rfl ?_
    refine e_getI rfl f10_129 hM.k rfl ?_
    rw [hk]
    refine e_ireturn rfl rfl ?_
    exact ⟨rfl, rfl⟩
  · rw [if_pos z]
    refine e_aload_n rfl rfl ?_
    refine e_getI rfl f10_300 hM.k rfl ?_
    rw [hm]
    refine e_goto (tgt := 19) rfl rfl ?_
    refine e_ireturn rfl rfl ?_
    exact ⟨rfl, rfl⟩
theorem hmk_k {m : Nat} (h : kn = -1 ∨ ∃ j, j ≤ m ∧ kn = nI j) (hm : m ≤ 24) : hmk kn m = if kn = -1 then nI m else kn := by
  unfold hmk
  by_cases c : kn = -1
  · rw [if_pos c, if_pos c]
  · rw [if_neg c, if_neg c]
    obtain ⟨j, j1, rfl⟩ := h.resolve_left c
    exact if_neg (fun q => absurd ((nI_ltI (by omega) (by omega)).mp q) (by omega))
theorem c10_count (hM : MK K) (hI : MI I P S im SI m T kn u Hs B) (hn : P.1 1 = n) (h2 : W2 P 0 S) (hk : kn = -1 ∨ ∃ j, j ≤ m ∧ kn = nI j) (w : Int32) : Cw l G (d + 1) m10_count [.ref 102, .int w] (I, J, K) (fun r h' => r = some (.int (a_count P S n m kn u w)) ∧ MPst I J K h' P S im SI m T kn u Hs (B + 2)) := by
  have g0 : FQm I J (u2 I 102 0 (nI 0)) J := FQm.w0
  have hI1 := hI.t0 J
  obtain ⟨p1, p2, p3, p4, p5, ⟨t1, t2, t3, t4⟩, ⟨hu, hu20, hH⟩, p8, p9⟩ := hI1
  rw [hn] at p3
  have h8 := p2.1.1.2.1
  have h38 := p2.1.1.2.2.2
  obtain ⟨m0, m1, m2, m3, m4, m5, m6, m7⟩ := p1.1
  obtain ⟨d1, d2, d3, d4, d5⟩ := p3.2.2.1
  have hn1 : (u2 I 102 0 (nI 0)) 104 1 = nI n := by rw [← hn]; exact m1
  have ne : ∀ {a b : Nat}, a ≠ b → a < 100 → b < 100 → ∀ {x : Int32}, x = nI a → ¬ x = nI b := fun h1 h2 h3 x e q => h1 ((nI_eq (by omega) (by omega)).mp (e.symm.trans q))
  unfold a_count
  refine Cw.of ok10_count rfl (rfl : argL _ _ = [.ref 102, .int w]) ?_
  refine e_aload_n rfl rfl ?_
  refine e_iconst (v := nI 0) rfl ic_0N ?_
  refine e_putI rfl f10_151 hM.k rfl rfl ?_
  refine e_iload_n rfl rfl ?_
  refine sw10_count_6 (fun v => ?_) (fun v => ?_) (fun v => ?_) (fun v => ?_) (fun v => ?_) (fun v => ?_) (fun v => ?_) (fun v => ?_) (fun v => ?_) (fun v => ?_) (fun v => ?_) (fun v => ?_) (fun v => ?_) (fun v => ?_) (fun v => ?_) (fun v => ?_) (fun v0 v1 v2 v3 v4 v5 v6 v7 v8 v9 v10 v11 v12 v13 v14 v15 => ?_)
  · rw [if_pos v]
    refine e_aload_n rfl rfl ?_
    refine e_getP rfl f10_13 hM.k rfl hM.p3 ?_
    refine e_iconst (v := nI 0) rfl ic_0N ?_
    first | refine e_ialoadN rfl hM.a3 (by omega) (by omega) ?_ | (refine e_iaload rfl hM.a3 ?_ ?_; rotate_left)
    rw [m0]
    refine e_ireturn rfl rfl ?_
    exact ⟨rfl, hI.fin g0⟩
  · rw [if_neg (ne (by omega) (by omega) (by omega) v), if_pos v]
    refine e_aload_n rfl rfl ?_
    refine e_getP rfl f10_13 hM.k rfl hM.p3 ?_
    refine e_iconst (v := nI 1) rfl ic_1N ?_
    first | refine e_ialoadN rfl hM.a3 (by omega) (by omega) ?_ | (refine e_iaload rfl hM.a3 ?_ ?_; rotate_left)
    rw [m1]
    refine e_ireturn rfl rfl ?_
    exact ⟨rfl, hI.fin g0⟩
  · rw [if_neg (ne (by omega) (by omega) (by omega) v), if_neg (ne (by omega) (by omega) (by omega) v), if_pos v]
    refine e_aload_n rfl rfl ?_
    refine e_getP rfl f10_13 hM.k rfl hM.p3 ?_
    refine e_iconst (v := nI 3) rfl ic_3N ?_
    first | refine e_ialoadN rfl hM.a3 (by omega) (by omega) ?_ | (refine e_iaload rfl hM.a3 ?_ ?_; rotate_left)
    rw [m3]
    refine e_ireturn rfl rfl ?_
    exact ⟨rfl, hI.fin g0⟩
  · rw [if_neg (ne (by omega) (by omega) (by omega) v), if_neg (ne (by omega) (by omega) (by omega) v), if_neg (ne (by omega) (by omega) (by omega) v), if_pos v]
    refine e_aload_n rfl rfl ?_
    refine e_getP rfl f10_13 hM.k rfl hM.p3 ?_
    refine e_bipush (v := nI 7) rfl bp_7N ?_
    first | refine e_ialoadN rfl hM.a3 (by omega) (by omega) ?_ | (refine e_iaload rfl hM.a3 ?_ ?_; rotate_left)
    rw [m7]
    refine e_ireturn rfl rfl ?_
    rw [p2.2.2]
    exact ⟨rfl, hI.fin g0⟩
  · rw [if_neg (ne (by omega) (by omega) (by omega) v), if_neg (ne (by omega) (by omega) (by omega) v), if_neg (ne (by omega) (by omega) (by omega) v), if_neg (ne (by omega) (by omega) (by omega) v), if_pos v]
    refine e_aload_n rfl rfl ?_
    refine e_getP rfl f10_78 hM.k rfl hM.p37 ?_
    refine e_iconst (v := nI 0) rfl ic_0N ?_
    first | refine e_ialoadN rfl hM.a37 (by omega) (by omega) ?_ | (refine e_iaload rfl hM.a37 ?_ ?_; rotate_left)
    rw [d1]
    refine e_ireturn rfl rfl ?_
    exact ⟨rfl, hI.fin g0⟩
  · rw [if_neg (ne (by omega) (by omega) (by omega) v), if_neg (ne (by omega) (by omega) (by omega) v), if_neg (ne (by omega) (by omega) (by omega) v), if_neg (ne (by omega) (by omega) (by omega) v), if_neg (ne (by omega) (by omega) (by omega) v), if_pos v]
    refine e_aload_n rfl rfl ?_
    refine e_iconst (v := nI 0) rfl ic_0N ?_
    refine e_iconst (v := nI 0) rfl ic_0N ?_
    refine e_callVp (kd := 10) (M2 := m10_tinsOf) rfl v10_422 ok10_tinsOf (c10_tinsOf (d := d) (f := 0) hM hn1 (by omega) p3 (by omega) (nI 0)) rfl hM.k rfl rfl rfl rfl ?_
    refine e_ireturn rfl rfl ?_
    exact ⟨rfl, hI.fin g0⟩
  · rw [if_neg (ne (by omega) (by omega) (by omega) v), if_neg (ne (by omega) (by omega) (by omega) v), if_neg (ne (by omega) (by omega) (by omega) v), if_neg (ne (by omega) (by omega) (by omega) v), if_neg (ne (by omega) (by omega) (by omega) v), if_neg (ne (by omega) (by omega) (by omega) v), if_pos v]
    refine e_aload_n rfl rfl ?_
    refine e_iconst (v := nI 0) rfl ic_0N ?_
    refine e_iconst (v := nI 1) rfl ic_1N ?_
    refine e_callVp (kd := 10) (M2 := m10_tinsOf) rfl v10_422 ok10_tinsOf (c10_tinsOf (d := d) (f := 0) hM hn1 (by omega) p3 (by omega) (nI 1)) rfl hM.k rfl rfl rfl rfl ?_
    refine e_ireturn rfl rfl ?_
    exact ⟨rfl, hI.fin g0⟩
  · rw [if_neg (ne (by omega) (by omega) (by omega) v), if_neg (ne (by omega) (by omega) (by omega) v), if_neg (ne (by omega) (by omega) (by omega) v), if_neg (ne (by omega) (by omega) (by omega) v), if_neg (ne (by omega) (by omega) (by omega) v), if_neg (ne (by omega) (by omega) (by omega) v), if_neg (ne (by omega) (by omega) (by omega) v), if_pos v]
    refine e_aload_n rfl rfl ?_
    refine e_iconst (v := nI 0) rfl ic_0N ?_
    refine e_iconst (v := nI 3) rfl ic_3N ?_
    refine e_callVp (kd := 10) (M2 := m10_tinsOf) rfl v10_422 ok10_tinsOf (c10_tinsOf (d := d) (f := 0) hM hn1 (by omega) p3 (by omega) (nI 3)) rfl hM.k rfl rfl rfl rfl ?_
    refine e_ireturn rfl rfl ?_
    exact ⟨rfl, hI.fin g0⟩
  · rw [if_neg (ne (by omega) (by omega) (by omega) v), if_neg (ne (by omega) (by omega) (by omega) v), if_neg (ne (by omega) (by omega) (by omega) v), if_neg (ne (by omega) (by omega) (by omega) v), if_neg (ne (by omega) (by omega) (by omega) v), if_neg (ne (by omega) (by omega) (by omega) v), if_neg (ne (by omega) (by omega) (by omega) v), if_neg (ne (by omega) (by omega) (by omega) v), if_pos v]
    refine e_aload_n rfl rfl ?_
    refine e_getP rfl f10_87 hM.k rfl hM.p40 ?_
    refine e_iconst (v := nI 0) rfl ic_0N ?_
    first | refine e_ialoadN rfl hM.a40 (by omega) (by omega) ?_ | (refine e_iaload rfl hM.a40 ?_ ?_; rotate_left)
    rw [d3]
    refine e_ireturn rfl rfl ?_
    exact ⟨rfl, hI.fin g0⟩
  · rw [if_neg (ne (by omega) (by omega) (by omega) v), if_neg (ne (by omega) (by omega) (by omega) v), if_neg (ne (by omega) (by omega) (by omega) v), if_neg (ne (by omega) (by omega) (by omega) v), if_neg (ne (by omega) (by omega) (by omega) v), if_neg (ne (by omega) (by omega) (by omega) v), if_neg (ne (by omega) (by omega) (by omega) v), if_neg (ne (by omega) (by omega) (by omega) v), if_neg (ne (by omega) (by omega) (by omega) v), if_pos v]
    rw [h2.2.1]
    refine e_aload_n rfl rfl ?_
    refine e_iconst (v := nI 0) rfl ic_0N ?_
    refine e_iconst (v := nI 1) rfl ic_1N ?_
    refine e_callVp (kd := 10) (M2 := m10_wantsOf) rfl v10_419 ok10_wantsOf (c10_wantsOf (d := d) (f := 0) hM m3 h38 p3 (by omega) (nI 1)) rfl hM.k rfl rfl rfl rfl ?_
    refine e_ireturn rfl rfl ?_
    exact ⟨rfl, hI.fin g0⟩
  · rw [if_neg (ne (by omega) (by omega) (by omega) v), if_neg (ne (by omega) (by omega) (by omega) v), if_neg (ne (by omega) (by omega) (by omega) v), if_neg (ne (by omega) (by omega) (by omega) v), if_neg (ne (by omega) (by omega) (by omega) v), if_neg (ne (by omega) (by omega) (by omega) v), if_neg (ne (by omega) (by omega) (by omega) v), if_neg (ne (by omega) (by omega) (by omega) v), if_neg (ne (by omega) (by omega) (by omega) v), if_neg (ne (by omega) (by omega) (by omega) v), if_pos v]
    rw [h2.2.2]
    refine e_aload_n rfl rfl ?_
    refine e_iconst (v := nI 0) rfl ic_0N ?_
    refine e_iconst (v := nI 2) rfl ic_2N ?_
    refine e_callVp (kd := 10) (M2 := m10_wantsOf) rfl v10_419 ok10_wantsOf (c10_wantsOf (d := d) (f := 0) hM m3 h38 p3 (by omega) (nI 2)) rfl hM.k rfl rfl rfl rfl ?_
    refine e_ireturn rfl rfl ?_
    exact ⟨rfl, hI.fin g0⟩
  · rw [if_neg (ne (by omega) (by omega) (by omega) v), if_neg (ne (by omega) (by omega) (by omega) v), if_neg (ne (by omega) (by omega) (by omega) v), if_neg (ne (by omega) (by omega) (by omega) v), if_neg (ne (by omega) (by omega) (by omega) v), if_neg (ne (by omega) (by omega) (by omega) v), if_neg (ne (by omega) (by omega) (by omega) v), if_neg (ne (by omega) (by omega) (by omega) v), if_neg (ne (by omega) (by omega) (by omega) v), if_neg (ne (by omega) (by omega) (by omega) v), if_neg (ne (by omega) (by omega) (by omega) v), if_pos v]
    refine e_aload_n rfl rfl ?_
    refine e_getP rfl f10_90 hM.k rfl hM.p41 ?_
    refine e_iconst (v := nI 0) rfl ic_0N ?_
    first | refine e_ialoadN rfl hM.a41 (by omega) (by omega) ?_ | (refine e_iaload rfl hM.a41 ?_ ?_; rotate_left)
    rw [d4]
    refine e_ireturn rfl rfl ?_
    exact ⟨rfl, hI.fin g0⟩
  · rw [if_neg (ne (by omega) (by omega) (by omega) v), if_neg (ne (by omega) (by omega) (by omega) v), if_neg (ne (by omega) (by omega) (by omega) v), if_neg (ne (by omega) (by omega) (by omega) v), if_neg (ne (by omega) (by omega) (by omega) v), if_neg (ne (by omega) (by omega) (by omega) v), if_neg (ne (by omega) (by omega) (by omega) v), if_neg (ne (by omega) (by omega) (by omega) v), if_neg (ne (by omega) (by omega) (by omega) v), if_neg (ne (by omega) (by omega) (by omega) v), if_neg (ne (by omega) (by omega) (by omega) v), if_neg (ne (by omega) (by omega) (by omega) v), if_pos v]
    refine e_aload_n rfl rfl ?_
    refine e_getP rfl f10_84 hM.k rfl hM.p39 ?_
    refine e_iconst (v := nI 0) rfl ic_0N ?_
    first | refine e_ialoadN rfl hM.a39 (by omega) (by omega) ?_ | (refine e_iaload rfl hM.a39 ?_ ?_; rotate_left)
    rw [d2]
    refine e_ireturn rfl rfl ?_
    exact ⟨rfl, hI.fin g0⟩
  · rw [if_neg (ne (by omega) (by omega) (by omega) v), if_neg (ne (by omega) (by omega) (by omega) v), if_neg (ne (by omega) (by omega) (by omega) v), if_neg (ne (by omega) (by omega) (by omega) v), if_neg (ne (by omega) (by omega) (by omega) v), if_neg (ne (by omega) (by omega) (by omega) v), if_neg (ne (by omega) (by omega) (by omega) v), if_neg (ne (by omega) (by omega) (by omega) v), if_neg (ne (by omega) (by omega) (by omega) v), if_neg (ne (by omega) (by omega) (by omega) v), if_neg (ne (by omega) (by omega) (by omega) v), if_neg (ne (by omega) (by omega) (by omega) v), if_neg (ne (by omega) (by omega) (by omega) v), if_pos v]
    refine e_aload_n rfl rfl ?_
    refine e_getI rfl f10_300 hM.k rfl ?_
    rw [t1]
    refine e_ireturn rfl rfl ?_
    exact ⟨rfl, hI.fin g0⟩
  · rw [if_neg (ne (by omega) (by omega) (by omega) v), if_neg (ne (by omega) (by omega) (by omega) v), if_neg (ne (by omega) (by omega) (by omega) v), if_neg (ne (by omega) (by omega) (by omega) v), if_neg (ne (by omega) (by omega) (by omega) v), if_neg (ne (by omega) (by omega) (by omega) v), if_neg (ne (by omega) (by omega) (by omega) v), if_neg (ne (by omega) (by omega) (by omega) v), if_neg (ne (by omega) (by omega) (by omega) v), if_neg (ne (by omega) (by omega) (by omega) v), if_neg (ne (by omega) (by omega) (by omega) v), if_neg (ne (by omega) (by omega) (by omega) v), if_neg (ne (by omega) (by omega) (by omega) v), if_neg (ne (by omega) (by omega) (by omega) v), if_pos v]
    rw [hmk_k hk t2]
    refine e_aload_n rfl rfl ?_
    refine e_callVp (kd := 10) (M2 := m10_knownMany) rfl v10_464 ok10_knownMany (c10_knownMany (d := d) hM t1 t3) rfl hM.k rfl rfl rfl rfl ?_
    refine e_ireturn rfl rfl ?_
    exact ⟨rfl, hI.fin g0⟩
  · rw [if_neg (ne (by omega) (by omega) (by omega) v), if_neg (ne (by omega) (by omega) (by omega) v), if_neg (ne (by omega) (by omega) (by omega) v), if_neg (ne (by omega) (by omega) (by omega) v), if_neg (ne (by omega) (by omega) (by omega) v), if_neg (ne (by omega) (by omega) (by omega) v), if_neg (ne (by omega) (by omega) (by omega) v), if_neg (ne (by omega) (by omega) (by omega) v), if_neg (ne (by omega) (by omega) (by omega) v), if_neg (ne (by omega) (by omega) (by omega) v), if_neg (ne (by omega) (by omega) (by omega) v), if_neg (ne (by omega) (by omega) (by omega) v), if_neg (ne (by omega) (by omega) (by omega) v), if_neg (ne (by omega) (by omega) (by omega) v), if_neg (ne (by omega) (by omega) (by omega) v), if_pos v]
    refine e_aload_n rfl rfl ?_
    refine e_getI rfl f10_307 hM.k rfl ?_
    rw [hu]
    refine e_ireturn rfl rfl ?_
    exact ⟨rfl, hI.fin g0⟩
  · rw [if_neg v0, if_neg v1, if_neg v2, if_neg v3, if_neg v4, if_neg v5, if_neg v6, if_neg v7, if_neg v8, if_neg v9, if_neg v10, if_neg v11, if_neg v12, if_neg v13, if_neg v14, if_neg v15]
    refine e_iconst rfl ic_m1 ?_
    refine e_ireturn rfl rfl ?_
    exact ⟨rfl, hI.fin g0⟩
end MRun2
