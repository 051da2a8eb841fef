/-! ===== the reference: four LINES, and those that come but once ===== -/
theorem nu_2 {f : Nat → Nat} {n : Nat} {lo hi : Int32} {s s' : PSt} (h : nuS f n lo hi s = .inr s') : s'.2 = s.2 := by
  unfold nuS at h
  split at h
  · split at h
    · exact absurd h (by simp [flS])
    · exact avS_2 h
  · exact absurd h (by simp [flS])
theorem nn_2 {f : Nat → Nat} {n j b : Nat} {s s' : PSt} (h : nnS f n j b s = .inr s') : s'.2 = s.2 := by
  unfold nnS at h
  split at h
  · split at h
    · exact avS_2 h
    · exact absurd h (by simp [flS])
  · exact absurd h (by simp [flS])
theorem tn_2 {f : Nat → Nat} {n j b : Nat} {s s' : PSt} (h : tnS f n j b s = .inr s') : s'.2 = s.2 := by
  unfold tnS at h
  split at h
  · split at h
    · exact absurd h (by simp [flS])
    · exact avS_2 h
  · exact absurd h (by simp [flS])
theorem mx_16 {P : Pl} {k : Nat} {v : Int32} : (mxD P k v).2 16 0 = P.2 16 0 := by unfold mxD; dsimp only; rw [u2_ne _ _ (by omega)]
theorem bnd_r (s : PSt) (g : PSt → PR) : bnd (.inr s) g = g s := rfl
theorem mv_1 {zz : PR} {s1 : PSt} {g : PSt → PR} (m : ∀ s, zz = .inr s → s.2 = s1.2) (hg : ∀ s s', g s = .inr s' → s'.2 = s.2) : ∀ s, bnd zz g = .inr s → s.2 = s1.2 := fun s h => by
  obtain ⟨t, h1, h2⟩ := bnd_inr h
  exact (hg t s h2).trans (m t h1)
theorem LW.fin {I I' W : IM} {n : Nat} {s1 s4 : PSt} (hz : Mz I n (.inr s1)) (L : LW I I' W) (T : Tz I' n (.inr s4)) (e2 : s4.2 = s1.2) {P' : Pl} (hP : MP W P') (h5 : P'.1 5 = (pP s1).1 5) (h16 : P'.2 16 0 = (pP s1).2 16 0) : Mz I' n (.inr (stP s4 P')) := by
  obtain ⟨-, a1, a2, ⟨a3, a4⟩, a5, a6⟩ := hz
  obtain ⟨-, l2, l3, l4, l5, l6⟩ := L
  refine ⟨T, hP.frame l2, by rw [l6]; exact a2.trans (by rw [← h5]; rfl), ⟨fun t t1 t2 => ?_, fun w hw => ?_⟩, ?_, by rw [l5]; exact a6⟩
  · rw [l3]
    show _ = s4.2.2.1 t
    rw [e2]; exact a3 t t1 t2
  · rw [l3]
    show _ = bitOf (P'.2 16 0) (nI w)
    rw [h16]; exact a4 w hw
  · rw [l4]
    show _ = nI s4.2.2.2
    rw [e2]; exact a5
def kiT (f : Nat → Nat) (n : Nat) (s1 : PSt) : PR := bnd (nnS f n 0 0 s1) fun s2 => bnd (nuS f n (nI 1) (nI 99) s2) fun s3 => bnd (nuS f n (nI 0) (nI 9) s3) fun s4 => .inr (stP s4 (adP (pP s4) 0 0 3 (v3 (pVa s1) (pVa s2) (pVa s3))))
def tiT (f : Nat → Nat) (n : Nat) (s1 : PSt) : PR := bnd (nnS f n 1 3 s1) fun s2 => bnd (tnS f n 0 0 s2) fun s3 => bnd (nuS f n (nI 0) (nI 9) s3) fun s4 => bnd (nuS f n (nI 1) (nI 99) s4) fun s5 => bnd (nuS f n (nI 0) (nI 3) s5) fun s6 => .inr (stP s6 (adP (pP s6) 1 3 5 (v5 (pVa s1) (fdS s2 0 0) (pVa s3) (pVa s4) (pVa s5))))
def opT (f : Nat → Nat) (n : Nat) (s1 : PSt) : PR := bnd (tnS f n 1 3 s1) fun s2 => bnd (nuS f n (nI 0) (nI 99) s2) fun s3 => .inr (stP s3 (mxD (adP (pP s3) 2 8 2 (v3 (fdS s1 1 3) (pVa s2) 0)) 3 (pVa s2)))
def waT (f : Nat → Nat) (n : Nat) (s1 : PSt) : PR := bnd (tnS f n 0 0 s1) fun s2 => bnd (nuS f n (nI 0) (nI 99) s2) fun s3 => bnd (nuS f n (nI 1) (nI 99) s3) fun s4 => .inr (stP s4 (mxD (adP (pP s4) 3 10 3 (v3 (fdS s1 0 0) (pVa s2) (pVa s3))) 4 (pVa s2)))
section MLines
variable {l : Launch} {G : GG} {d : Nat} {I : IM} {J : JM} {K : Kt} {Q : Option Value → Hp → Prop} {f : Nat → Nat} {n : Nat}
theorem mline_kind (hM : MK K) (hX : TX I f n) {s1 : PSt} (hz : Mz I n (.inr s1)) (hc : (pP s1).1 0 < 6) (h06 : (pP s1).1 0 ≤ 6) (h18 : (pP s1).1 1 ≤ 8) {y : Int32} (kk : ∀ I' v2 v3 v4 v5, FL I I' → Mz I' n (kiT f n s1) → Gw l G (d + 8) m10_line 501 [.ref 102, .int y, v2, v3, v4, v5] [] (I', J, K) Q) : Gw l G (d + 8) m10_line 140 [.ref 102, .int y, .null, .null, .null, .null] [] (I, J, K) Q := by
  have hP := hz.2.1
  have n0 : upF I 104 0 = nI ((pP s1).1 0) := hP.1.1
  have n1 : upF I 104 1 = nI ((pP s1).1 1) := hP.1.2.1
  have n2 : upF I 104 2 = nI ((pP s1).1 2) := hP.1.2.2.1
  have n3 : upF I 104 3 = nI ((pP s1).1 3) := hP.1.2.2.2.1
  have L0 : LW I I (upF I) := LW.rf
  have T0 := hz.1
  have m0 : ∀ s, (.inr s1 : PR) = .inr s → s.2 = s1.2 := fun s e => by rw [Sum.inr.inj e]
  have f3 : I 104 (8 + 0) = nI ((pP s1).1 0) := by rw [L0.g 0]; exact n0
  refine e_bipush (v := nI 6) rfl bp_6N ?_
  refine e_aload_n rfl rfl ?_
  refine e_iconst (v := nI 0) rfl ic_0N ?_
  refine e_callVp (kd := 10) (M2 := m10_fresher) rfl v10_224 ok10_fresher (c10_fresher hM (by omega)) rfl hM.k rfl rfl rfl rfl ?_
  rw [f3]
  have f15 : I 104 (8 + 0) = nI ((pP s1).1 0) := by rw [L0.g 0]; exact n0
  first | refine e_iaddN rfl ?_ | refine e_iadd rfl ?_
  refine e_ist2 rfl rfl rfl ?_
  refine e_aload_n rfl rfl ?_
  refine e_getP rfl f10_16 hM.k rfl hM.p4 ?_
  refine e_iload_n rfl rfl ?_
  refine e_aload_n rfl rfl ?_
  refine e_aload_n rfl rfl ?_
  refine e_getP rfl f10_16 hM.k rfl hM.p4 ?_
  refine e_bipush (v := nI 6) rfl bp_6N ?_
  refine e_aload_n rfl rfl ?_
  refine e_iconst (v := nI 0) rfl ic_0N ?_
  refine e_callVp (kd := 10) (M2 := m10_fresher) rfl v10_224 ok10_fresher (c10_fresher hM (by omega)) rfl hM.k rfl rfl rfl rfl ?_
  rw [f15]
  have j0 : ∀ s, (.inr s1 : PR) = .inr s → fnd (fun q => I 105 (6 + q)) (pVa s) ((pP s1).1 0) 0 = fnd ((pP s).2 0) (pVa s) ((pP s).1 0) 0 := fun s e => by
    rw [show pP s = pP s1 from congrArg Prod.fst (m0 s e)]
    refine fnd_congr _ _ (fun q _ hq => ?_)
    have hq : q < (pP s1).1 0 := by omega
    refine (congrFun (L0.2.1 105 (by omega) (by omega)) q).trans ?_
    exact (hP.2.1 q hq).1
  refine e_callV (kd := 10) (M2 := m10_fresh) rfl v10_234 ok10_fresh (c10_fresh (j := 0) (b := 0) hM (hX.fl L0.1) T0 hM.a4 (by omega) (by omega) j0) rfl hM.k rfl rfl rfl rfl (fun r1 h1 q1 => ?_)
  obtain ⟨x1, rfl, I1, rfl, g1, T1', e1⟩ := q1
  first | refine e_iastoreN rfl hM.a4 (by omega) (by omega) ?_ | (refine e_iastore rfl hM.a4 ?_ ?_; rotate_left)
  have L1 := (L0.ft g1).st (c := 105) (i := (pP s1).1 0) (v := x1) (by omega) (by omega) (show 6 + (pP s1).1 0 = hl 105 + (pP s1).1 0 from rfl)
  have T1 := T1'.st (c := 105) (x := 6 + (pP s1).1 0) (v := x1) (by omega)
  have m1 := mv_1 m0 (fun s s' (h : (nnS f n 0 0) s = .inr s') => nn_2 h)
  refine e_aload_n rfl rfl ?_
  refine e_getP rfl f10_19 hM.k rfl hM.p5 ?_
  refine e_iload_n rfl rfl ?_
  refine e_aload_n rfl rfl ?_
  refine e_iconst (v := nI 1) rfl ic_1N ?_
  refine e_bipush (v := nI 99) rfl bp_99N ?_
  refine e_callV (kd := 10) (M2 := m10_numeral) rfl v10_238 ok10_numeral (c10_numeral hM (hX.fl L1.1) T1 (by omega) (by omega)) rfl hM.k rfl rfl rfl rfl (fun r1 h1 q1 => ?_)
  obtain ⟨x2, rfl, I2, rfl, g2, T2', e2⟩ := q1
  first | refine e_iastoreN rfl hM.a5 (by omega) (by omega) ?_ | (refine e_iastore rfl hM.a5 ?_ ?_; rotate_left)
  have L2 := (L1.ft g2).st (c := 106) (i := (pP s1).1 0) (v := x2) (by omega) (by omega) (show 6 + (pP s1).1 0 = hl 106 + (pP s1).1 0 from rfl)
  have T2 := T2'.st (c := 106) (x := 6 + (pP s1).1 0) (v := x2) (by omega)
  have m2 := mv_1 m1 (fun s s' (h : (nuS f n (nI 1) (nI 99)) s = .inr s') => nu_2 h)
  refine e_aload_n rfl rfl ?_
  refine e_getP rfl f10_22 hM.k rfl hM.p6 ?_
  refine e_iload_n rfl rfl ?_
  refine e_aload_n rfl rfl ?_
  refine e_iconst (v := nI 0) rfl ic_0N ?_
  refine e_bipush (v := nI 9) rfl bp_9N ?_
  refine e_callV (kd := 10) (M2 := m10_numeral) rfl v10_238 ok10_numeral (c10_numeral hM (hX.fl L2.1) T2 (by omega) (by omega)) rfl hM.k rfl rfl rfl rfl (fun r1 h1 q1 => ?_)
  obtain ⟨x3, rfl, I3, rfl, g3, T3', e3⟩ := q1
  first | refine e_iastoreN rfl hM.a6 (by omega) (by omega) ?_ | (refine e_iastore rfl hM.a6 ?_ ?_; rotate_left)
  have L3 := (L2.ft g3).st (c := 107) (i := (pP s1).1 0) (v := x3) (by omega) (by omega) (show 6 + (pP s1).1 0 = hl 107 + (pP s1).1 0 from rfl)
  have T3 := T3'.st (c := 107) (x := 6 + (pP s1).1 0) (v := x3) (by omega)
  have m3 := mv_1 m2 (fun s s' (h : (nuS f n (nI 0) (nI 9)) s = .inr s') => nu_2 h)
  have f38 : (u2 I3 107 (6 + (pP s1).1 0) x3) 104 (8 + 0) = nI ((pP s1).1 0) := by rw [L3.g 0]; simp (disch := omega) only [u2_ne]; exact n0
  refine e_aload_n rfl rfl ?_
  refine e_iconst (v := nI 0) rfl ic_0N ?_
  refine e_aload_n rfl rfl ?_
  refine e_iconst (v := nI 0) rfl ic_0N ?_
  refine e_callVp (kd := 10) (M2 := m10_fresher) rfl v10_224 ok10_fresher (c10_fresher hM (by omega)) rfl hM.k rfl rfl rfl rfl ?_
  rw [f38]
  refine e_iconst (v := nI 1) rfl ic_1N ?_
  first | refine e_iaddN rfl ?_ | refine e_iadd rfl ?_
  refine e_callV (kd := 10) (M2 := m10_reads) rfl v10_242 ok10_reads (c10_reads (k := 0) hM (by omega) _) rfl hM.k rfl rfl rfl rfl (fun r1 h1 q1 => ?_)
  obtain ⟨rfl, rfl⟩ := q1
  refine e_goto (tgt := 501) rfl rfl ?_
  have LF := L3.st (c := 104) (i := 0) (v := nI ((pP s1).1 0 + 1)) (by omega) (by omega) (show 8 + 0 = hl 104 + 0 from rfl)
  have TF := T3.st (c := 104) (x := 8 + 0) (v := nI ((pP s1).1 0 + 1)) (by omega)
  refine kk _ _ _ _ _ LF.1 ?_
  unfold kiT
  rw [show bnd (.inr s1) (nnS f n 0 0) = nnS f n 0 0 s1 from rfl] at TF
  cases q1 : nnS f n 0 0 s1 with
  | inl e => rw [q1] at TF; exact ⟨TF, trivial⟩
  | inr s2 =>
    rw [q1] at TF
    rw [bnd_r]
    rw [show bnd (.inr s2) (nuS f n (nI 1) (nI 99)) = nuS f n (nI 1) (nI 99) s2 from rfl] at TF
    cases q2 : nuS f n (nI 1) (nI 99) s2 with
    | inl e => rw [q2] at TF; exact ⟨TF, trivial⟩
    | inr s3 =>
      rw [q2] at TF
      rw [bnd_r]
      rw [show bnd (.inr s3) (nuS f n (nI 0) (nI 9)) = nuS f n (nI 0) (nI 9) s3 from rfl] at TF
      cases q3 : nuS f n (nI 0) (nI 9) s3 with
      | inl e => rw [q3] at TF; exact ⟨TF, trivial⟩
      | inr s4 =>
        rw [q3] at TF
        rw [bnd_r]
        have y1 : x1 = pVa s1 := e1 s1 s2 rfl q1
        have z1 : (bnd (.inr s1 : PR) (nnS f n 0 0)) = .inr s2 := q1
        have y2 : x2 = pVa s2 := e2 s2 s3 z1 q2
        have z2 : (bnd (bnd (.inr s1 : PR) (nnS f n 0 0)) (nuS f n (nI 1) (nI 99))) = .inr s3 := by rw [z1]; exact q2
        have y3 : x3 = pVa s3 := e3 s3 s4 z2 q3
        have z3 : (bnd (bnd (bnd (.inr s1 : PR) (nnS f n 0 0)) (nuS f n (nI 1) (nI 99))) (nuS f n (nI 0) (nI 9))) = .inr s4 := by rw [z2]; exact q3
        have e2 : s4.2 = s1.2 := m3 _ z3
        have eP : pP s4 = pP s1 := congrArg Prod.fst e2
        rw [← y1, ← y2, ← y3, eP]
        exact LF.fin hz TF e2 (hP.ad0 (a := x1) (b := x2) (c := x3)) rfl (congrFun (ad_o (by omega)) 0)
theorem mline_tin (hM : MK K) (hX : TX I f n) {s1 : PSt} (hz : Mz I n (.inr s1)) (hc : (pP s1).1 1 < 8) (h06 : (pP s1).1 0 ≤ 6) (h18 : (pP s1).1 1 ≤ 8) {y : Int32} (kk : ∀ I' v2 v3 v4 v5, FL I I' → Mz I' n (tiT f n s1) → Gw l G (d + 8) m10_line 501 [.ref 102, .int y, v2, v3, v4, v5] [] (I', J, K) Q) : Gw l G (d + 8) m10_line 211 [.ref 102, .int y, .null, .null, .null, .null] [] (I, J, K) Q := by
  have hP := hz.2.1
  have n0 : upF I 104 0 = nI ((pP s1).1 0) := hP.1.1
  have n1 : upF I 104 1 = nI ((pP s1).1 1) := hP.1.2.1
  have n2 : upF I 104 2 = nI ((pP s1).1 2) := hP.1.2.2.1
  have n3 : upF I 104 3 = nI ((pP s1).1 3) := hP.1.2.2.2.1
  have L0 : LW I I (upF I) := LW.rf
  have T0 := hz.1
  have m0 : ∀ s, (.inr s1 : PR) = .inr s → s.2 = s1.2 := fun s e => by rw [Sum.inr.inj e]
  have f3 : I 104 (8 + 1) = nI ((pP s1).1 1) := by rw [L0.g 1]; exact n1
  refine e_bipush (v := nI 8) rfl bp_8N ?_
  refine e_aload_n rfl rfl ?_
  refine e_iconst (v := nI 1) rfl ic_1N ?_
  refine e_callVp (kd := 10) (M2 := m10_fresher) rfl v10_224 ok10_fresher (c10_fresher hM (by omega)) rfl hM.k rfl rfl rfl rfl ?_
  rw [f3]
  have f15 : I 104 (8 + 1) = nI ((pP s1).1 1) := by rw [L0.g 1]; exact n1
  first | refine e_iaddN rfl ?_ | refine e_iadd rfl ?_
  refine e_ist3 rfl rfl rfl ?_
  refine e_aload_n rfl rfl ?_
  refine e_getP rfl f10_25 hM.k rfl hM.p7 ?_
  refine e_iload_n rfl rfl ?_
  refine e_aload_n rfl rfl ?_
  refine e_aload_n rfl rfl ?_
  refine e_getP rfl f10_25 hM.k rfl hM.p7 ?_
  refine e_bipush (v := nI 8) rfl bp_8N ?_
  refine e_aload_n rfl rfl ?_
  refine e_iconst (v := nI 1) rfl ic_1N ?_
  refine e_callVp (kd := 10) (M2 := m10_fresher) rfl v10_224 ok10_fresher (c10_fresher hM (by omega)) rfl hM.k rfl rfl rfl rfl ?_
  rw [f15]
  have j0 : ∀ s, (.inr s1 : PR) = .inr s → fnd (fun q => I 108 (8 + q)) (pVa s) ((pP s1).1 1) 0 = fnd ((pP s).2 3) (pVa s) ((pP s).1 1) 0 := fun s e => by
    rw [show pP s = pP s1 from congrArg Prod.fst (m0 s e)]
    refine fnd_congr _ _ (fun q _ hq => ?_)
    have hq : q < (pP s1).1 1 := by omega
    refine (congrFun (L0.2.1 108 (by omega) (by omega)) q).trans ?_
    exact (hP.2.2.1 q hq).1
  refine e_callV (kd := 10) (M2 := m10_fresh) rfl v10_234 ok10_fresh (c10_fresh (j := 1) (b := 3) hM (hX.fl L0.1) T0 hM.a7 (by omega) (by omega) j0) rfl hM.k rfl rfl rfl rfl (fun r1 h1 q1 => ?_)
  obtain ⟨x1, rfl, I1, rfl, g1, T1', e1⟩ := q1
  first | refine e_iastoreN rfl hM.a7 (by omega) (by omega) ?_ | (refine e_iastore rfl hM.a7 ?_ ?_; rotate_left)
  have L1 := (L0.ft g1).st (c := 108) (i := (pP s1).1 1) (v := x1) (by omega) (by omega) (show 8 + (pP s1).1 1 = hl 108 + (pP s1).1 1 from rfl)
  have T1 := T1'.st (c := 108) (x := 8 + (pP s1).1 1) (v := x1) (by omega)
  have m1 := mv_1 m0 (fun s s' (h : (nnS f n 1 3) s = .inr s') => nn_2 h)
  have f27 : (u2 I1 108 (8 + (pP s1).1 1) x1) 104 (8 + 0) = nI ((pP s1).1 0) := by rw [L1.g 0]; simp (disch := omega) only [u2_ne]; exact n0
  refine e_aload_n rfl rfl ?_
  refine e_getP rfl f10_28 hM.k rfl hM.p8 ?_
  refine e_iload_n rfl rfl ?_
  refine e_aload_n rfl rfl ?_
  refine e_aload_n rfl rfl ?_
  refine e_getP rfl f10_16 hM.k rfl hM.p4 ?_
  refine e_bipush (v := nI 6) rfl bp_6N ?_
  refine e_aload_n rfl rfl ?_
  refine e_iconst (v := nI 0) rfl ic_0N ?_
  refine e_callVp (kd := 10) (M2 := m10_fresher) rfl v10_224 ok10_fresher (c10_fresher hM (by omega)) rfl hM.k rfl rfl rfl rfl ?_
  rw [f27]
  have j1 : ∀ s, (bnd (.inr s1 : PR) (nnS f n 1 3)) = .inr s → fnd (fun q => (u2 I1 108 (8 + (pP s1).1 1) x1) 105 (6 + q)) (pVa s) ((pP s1).1 0) 0 = fnd ((pP s).2 0) (pVa s) ((pP s).1 0) 0 := fun s e => by
    rw [show pP s = pP s1 from congrArg Prod.fst (m1 s e)]
    refine fnd_congr _ _ (fun q _ hq => ?_)
    have hq : q < (pP s1).1 0 := by omega
    refine (congrFun (L1.2.1 105 (by omega) (by omega)) q).trans ?_
    simp (disch := omega) only [u2_ne]
    exact (hP.2.1 q hq).1
  refine e_callV (kd := 10) (M2 := m10_toldAhead) rfl v10_246 ok10_toldAhead (c10_toldAhead (j := 0) (b := 0) hM (hX.fl L1.1) T1 hM.a4 (by omega) (by omega) j1) rfl hM.k rfl rfl rfl rfl (fun r1 h1 q1 => ?_)
  obtain ⟨x2, rfl, I2, rfl, g2, T2', e2⟩ := q1
  first | refine e_iastoreN rfl hM.a8 (by omega) (by omega) ?_ | (refine e_iastore rfl hM.a8 ?_ ?_; rotate_left)
  have L2 := (L1.ft g2).st (c := 109) (i := (pP s1).1 1) (v := x2) (by omega) (by omega) (show 8 + (pP s1).1 1 = hl 109 + (pP s1).1 1 from rfl)
  have T2 := T2'.st (c := 109) (x := 8 + (pP s1).1 1) (v := x2) (by omega)
  have m2 := mv_1 m1 (fun s s' (h : (tnS f n 0 0) s = .inr s') => tn_2 h)
  refine e_aload_n rfl rfl ?_
  refine e_getP rfl f10_31 hM.k rfl hM.p9 ?_
  refine e_iload_n rfl rfl ?_
  refine e_aload_n rfl rfl ?_
  refine e_iconst (v := nI 0) rfl ic_0N ?_
  refine e_bipush (v := nI 9) rfl bp_9N ?_
  refine e_callV (kd := 10) (M2 := m10_numeral) rfl v10_238 ok10_numeral (c10_numeral hM (hX.fl L2.1) T2 (by omega) (by omega)) rfl hM.k rfl rfl rfl rfl (fun r1 h1 q1 => ?_)
  obtain ⟨x3, rfl, I3, rfl, g3, T3', e3⟩ := q1
  first | refine e_iastoreN rfl hM.a9 (by omega) (by omega) ?_ | (refine e_iastore rfl hM.a9 ?_ ?_; rotate_left)
  have L3 := (L2.ft g3).st (c := 110) (i := (pP s1).1 1) (v := x3) (by omega) (by omega) (show 8 + (pP s1).1 1 = hl 110 + (pP s1).1 1 from rfl)
  have T3 := T3'.st (c := 110) (x := 8 + (pP s1).1 1) (v := x3) (by omega)
  have m3 := mv_1 m2 (fun s s' (h : (nuS f n (nI 0) (nI 9)) s = .inr s') => nu_2 h)
  refine e_aload_n rfl rfl ?_
  refine e_getP rfl f10_34 hM.k rfl hM.p10 ?_
  refine e_iload_n rfl rfl ?_
  refine e_aload_n rfl rfl ?_
  refine e_iconst (v := nI 1) rfl ic_1N ?_
  refine e_bipush (v := nI 99) rfl bp_99N ?_
  refine e_callV (kd := 10) (M2 := m10_numeral) rfl v10_238 ok10_numeral (c10_numeral hM (hX.fl L3.1) T3 (by omega) (by omega)) rfl hM.k rfl rfl rfl rfl (fun r1 h1 q1 => ?_)
  obtain ⟨x4, rfl, I4, rfl, g4, T4', e4⟩ := q1
  first | refine e_iastoreN rfl hM.a10 (by omega) (by omega) ?_ | (refine e_iastore rfl hM.a10 ?_ ?_; rotate_left)
  have L4 := (L3.ft g4).st (c := 111) (i := (pP s1).1 1) (v := x4) (by omega) (by omega) (show 8 + (pP s1).1 1 = hl 111 + (pP s1).1 1 from rfl)
  have T4 := T4'.st (c := 111) (x := 8 + (pP s1).1 1) (v := x4) (by omega)
  have m4 := mv_1 m3 (fun s s' (h : (nuS f n (nI 1) (nI 99)) s = .inr s') => nu_2 h)
  refine e_aload_n rfl rfl ?_
  refine e_getP rfl f10_37 hM.k rfl hM.p11 ?_
  refine e_iload_n rfl rfl ?_
  refine e_aload_n rfl rfl ?_
  refine e_iconst (v := nI 0) rfl ic_0N ?_
  refine e_iconst (v := nI 3) rfl ic_3N ?_
  refine e_callV (kd := 10) (M2 := m10_numeral) rfl v10_238 ok10_numeral (c10_numeral hM (hX.fl L4.1) T4 (by omega) (by omega)) rfl hM.k rfl rfl rfl rfl (fun r1 h1 q1 => ?_)
  obtain ⟨x5, rfl, I5, rfl, g5, T5', e5⟩ := q1
  first | refine e_iastoreN rfl hM.a11 (by omega) (by omega) ?_ | (refine e_iastore rfl hM.a11 ?_ ?_; rotate_left)
  have L5 := (L4.ft g5).st (c := 112) (i := (pP s1).1 1) (v := x5) (by omega) (by omega) (show 8 + (pP s1).1 1 = hl 112 + (pP s1).1 1 from rfl)
  have T5 := T5'.st (c := 112) (x := 8 + (pP s1).1 1) (v := x5) (by omega)
  have m5 := mv_1 m4 (fun s s' (h : (nuS f n (nI 0) (nI 3)) s = .inr s') => nu_2 h)
  have f58 : (u2 I5 112 (8 + (pP s1).1 1) x5) 104 (8 + 1) = nI ((pP s1).1 1) := by rw [L5.g 1]; simp (disch := omega) only [u2_ne]; exact n1
  refine e_aload_n rfl rfl ?_
  refine e_iconst (v := nI 1) rfl ic_1N ?_
  refine e_aload_n rfl rfl ?_
  refine e_iconst (v := nI 1) rfl ic_1N ?_
  refine e_callVp (kd := 10) (M2 := m10_fresher) rfl v10_224 ok10_fresher (c10_fresher hM (by omega)) rfl hM.k rfl rfl rfl rfl ?_
  rw [f58]
  refine e_iconst (v := nI 1) rfl ic_1N ?_
  first | refine e_iaddN rfl ?_ | refine e_iadd rfl ?_
  refine e_callV (kd := 10) (M2 := m10_reads) rfl v10_242 ok10_reads (c10_reads (k := 1) hM (by omega) _) rfl hM.k rfl rfl rfl rfl (fun r1 h1 q1 => ?_)
  obtain ⟨rfl, rfl⟩ := q1
  refine e_goto (tgt := 501) rfl rfl ?_
  have LF := L5.st (c := 104) (i := 1) (v := nI ((pP s1).1 1 + 1)) (by omega) (by omega) (show 8 + 1 = hl 104 + 1 from rfl)
  have TF := T5.st (c := 104) (x := 8 + 1) (v := nI ((pP s1).1 1 + 1)) (by omega)
  refine kk _ _ _ _ _ LF.1 ?_
  unfold tiT
  rw [show bnd (.inr s1) (nnS f n 1 3) = nnS f n 1 3 s1 from rfl] at TF
  cases q1 : nnS f n 1 3 s1 with
  | inl e => rw [q1] at TF; exact ⟨TF, trivial⟩
  | inr s2 =>
    rw [q1] at TF
    rw [bnd_r]
    rw [show bnd (.inr s2) (tnS f n 0 0) = tnS f n 0 0 s2 from rfl] at TF
    cases q2 : tnS f n 0 0 s2 with
    | inl e => rw [q2] at TF; exact ⟨TF, trivial⟩
    | inr s3 =>
      rw [q2] at TF
      rw [bnd_r]
      rw [show bnd (.inr s3) (nuS f n (nI 0) (nI 9)) = nuS f n (nI 0) (nI 9) s3 from rfl] at TF
      cases q3 : nuS f n (nI 0) (nI 9) s3 with
      | inl e => rw [q3] at TF; exact ⟨TF, trivial⟩
      | inr s4 =>
        rw [q3] at TF
        rw [bnd_r]
        rw [show bnd (.inr s4) (nuS f n (nI 1) (nI 99)) = nuS f n (nI 1) (nI 99) s4 from rfl] at TF
        cases q4 : nuS f n (nI 1) (nI 99) s4 with
        | inl e => rw [q4] at TF; exact ⟨TF, trivial⟩
        | inr s5 =>
          rw [q4] at TF
          rw [bnd_r]
          rw [show bnd (.inr s5) (nuS f n (nI 0) (nI 3)) = nuS f n (nI 0) (nI 3) s5 from rfl] at TF
          cases q5 : nuS f n (nI 0) (nI 3) s5 with
          | inl e => rw [q5] at TF; exact ⟨TF, trivial⟩
          | inr s6 =>
            rw [q5] at TF
            rw [bnd_r]
            have y1 : x1 = pVa s1 := e1 s1 s2 rfl q1
            have z1 : (bnd (.inr s1 : PR) (nnS f n 1 3)) = .inr s2 := q1
            have y2 : x2 = fdS s2 0 0 := e2 s2 s3 z1 q2
            have z2 : (bnd (bnd (.inr s1 : PR) (nnS f n 1 3)) (tnS f n 0 0)) = .inr s3 := by rw [z1]; exact q2
            have y3 : x3 = pVa s3 := e3 s3 s4 z2 q3
            have z3 : (bnd (bnd (bnd (.inr s1 : PR) (nnS f n 1 3)) (tnS f n 0 0)) (nuS f n (nI 0) (nI 9))) = .inr s4 := by rw [z2]; exact q3
            have y4 : x4 = pVa s4 := e4 s4 s5 z3 q4
            have z4 : (bnd (bnd (bnd (bnd (.inr s1 : PR) (nnS f n 1 3)) (tnS f n 0 0)) (nuS f n (nI 0) (nI 9))) (nuS f n (nI 1) (nI 99))) = .inr s5 := by rw [z3]; exact q4
            have y5 : x5 = pVa s5 := e5 s5 s6 z4 q5
            have z5 : (bnd (bnd (bnd (bnd (bnd (.inr s1 : PR) (nnS f n 1 3)) (tnS f n 0 0)) (nuS f n (nI 0) (nI 9))) (nuS f n (nI 1) (nI 99))) (nuS f n (nI 0) (nI 3))) = .inr s6 := by rw [z4]; exact q5
            have e2 : s6.2 = s1.2 := m5 _ z5
            have eP : pP s6 = pP s1 := congrArg Prod.fst e2
            rw [← y1, ← y2, ← y3, ← y4, ← y5, eP]
            exact LF.fin hz TF e2 (hP.ad1 (a := x1) (b := x2) (c := x3) (e := x4) (g := x5)) rfl (congrFun (ad_o (by omega)) 0)
theorem mline_open (hM : MK K) (hX : TX I f n) {s1 : PSt} (hz : Mz I n (.inr s1)) (hc : (pP s1).1 2 < 10) (h06 : (pP s1).1 0 ≤ 6) (h18 : (pP s1).1 1 ≤ 8) {y : Int32} (kk : ∀ I' v2 v3 v4 v5, FL I I' → Mz I' n (opT f n s1) → Gw l G (d + 8) m10_line 501 [.ref 102, .int y, v2, v3, v4, v5] [] (I', J, K) Q) : Gw l G (d + 8) m10_line 315 [.ref 102, .int y, .null, .null, .null, .null] [] (I, J, K) Q := by
  have hP := hz.2.1
  have n0 : upF I 104 0 = nI ((pP s1).1 0) := hP.1.1
  have n1 : upF I 104 1 = nI ((pP s1).1 1) := hP.1.2.1
  have n2 : upF I 104 2 = nI ((pP s1).1 2) := hP.1.2.2.1
  have n3 : upF I 104 3 = nI ((pP s1).1 3) := hP.1.2.2.2.1
  have L0 : LW I I (upF I) := LW.rf
  have T0 := hz.1
  have m0 : ∀ s, (.inr s1 : PR) = .inr s → s.2 = s1.2 := fun s e => by rw [Sum.inr.inj e]
  have f3 : I 104 (8 + 2) = nI ((pP s1).1 2) := by rw [L0.g 2]; exact n2
  refine e_bipush (v := nI 10) rfl bp_10N ?_
  refine e_aload_n rfl rfl ?_
  refine e_iconst (v := nI 2) rfl ic_2N ?_
  refine e_callVp (kd := 10) (M2 := m10_fresher) rfl v10_224 ok10_fresher (c10_fresher hM (by omega)) rfl hM.k rfl rfl rfl rfl ?_
  rw [f3]
  have f15 : I 104 (8 + 1) = nI ((pP s1).1 1) := by rw [L0.g 1]; exact n1
  first | refine e_iaddN rfl ?_ | refine e_iadd rfl ?_
  refine e_ist4 rfl rfl rfl ?_
  refine e_aload_n rfl rfl ?_
  refine e_getP rfl f10_40 hM.k rfl hM.p12 ?_
  refine e_iload rfl rfl ?_
  refine e_aload_n rfl rfl ?_
  refine e_aload_n rfl rfl ?_
  refine e_getP rfl f10_25 hM.k rfl hM.p7 ?_
  refine e_bipush (v := nI 8) rfl bp_8N ?_
  refine e_aload_n rfl rfl ?_
  refine e_iconst (v := nI 1) rfl ic_1N ?_
  refine e_callVp (kd := 10) (M2 := m10_fresher) rfl v10_224 ok10_fresher (c10_fresher hM (by omega)) rfl hM.k rfl rfl rfl rfl ?_
  rw [f15]
  have j0 : ∀ s, (.inr s1 : PR) = .inr s → fnd (fun q => I 108 (8 + q)) (pVa s) ((pP s1).1 1) 0 = fnd ((pP s).2 3) (pVa s) ((pP s).1 1) 0 := fun s e => by
    rw [show pP s = pP s1 from congrArg Prod.fst (m0 s e)]
    refine fnd_congr _ _ (fun q _ hq => ?_)
    have hq : q < (pP s1).1 1 := by omega
    refine (congrFun (L0.2.1 108 (by omega) (by omega)) q).trans ?_
    exact (hP.2.2.1 q hq).1
  refine e_callV (kd := 10) (M2 := m10_toldAhead) rfl v10_246 ok10_toldAhead (c10_toldAhead (j := 1) (b := 3) hM (hX.fl L0.1) T0 hM.a7 (by omega) (by omega) j0) rfl hM.k rfl rfl rfl rfl (fun r1 h1 q1 => ?_)
  obtain ⟨x1, rfl, I1, rfl, g1, T1', e1⟩ := q1
  first | refine e_iastoreN rfl hM.a12 (by omega) (by omega) ?_ | (refine e_iastore rfl hM.a12 ?_ ?_; rotate_left)
  have L1 := (L0.ft g1).st (c := 113) (i := (pP s1).1 2) (v := x1) (by omega) (by omega) (show 10 + (pP s1).1 2 = hl 113 + (pP s1).1 2 from rfl)
  have T1 := T1'.st (c := 113) (x := 10 + (pP s1).1 2) (v := x1) (by omega)
  have m1 := mv_1 m0 (fun s s' (h : (tnS f n 1 3) s = .inr s') => tn_2 h)
  refine e_aload_n rfl rfl ?_
  refine e_getP rfl f10_43 hM.k rfl hM.p13 ?_
  refine e_iload rfl rfl ?_
  refine e_aload_n rfl rfl ?_
  refine e_iconst (v := nI 0) rfl ic_0N ?_
  refine e_bipush (v := nI 99) rfl bp_99N ?_
  refine e_callV (kd := 10) (M2 := m10_numeral) rfl v10_238 ok10_numeral (c10_numeral hM (hX.fl L1.1) T1 (by omega) (by omega)) rfl hM.k rfl rfl rfl rfl (fun r1 h1 q1 => ?_)
  obtain ⟨x2, rfl, I2, rfl, g2, T2', e2⟩ := q1
  first | refine e_iastoreN rfl hM.a13 (by omega) (by omega) ?_ | (refine e_iastore rfl hM.a13 ?_ ?_; rotate_left)
  have L2 := (L1.ft g2).st (c := 114) (i := (pP s1).1 2) (v := x2) (by omega) (by omega) (show 10 + (pP s1).1 2 = hl 114 + (pP s1).1 2 from rfl)
  have T2 := T2'.st (c := 114) (x := 10 + (pP s1).1 2) (v := x2) (by omega)
  have m2 := mv_1 m1 (fun s s' (h : (nuS f n (nI 0) (nI 99)) s = .inr s') => nu_2 h)
  have f30 : (u2 I2 114 (10 + (pP s1).1 2) x2) 104 (8 + 2) = nI ((pP s1).1 2) := by rw [L2.g 2]; simp (disch := omega) only [u2_ne]; exact n2
  refine e_aload_n rfl rfl ?_
  refine e_iconst (v := nI 2) rfl ic_2N ?_
  refine e_aload_n rfl rfl ?_
  refine e_iconst (v := nI 2) rfl ic_2N ?_
  refine e_callVp (kd := 10) (M2 := m10_fresher) rfl v10_224 ok10_fresher (c10_fresher hM (by omega)) rfl hM.k rfl rfl rfl rfl ?_
  rw [f30]
  refine e_iconst (v := nI 1) rfl ic_1N ?_
  first | refine e_iaddN rfl ?_ | refine e_iadd rfl ?_
  refine e_callV (kd := 10) (M2 := m10_reads) rfl v10_242 ok10_reads (c10_reads (k := 2) hM (by omega) _) rfl hM.k rfl rfl rfl rfl (fun r1 h1 q1 => ?_)
  obtain ⟨rfl, rfl⟩ := q1
  refine e_goto (tgt := 501) rfl rfl ?_
  have LF := L2.st (c := 104) (i := 2) (v := nI ((pP s1).1 2 + 1)) (by omega) (by omega) (show 8 + 2 = hl 104 + 2 from rfl)
  have TF := T2.st (c := 104) (x := 8 + 2) (v := nI ((pP s1).1 2 + 1)) (by omega)
  refine kk _ _ _ _ _ LF.1 ?_
  unfold opT
  rw [show bnd (.inr s1) (tnS f n 1 3) = tnS f n 1 3 s1 from rfl] at TF
  cases q1 : tnS f n 1 3 s1 with
  | inl e => rw [q1] at TF; exact ⟨TF, trivial⟩
  | inr s2 =>
    rw [q1] at TF
    rw [bnd_r]
    rw [show bnd (.inr s2) (nuS f n (nI 0) (nI 99)) = nuS f n (nI 0) (nI 99) s2 from rfl] at TF
    cases q2 : nuS f n (nI 0) (nI 99) s2 with
    | inl e => rw [q2] at TF; exact ⟨TF, trivial⟩
    | inr s3 =>
      rw [q2] at TF
      rw [bnd_r]
      have y1 : x1 = fdS s1 1 3 := e1 s1 s2 rfl q1
      have z1 : (bnd (.inr s1 : PR) (tnS f n 1 3)) = .inr s2 := q1
      have y2 : x2 = pVa s2 := e2 s2 s3 z1 q2
      have z2 : (bnd (bnd (.inr s1 : PR) (tnS f n 1 3)) (nuS f n (nI 0) (nI 99))) = .inr s3 := by rw [z1]; exact q2
      have e2 : s3.2 = s1.2 := m2 _ z2
      have eP : pP s3 = pP s1 := congrArg Prod.fst e2
      rw [← y1, ← y2, eP]
      exact LF.fin hz TF e2 ((hP.ad2 (a := x1) (b := x2)).mx (v := x2) (by omega)) rfl (mx_16.trans (congrFun (ad_o (by omega)) 0))
theorem mline_want (hM : MK K) (hX : TX I f n) {s1 : PSt} (hz : Mz I n (.inr s1)) (hc : (pP s1).1 3 < 8) (h06 : (pP s1).1 0 ≤ 6) (h18 : (pP s1).1 1 ≤ 8) {y : Int32} (kk : ∀ I' v2 v3 v4 v5, FL I I' → Mz I' n (waT f n s1) → Gw l G (d + 8) m10_line 501 [.ref 102, .int y, v2, v3, v4, v5] [] (I', J, K) Q) : Gw l G (d + 8) m10_line 376 [.ref 102, .int y, .null, .null, .null, .null] [] (I, J, K) Q := by
  have hP := hz.2.1
  have n0 : upF I 104 0 = nI ((pP s1).1 0) := hP.1.1
  have n1 : upF I 104 1 = nI ((pP s1).1 1) := hP.1.2.1
  have n2 : upF I 104 2 = nI ((pP s1).1 2) := hP.1.2.2.1
  have n3 : upF I 104 3 = nI ((pP s1).1 3) := hP.1.2.2.2.1
  have L0 : LW I I (upF I) := LW.rf
  have T0 := hz.1
  have m0 : ∀ s, (.inr s1 : PR) = .inr s → s.2 = s1.2 := fun s e => by rw [Sum.inr.inj e]
  have f3 : I 104 (8 + 3) = nI ((pP s1).1 3) := by rw [L0.g 3]; exact n3
  refine e_bipush (v := nI 8) rfl bp_8N ?_
  refine e_aload_n rfl rfl ?_
  refine e_iconst (v := nI 3) rfl ic_3N ?_
  refine e_callVp (kd := 10) (M2 := m10_fresher) rfl v10_224 ok10_fresher (c10_fresher hM (by omega)) rfl hM.k rfl rfl rfl rfl ?_
  rw [f3]
  have f15 : I 104 (8 + 0) = nI ((pP s1).1 0) := by rw [L0.g 0]; exact n0
  first | refine e_iaddN rfl ?_ | refine e_iadd rfl ?_
  refine e_ist5 rfl rfl rfl ?_
  refine e_aload_n rfl rfl ?_
  refine e_getP rfl f10_46 hM.k rfl hM.p14 ?_
  refine e_iload rfl rfl ?_
  refine e_aload_n rfl rfl ?_
  refine e_aload_n rfl rfl ?_
  refine e_getP rfl f10_16 hM.k rfl hM.p4 ?_
  refine e_bipush (v := nI 6) rfl bp_6N ?_
  refine e_aload_n rfl rfl ?_
  refine e_iconst (v := nI 0) rfl ic_0N ?_
  refine e_callVp (kd := 10) (M2 := m10_fresher) rfl v10_224 ok10_fresher (c10_fresher hM (by omega)) rfl hM.k rfl rfl rfl rfl ?_
  rw [f15]
  have j0 : ∀ s, (.inr s1 : PR) = .inr s → fnd (fun q => I 105 (6 + q)) (pVa s) ((pP s1).1 0) 0 = fnd ((pP s).2 0) (pVa s) ((pP s).1 0) 0 := fun s e => by
    rw [show pP s = pP s1 from congrArg Prod.fst (m0 s e)]
    refine fnd_congr _ _ (fun q _ hq => ?_)
    have hq : q < (pP s1).1 0 := by omega
    refine (congrFun (L0.2.1 105 (by omega) (by omega)) q).trans ?_
    exact (hP.2.1 q hq).1
  refine e_callV (kd := 10) (M2 := m10_toldAhead) rfl v10_246 ok10_toldAhead (c10_toldAhead (j := 0) (b := 0) hM (hX.fl L0.1) T0 hM.a4 (by omega) (by omega) j0) rfl hM.k rfl rfl rfl rfl (fun r1 h1 q1 => ?_)
  obtain ⟨x1, rfl, I1, rfl, g1, T1', e1⟩ := q1
  first | refine e_iastoreN rfl hM.a14 (by omega) (by omega) ?_ | (refine e_iastore rfl hM.a14 ?_ ?_; rotate_left)
  have L1 := (L0.ft g1).st (c := 115) (i := (pP s1).1 3) (v := x1) (by omega) (by omega) (show 8 + (pP s1).1 3 = hl 115 + (pP s1).1 3 from rfl)
  have T1 := T1'.st (c := 115) (x := 8 + (pP s1).1 3) (v := x1) (by omega)
  have m1 := mv_1 m0 (fun s s' (h : (tnS f n 0 0) s = .inr s') => tn_2 h)
  refine e_aload_n rfl rfl ?_
  refine e_getP rfl f10_49 hM.k rfl hM.p15 ?_
  refine e_iload rfl rfl ?_
  refine e_aload_n rfl rfl ?_
  refine e_iconst (v := nI 0) rfl ic_0N ?_
  refine e_bipush (v := nI 99) rfl bp_99N ?_
  refine e_callV (kd := 10) (M2 := m10_numeral) rfl v10_238 ok10_numeral (c10_numeral hM (hX.fl L1.1) T1 (by omega) (by omega)) rfl hM.k rfl rfl rfl rfl (fun r1 h1 q1 => ?_)
  obtain ⟨x2, rfl, I2, rfl, g2, T2', e2⟩ := q1
  first | refine e_iastoreN rfl hM.a15 (by omega) (by omega) ?_ | (refine e_iastore rfl hM.a15 ?_ ?_; rotate_left)
  have L2 := (L1.ft g2).st (c := 116) (i := (pP s1).1 3) (v := x2) (by omega) (by omega) (show 8 + (pP s1).1 3 = hl 116 + (pP s1).1 3 from rfl)
  have T2 := T2'.st (c := 116) (x := 8 + (pP s1).1 3) (v := x2) (by omega)
  have m2 := mv_1 m1 (fun s s' (h : (nuS f n (nI 0) (nI 99)) s = .inr s') => nu_2 h)
  refine e_aload_n rfl rfl ?_
  refine e_getP rfl f10_52 hM.k rfl hM.p16 ?_
  refine e_iload rfl rfl ?_
  refine e_aload_n rfl rfl ?_
  refine e_iconst (v := nI 1) rfl ic_1N ?_
  refine e_bipush (v := nI 99) rfl bp_99N ?_
  refine e_callV (kd := 10) (M2 := m10_numeral) rfl v10_238 ok10_numeral (c10_numeral hM (hX.fl L2.1) T2 (by omega) (by omega)) rfl hM.k rfl rfl rfl rfl (fun r1 h1 q1 => ?_)
  obtain ⟨x3, rfl, I3, rfl, g3, T3', e3⟩ := q1
  first | refine e_iastoreN rfl hM.a16 (by omega) (by omega) ?_ | (refine e_iastore rfl hM.a16 ?_ ?_; rotate_left)
  have L3 := (L2.ft g3).st (c := 117) (i := (pP s1).1 3) (v := x3) (by omega) (by omega) (show 8 + (pP s1).1 3 = hl 117 + (pP s1).1 3 from rfl)
  have T3 := T3'.st (c := 117) (x := 8 + (pP s1).1 3) (v := x3) (by omega)
  have m3 := mv_1 m2 (fun s s' (h : (nuS f n (nI 1) (nI 99)) s = .inr s') => nu_2 h)
  have f38 : (u2 I3 117 (8 + (pP s1).1 3) x3) 104 (8 + 3) = nI ((pP s1).1 3) := by rw [L3.g 3]; simp (disch := omega) only [u2_ne]; exact n3
  refine e_aload_n rfl rfl ?_
  refine e_iconst (v := nI 3) rfl ic_3N ?_
  refine e_aload_n rfl rfl ?_
  refine e_iconst (v := nI 3) rfl ic_3N ?_
  refine e_callVp (kd := 10) (M2 := m10_fresher) rfl v10_224 ok10_fresher (c10_fresher hM (by omega)) rfl hM.k rfl rfl rfl rfl ?_
  rw [f38]
  refine e_iconst (v := nI 1) rfl ic_1N ?_
  first | refine e_iaddN rfl ?_ | refine e_iadd rfl ?_
  refine e_callV (kd := 10) (M2 := m10_reads) rfl v10_242 ok10_reads (c10_reads (k := 3) hM (by omega) _) rfl hM.k rfl rfl rfl rfl (fun r1 h1 q1 => ?_)
  obtain ⟨rfl, rfl⟩ := q1
  refine e_goto (tgt := 501) rfl rfl ?_
  have LF := L3.st (c := 104) (i := 3) (v := nI ((pP s1).1 3 + 1)) (by omega) (by omega) (show 8 + 3 = hl 104 + 3 from rfl)
  have TF := T3.st (c := 104) (x := 8 + 3) (v := nI ((pP s1).1 3 + 1)) (by omega)
  refine kk _ _ _ _ _ LF.1 ?_
  unfold waT
  rw [show bnd (.inr s1) (tnS f n 0 0) = tnS f n 0 0 s1 from rfl] at TF
  cases q1 : tnS f n 0 0 s1 with
  | inl e => rw [q1] at TF; exact ⟨TF, trivial⟩
  | inr s2 =>
    rw [q1] at TF
    rw [bnd_r]
    rw [show bnd (.inr s2) (nuS f n (nI 0) (nI 99)) = nuS f n (nI 0) (nI 99) s2 from rfl] at TF
    cases q2 : nuS f n (nI 0) (nI 99) s2 with
    | inl e => rw [q2] at TF; exact ⟨TF, trivial⟩
    | inr s3 =>
      rw [q2] at TF
      rw [bnd_r]
      rw [show bnd (.inr s3) (nuS f n (nI 1) (nI 99)) = nuS f n (nI 1) (nI 99) s3 from rfl] at TF
      cases q3 : nuS f n (nI 1) (nI 99) s3 with
      | inl e => rw [q3] at TF; exact ⟨TF, trivial⟩
      | inr s4 =>
        rw [q3] at TF
        rw [bnd_r]
        have y1 : x1 = fdS s1 0 0 := e1 s1 s2 rfl q1
        have z1 : (bnd (.inr s1 : PR) (tnS f n 0 0)) = .inr s2 := q1
        have y2 : x2 = pVa s2 := e2 s2 s3 z1 q2
        have z2 : (bnd (bnd (.inr s1 : PR) (tnS f n 0 0)) (nuS f n (nI 0) (nI 99))) = .inr s3 := by rw [z1]; exact q2
        have y3 : x3 = pVa s3 := e3 s3 s4 z2 q3
        have z3 : (bnd (bnd (bnd (.inr s1 : PR) (tnS f n 0 0)) (nuS f n (nI 0) (nI 99))) (nuS f n (nI 1) (nI 99))) = .inr s4 := by rw [z2]; exact q3
        have e2 : s4.2 = s1.2 := m3 _ z3
        have eP : pP s4 = pP s1 := congrArg Prod.fst e2
        rw [← y1, ← y2, ← y3, eP]
        exact LF.fin hz TF e2 ((hP.ad3 (a := x1) (b := x2) (c := x3)).mx (v := x2) (by omega)) rfl (mx_16.trans (congrFun (ad_o (by omega)) 0))
end MLines
