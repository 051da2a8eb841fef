/-! ===== Days: rust, a whole DAY ===== -/
theorem l_and31 (z : Int64) : ∃ k, k < 2 ^ 31 ∧ z &&& 2147483647 = lN k := by
  refine ⟨(z &&& 2147483647).toBitVec.toNat, ?_, ?_⟩
  · rw [Int64.toBitVec_and, BitVec.toNat_and]
    exact Nat.lt_of_le_of_lt Nat.and_le_right (by decide)
  · unfold lN
    apply Int64.toBitVec_inj.mp
    simp
theorem nxt_32 (z : Int64) : nxt z = (nxt z).toInt32.toInt64 := by
  obtain ⟨k, hk, e⟩ := l_and31 (z * 1103515245 + 12345)
  unfold nxt
  rw [e, lN_i, nI_l hk]
section MPass
variable {l : Launch} {G : GG} {d : Nat} {I : IM} {J : JM} {K : Kt} {Q : Option Value → Hp → Prop} {D p s n : Nat} {P : Pl} {S : SM} {h : Hp} {dr : Bool}
theorem lawP_none (hz : bitOf (P.2 16 0) (nI 2) = false) (nm : Nat → Int32) : lawP P 2 nm = MINL := by rw [lawP, lawV, if_neg (by rw [hz]; decide)]
theorem ru1_skip (hz : bitOf (P.2 16 0) (nI 2) = false) (hr : P.2 20 1 < (if dr = true then nI 1 else nI 50)) (hj : ∃ j, j ≤ 100 ∧ P.2 20 1 = nI j) (t : Nat) : ru1 P dr S t = S := by
  have eo : odds P S t = P.2 20 1 := by rw [odds, lawP_none hz, wn, if_pos rfl]
  rw [ru1, eo]
  cases dr with
  | false =>
    have e : rsB false S (P.2 20 1) = (false, S) := by
      have hr2 : P.2 20 1 < nI 50 := hr
      rw [rsB, if_pos rfl, decide_eq_false (Int32.not_le.mpr hr2)]
    rw [e]
    split <;> rfl
  | true =>
    obtain ⟨j, hj, ej⟩ := hj
    have hj0 : j = 0 := by
      rw [ej] at hr
      have := (nI_ltI (by omega) (by omega)).mp hr
      omega
    have e : rsB true S (P.2 20 1) = (false, S) := by
      rw [rsB, if_neg (by decide), ej, hj0, if_pos (Or.inl (show nI 0 = 0 by decide)), decide_eq_false (by decide)]
    rw [e]
    split <;> rfl
theorem ruS_skip (hz : bitOf (P.2 16 0) (nI 2) = false) (hr : P.2 20 1 < (if dr = true then nI 1 else nI 50)) (hj : ∃ j, j ≤ 100 ∧ P.2 20 1 = nI j) : ∀ k i, ruS P dr i k S = S
  | 0, _ => rfl
  | k + 1, i => by rw [ruS, ru1_skip hz hr hj, ruS_skip hz hr hj k (i + 1)]
set_option maxHeartbeats 2000000 in
theorem rust_loop (hH : HD K D p s) (hW : wfP P) (hn : P.1 1 = n) : ∀ k i I J S v4 v5, i + k = n → RP I p P → RC I J s n S → I D 2 = bI dr → (∀ I' J', FD I J I' J' D p s → RC I' J' s n (ruS P dr i k S) → Q none (I', J', K)) → Gw l G (d + 3) m0_rust 42 [.ref D, .ref s, .int (bI (bitOf (P.2 16 0) (nI 2))), .int (nI i), v4, v5] [] (I, J, K) Q := by
  have hH2 := hH
  obtain ⟨⟨h0, d0, d1, d7⟩, hP, hS, hdp, hds⟩ := hH2
  have hP2 := hP
  obtain ⟨h3, q0, q1, q2, q3, q4, r1, r2, r3, r4, r5⟩ := hP2
  have hS2 := hS
  obtain ⟨h6, p0, p1, p2, p3, p4, p5, p6, a1, a2, a3, a4, a5, a6, a7⟩ := hS2
  have g5 := r5.1
  intro k
  induction k with
  | zero =>
    intro i I J S v4 v5 hi hR hC hdr hq
    have hn7 := hC.1
    have hn8 := hC.2.1
    refine e_iload_n rfl rfl ?_
    refine e_aload_n rfl rfl ?_
    refine e_getI rfl f0_144 (by assumption) rfl ?_
    rw [hn7]
    first | refine e_icmp_geN (tgt := 137) rfl rfl (by omega) (by omega) (fun z => ?_) (fun z => ?_) | refine e_icmp_ge (tgt := 137) rfl rfl (fun z => ?_) (fun z => ?_)
    · refine e_return rfl rfl ?_
      exact hq I J FD.rf hC
    · omega
  | succ k ih =>
    intro i I J S v4 v5 hi hR hC hdr hq
    have hn7 := hC.1
    have hn8 := hC.2.1
    have e0 : I (s + 1) i = S 0 i := (hC.2.2.1 i (by omega)).1
    have goon : ∀ I1 J1 v4 v5, FD I J I1 J1 D p s → RC I1 J1 s n (ru1 P dr S i) → Gw l G (d + 3) m0_rust 131 [.ref D, .ref s, .int (bI (bitOf (P.2 16 0) (nI 2))), .int (nI i), v4, v5] [] (I1, J1, K) Q := by
      intro I1 J1 v4 v5 hf hC1
      rw [ruS] at hq
      first | refine e_inc3 rfl rfl rfl (incN1 _) ?_ | refine e_inc3 rfl rfl rfl rfl ?_
      refine e_goto (tgt := 42) rfl rfl ?_
      exact ih (i + 1) I1 J1 _ _ _ (by omega) (hf.rp hdp hds hR) hC1 (by rw [hf.1 D (by omega) (by omega)]; exact hdr) (fun I' J' f2 c2 => hq I' J' (hf.tr f2) c2)
    have main : S 0 i = 0 → ∀ I1 J1 v4 v5, FD I J I1 J1 D p s → RC I1 J1 s n S → Gw l G (d + 3) m0_rust 87 [.ref D, .ref s, .int (bI (bitOf (P.2 16 0) (nI 2))), .int (nI i), v4, v5] [.long (lawP P 2 (nmS P S i 0))] (I1, J1, K) Q := by
      intro hcl I1 J1 v4 v5 hf hC1
      have hR1 := hf.rp hdp hds hR
      have k6 : I1 p 6 = P.2 20 1 := hR1.2.2.2.2.2.2.2.2.2.2.2.2.2.1
      have hdr1 : I1 D 2 = bI dr := by rw [hf.1 D (by omega) (by omega)]; exact hdr
      have e1 : I1 (s + 2) i = S 1 i := (hC1.2.2.1 i (by omega)).2.1
      refine e_lst4 rfl rfl rfl ?_
      refine e_aload_n rfl rfl ?_
      refine e_aload_n rfl rfl ?_
      refine e_lload rfl rfl ?_
      refine e_iconst (v := nI 0) rfl ic_0N ?_
      refine e_bipush (v := nI 100) rfl bp_100N ?_
      refine e_aload_n rfl rfl ?_
      refine e_getP rfl f0_15 (by assumption) rfl (by assumption) ?_
      refine e_getI rfl f0_151 (by assumption) rfl ?_
      rw [k6]
      refine e_callSp (M2 := m0_within) rfl v0_116 ok0_within (c0_within _ _ _ _) rfl rfl rfl ?_
      refine e_callV (kd := 0) (M2 := m0_rusts) rfl v0_155 ok0_rusts (c0_rusts (S := S) h0 h6 hdr1 hC1.2.2.2.2.2.2 _) rfl (by assumption) rfl rfl rfl rfl (fun r1 h1 q1 => ?_)
      obtain ⟨rfl, rfl⟩ := q1
      have eo : wn (lawP P 2 (nmS P S i 0)) (nI 0) (nI 100) (P.2 20 1) = odds P S i := rfl
      rw [eo]
      obtain ⟨J2, eJ⟩ : ∃ J2, J2 = (if dr = false ∨ (odds P S i = 0 ∨ odds P S i = nI 100) then J1 else u2 J1 s 14 (nxt (S 14 0).toInt64)) := ⟨_, rfl⟩
      rw [← eJ]
      have hC2 : RC I1 J2 s n (rsB dr S (odds P S i)).2 := by
        by_cases hc : dr = false ∨ (odds P S i = 0 ∨ odds P S i = nI 100)
        · rw [if_pos hc] at eJ
          have e2 : (rsB dr S (odds P S i)).2 = S := by
            unfold rsB
            by_cases c1 : dr = false
            · rw [if_pos c1]
            · rw [if_neg c1, if_pos (hc.resolve_left c1)]
          rw [eJ, e2]
          exact hC1
        · rw [if_neg hc] at eJ
          have e2 : (rsB dr S (odds P S i)).2 = u2 S 14 0 (nx32 (S 14 0)) := by
            unfold rsB
            rw [if_neg (fun q => hc (Or.inl q)), if_neg (fun q => hc (Or.inr q))]
          rw [eJ, e2]
          exact hC1.up14 (nxt_32 _)
      have fJ : ∀ c, c ≠ p + 26 → c ≠ s → J2 c = J1 c := by
        intro c _ h2
        rw [eJ]
        split
        · rfl
        · exact u2_row _ _ h2
      have f2 : FD I J I1 J2 D p s := hf.tr ⟨fun _ _ _ => rfl, fJ, rfl, rfl⟩
      first | refine e_if_eqB (tgt := 131) rfl rfl (fun z => ?_) (fun z => ?_) | refine e_if_eqN (tgt := 131) rfl rfl (by omega) (fun z => ?_) (fun z => ?_) | refine e_if_eq (tgt := 131) rfl rfl (fun z => ?_) (fun z => ?_)
      · refine goon _ _ _ _ f2 ?_
        rw [ru1, if_pos hcl, if_neg (by rw [z]; decide)]
        exact hC2
      · refine e_aload_n rfl rfl ?_
        refine e_getP rfl f0_159 (by assumption) rfl (by assumption) ?_
        refine e_iload_n rfl rfl ?_
        refine e_bipush (v := nI 10) rfl bp_10N ?_
        refine e_aload_n rfl rfl ?_
        refine e_getP rfl f0_159 (by assumption) rfl (by assumption) ?_
        refine e_iload_n rfl rfl ?_
        first | refine e_ialoadN rfl (by assumption) (by omega) (by omega) ?_ | (refine e_iaload rfl (by assumption) ?_ ?_; rotate_left)
        rw [e1]
        refine e_iconst (v := nI 1) rfl ic_1N ?_
        refine e_iadd rfl ?_
        refine e_min rfl v0_162 rfl ?_
        first | refine e_iastoreN rfl (by assumption) (by omega) (by omega) ?_ | (refine e_iastore rfl (by assumption) ?_ ?_; rotate_left)
        refine goon _ _ _ _ (f2.tr ⟨fun c h1 h2 => u2_row _ _ (by omega), fun _ _ _ => rfl, u2_row _ _ (by omega), u2_row _ _ (by omega)⟩) ?_
        rw [ru1, if_pos hcl, if_pos z]
        exact hC2.up1 (by omega) _
    refine e_iload_n rfl rfl ?_
    refine e_aload_n rfl rfl ?_
    refine e_getI rfl f0_144 (by assumption) rfl ?_
    rw [hn7]
    first | refine e_icmp_geN (tgt := 137) rfl rfl (by omega) (by omega) (fun z => ?_) (fun z => ?_) | refine e_icmp_ge (tgt := 137) rfl rfl (fun z => ?_) (fun z => ?_)
    · omega
    · refine e_aload_n rfl rfl ?_
      refine e_getP rfl f0_96 (by assumption) rfl (by assumption) ?_
      refine e_iload_n rfl rfl ?_
      first | refine e_ialoadN rfl (by assumption) (by omega) (by omega) ?_ | (refine e_iaload rfl (by assumption) ?_ ?_; rotate_left)
      rw [e0]
      first | refine e_if_neB (tgt := 131) rfl rfl (fun z => ?_) (fun z => ?_) | refine e_if_neN (tgt := 131) rfl rfl (by omega) (fun z => ?_) (fun z => ?_) | refine e_if_ne (tgt := 131) rfl rfl (fun z => ?_) (fun z => ?_)
      · have hno : ¬ S 0 i = 0 := by assumption
        exact goon I J _ _ FD.rf (by rw [ru1, if_neg hno]; exact hC)
      · have hcl : S 0 i = 0 := by assumption
        refine e_iload_n rfl rfl ?_
        first | refine e_if_eqB (tgt := 84) rfl rfl (fun z => ?_) (fun z => ?_) | refine e_if_eqN (tgt := 84) rfl rfl (by omega) (fun z => ?_) (fun z => ?_) | refine e_if_eq (tgt := 84) rfl rfl (fun z => ?_) (fun z => ?_)
        · have hz : bitOf (P.2 16 0) (nI 2) = false := by assumption
          refine e_ldc2 rfl k0_153 ?_
          have h9 := main hcl I J v4 v5 FD.rf hC
          rw [lawP_none hz] at h9
          exact h9
        · refine e_aload_n rfl rfl ?_
          refine e_getP rfl f0_15 (by assumption) rfl (by assumption) ?_
          refine e_getP rfl f0_102 (by assumption) rfl (by assumption) ?_
          refine e_iconst (v := nI 2) rfl ic_2N ?_
          refine e_aload_n rfl rfl ?_
          refine e_aload_n rfl rfl ?_
          refine e_iload_n rfl rfl ?_
          refine e_iconst rfl ic_m1 ?_
          refine e_callV (kd := 0) (M2 := m0_namesOf) rfl v0_106 ok0_namesOf (c0_namesOf hH hR hW hC hn (show i < n by omega) (wo := 0) rAt_m1) rfl (by assumption) rfl rfl rfl rfl (fun r1 h1 q1 => ?_)
          obtain ⟨rfl, I2, rfl, f2, n2⟩ := q1
          have hR2 : RP I2 p P := hR.frame (fun c h1 h2 => f2 c (by omega))
          refine e_callV (kd := 1) (M2 := m1_work) rfl v0_110 ok1_work (c1_workP hP hR2 hW (by omega) d7 n2) rfl (by assumption) rfl rfl rfl rfl (fun r1 h1 q1 => ?_)
          obtain ⟨rfl, J2, rfl, fj⟩ := q1
          refine e_goto (tgt := 87) rfl rfl ?_
          exact main hcl I2 J2 _ _ ⟨fun c h1 _ => f2 c h1, fun c h1 _ => fj c h1, f2 _ (by omega), f2 _ (by omega)⟩ (hC.frame (fun c h1 h2 => f2 c (by omega)) (by rw [fj s (by omega)]))
theorem c0_rust (hH : HD K D p s) (hR : RP I p P) (hW : wfP P) (hC : RC I J s n S) (hn : P.1 1 = n) (hdr : I D 2 = bI dr) : Cw l G (d + 3) m0_rust [.ref D, .ref s] (I, J, K) (fun r h' => r = none ∧ ∃ I' J', h' = (I', J', K) ∧ FD I J I' J' D p s ∧ RC I' J' s n (ruS P dr 0 n S)) := by
  have h0 := hH.1.1
  have d0 := hH.1.2.1
  have hP2 := hH.2.1
  obtain ⟨h3, q0, q1, q2, q3, q4, r1, r2, r3, r4, r5⟩ := hP2
  have g5 := r5.1
  have k6 : I p 6 = P.2 20 1 := hR.2.2.2.2.2.2.2.2.2.2.2.2.2.1
  have k16 : I (p + 22) 5 = P.2 16 0 := hR.2.2.2.2.2.2.2.2.2.1.2.2.2.2
  have walk : Gw l G (d + 3) m0_rust 40 [.ref D, .ref s, .int (bI (bitOf (P.2 16 0) (nI 2))), .null, .null, .null] [] (I, J, K) (fun r h' => r = none ∧ ∃ I' J', h' = (I', J', K) ∧ FD I J I' J' D p s ∧ RC I' J' s n (ruS P dr 0 n S)) := by
    refine e_iconst (v := nI 0) rfl ic_0N ?_
    refine e_ist3 rfl rfl rfl ?_
    exact rust_loop hH hW hn n 0 I J S _ _ (by omega) hR hC hdr (fun I' J' f c => ⟨rfl, I', J', rfl, f, c⟩)
  refine Cw.of ok0_rust rfl (rfl : argL _ _ = [.ref D, .ref s, .null, .null, .null, .null]) ?_
  refine e_aload_n rfl rfl ?_
  refine e_getP rfl f0_15 (by assumption) rfl (by assumption) ?_
  refine e_getP rfl f0_102 (by assumption) rfl (by assumption) ?_
  refine e_iconst (v := nI 2) rfl ic_2N ?_
  refine e_callVp (kd := 1) (M2 := m1_has) rfl v0_150 ok1_has (c1_has g5 (nI 2)) rfl (by assumption) rfl rfl rfl rfl ?_
  rw [inN_nI (by omega) (by omega), decide_eq_true (by omega), Bool.true_and, k16]
  refine e_ist2 rfl rfl rfl ?_
  refine e_iload_n rfl rfl ?_
  first | refine e_if_neB (tgt := 40) rfl rfl (fun z => ?_) (fun z => ?_) | refine e_if_neN (tgt := 40) rfl rfl (by omega) (fun z => ?_) (fun z => ?_) | refine e_if_ne (tgt := 40) rfl rfl (fun z => ?_) (fun z => ?_)
  · exact walk
  · have hz : bitOf (P.2 16 0) (nI 2) = false := by assumption
    refine e_aload_n rfl rfl ?_
    refine e_getP rfl f0_15 (by assumption) rfl (by assumption) ?_
    refine e_getI rfl f0_151 (by assumption) rfl ?_
    refine e_aload_n rfl rfl ?_
    refine e_getI rfl f0_19 (by assumption) rfl ?_
    rw [k6, hdr]
    have stop : P.2 20 1 < (if dr = true then nI 1 else nI 50) → Gw l G (d + 3) m0_rust 39 [.ref D, .ref s, .int (bI (bitOf (P.2 16 0) (nI 2))), .null, .null, .null] [] (I, J, K) (fun r h' => r = none ∧ ∃ I' J', h' = (I', J', K) ∧ FD I J I' J' D p s ∧ RC I' J' s n (ruS P dr 0 n S)) := by
      intro hr
      refine e_return rfl rfl ?_
      rw [ruS_skip hz hr hW.2.2.2.2.2.2]
      exact ⟨rfl, I, J, rfl, FD.rf, hC⟩
    first | refine e_if_eqB (tgt := 34) rfl rfl (fun z => ?_) (fun z => ?_) | refine e_if_eqN (tgt := 34) rfl rfl (by omega) (fun z => ?_) (fun z => ?_) | refine e_if_eq (tgt := 34) rfl rfl (fun z => ?_) (fun z => ?_)
    · have yd : dr = false := by assumption
      refine e_bipush (v := nI 50) rfl bp_50N ?_
      first | refine e_icmp_geN (tgt := 40) rfl rfl (by omega) (by omega) (fun z => ?_) (fun z => ?_) | refine e_icmp_ge (tgt := 40) rfl rfl (fun z => ?_) (fun z => ?_)
      · exact walk
      · exact stop (by rw [if_neg (by rw [yd]; decide)]; exact Int32.not_le.mp (by assumption))
    · have yd : dr = true := by assumption
      refine e_iconst (v := nI 1) rfl ic_1N ?_
      refine e_goto (tgt := 36) rfl rfl ?_
      first | refine e_icmp_geN (tgt := 40) rfl rfl (by omega) (by omega) (fun z => ?_) (fun z => ?_) | refine e_icmp_ge (tgt := 40) rfl rfl (fun z => ?_) (fun z => ?_)
      · exact walk
      · exact stop (by rw [if_pos yd]; exact Int32.not_le.mp (by assumption))
theorem otS_skip {way sp : Int32} (hW : wfP P) (h : P.2 20 3 < S 8 0) : ∀ k i, i + k ≤ P.1 2 → otS P way sp n i k S = S
  | 0, _, _ => rfl
  | k + 1, i, hi => by
    have e : ot1 P way sp n S i = S := ot1_none (fun q => absurd h (Int32.not_lt.mpr (by rw [← q.1]; exact hW.2.2.2.2.1 i (by omega))))
    rw [otS, e, otS_skip hW h k (i + 1) (by omega)]
theorem svS_skip (hW : wfP P) (h : P.2 20 4 < S 8 0) : ∀ k i busy, i + k ≤ P.1 3 → svS P n i k busy S = S
  | 0, _, _, _ => rfl
  | k + 1, i, busy, hi => by
    have e : sv1 P n busy S i = (busy, S) := if_neg (fun q : P.2 11 i = S 8 0 => absurd h (Int32.not_lt.mpr (by rw [← q]; exact hW.2.2.2.2.2.1 i (by omega))))
    rw [svS, e, svS_skip hW h k (i + 1) busy (by omega)]
set_option maxHeartbeats 1000000 in
theorem c0_pass (hH : HD K D p s) (hR : RP I p P) (hW : wfP P) (hC : RC I J s n S) (hn : P.1 1 = n) (hdr : I D 2 = bI dr) {way sp : Int32} (hw : I D 3 = way) (hs : I D 4 = sp) : Cw l G (d + 5) m0_pass [.ref D, .ref s] (I, J, K) (fun r h' => r = none ∧ ∃ I' J', h' = (I', J', K) ∧ FD I J I' J' D p s ∧ RC I' J' s n (paS P dr way sp n S)) := by
  have hH2 := hH
  obtain ⟨⟨h0, d0, d1, d7⟩, hP, hS, hdp, hds⟩ := hH2
  have h3 := hP.1
  have h6 := hS.1
  have k8 : I s 8 = S 8 0 := hC.2.2.2.2.2.1.1
  have o8 : I p 8 = P.2 20 3 := hR.2.2.2.2.2.2.2.2.2.2.2.2.2.2.2.1
  have p5 : ∀ I1 J1 S1, FD I J I1 J1 D p s → RC I1 J1 s n S1 → (u2 (blS P 0 n S1) 8 0 (blS P 0 n S1 8 0 + nI 1)) = paS P dr way sp n S → Gw l G (d + 5) m0_pass 64 [.ref D, .ref s] [] (I1, J1, K) (fun r h' => r = none ∧ ∃ I' J', h' = (I', J', K) ∧ FD I J I' J' D p s ∧ RC I' J' s n (paS P dr way sp n S)) := by
    intro I1 J1 S1 f1 c1 e
    refine e_aload_n rfl rfl ?_
    refine e_aload_n rfl rfl ?_
    refine e_callV (kd := 0) (M2 := m0_blow) rfl v0_56 ok0_blow (c0_blow hH (f1.rp hdp hds hR) c1 hn) rfl (by assumption) rfl rfl rfl rfl (fun r1 h1 q1 => ?_)
    obtain ⟨rfl, I2, rfl, f2, c2⟩ := q1
    have k82 : I2 s 8 = blS P 0 n S1 8 0 := c2.2.2.2.2.2.1.1
    refine e_aload_n rfl rfl ?_
    refine e_dup rfl rfl ?_
    refine e_getI rfl f0_30 (by assumption) rfl ?_
    rw [k82]
    refine e_iconst (v := nI 1) rfl ic_1N ?_
    refine e_iadd rfl ?_
    refine e_putI rfl f0_30 (by assumption) rfl rfl ?_
    refine e_return rfl rfl ?_
    refine ⟨rfl, _, _, rfl, (f1.tr f2).tr ⟨fun c h1 h2 => u2_row _ _ (by omega), fun _ _ _ => rfl, u2_row _ _ (by omega), u2_row _ _ (by omega)⟩, ?_⟩
    rw [← e]
    exact c2.up8 _
  have p4 : ∀ I1 J1 S1, FD I J I1 J1 D p s → RC I1 J1 s n S1 → (let S4 := if way = nI 1 then S1 else ruS P dr 0 n S1
      u2 (blS P 0 n S4) 8 0 (blS P 0 n S4 8 0 + nI 1)) = paS P dr way sp n S → Gw l G (d + 5) m0_pass 51 [.ref D, .ref s] [] (I1, J1, K) (fun r h' => r = none ∧ ∃ I' J', h' = (I', J', K) ∧ FD I J I' J' D p s ∧ RC I' J' s n (paS P dr way sp n S)) := by
    intro I1 J1 S1 f1 c1 e
    have hw1 : I1 D 3 = way := by rw [f1.1 D (by omega) (by omega)]; exact hw
    have hd1 : I1 D 2 = bI dr := by rw [f1.1 D (by omega) (by omega)]; exact hdr
    refine e_aload_n rfl rfl ?_
    refine e_getI rfl f0_23 (by assumption) rfl ?_
    rw [hw1]
    refine e_iconst (v := nI 1) rfl ic_1N ?_
    first | refine e_icmp_eqN (tgt := 64) rfl rfl (by omega) (by omega) (fun z => ?_) (fun z => ?_) | refine e_icmp_eq (tgt := 64) rfl rfl (fun z => ?_) (fun z => ?_)
    · have y : way = nI 1 := by assumption
      rw [if_pos y] at e
      exact p5 I1 J1 S1 f1 c1 e
    · have y : ¬ way = nI 1 := by assumption
      rw [if_neg y] at e
      refine e_aload_n rfl rfl ?_
      refine e_aload_n rfl rfl ?_
      refine e_callV (kd := 0) (M2 := m0_rust) rfl v0_53 ok0_rust (c0_rust hH (f1.rp hdp hds hR) hW c1 hn hd1) rfl (by assumption) rfl rfl rfl rfl (fun r1 h1 q1 => ?_)
      obtain ⟨rfl, I2, J2, rfl, f2, c2⟩ := q1
      exact p5 I2 J2 _ (f1.tr f2) c2 e
  have p3 : ∀ I1 J1 S1, FD I J I1 J1 D p s → RC I1 J1 s n S1 → S1 = svS P n 0 (P.1 3) 0 (otS P way sp n 0 (P.1 2) S) → Gw l G (d + 5) m0_pass 38 [.ref D, .ref s] [] (I1, J1, K) (fun r h' => r = none ∧ ∃ I' J', h' = (I', J', K) ∧ FD I J I' J' D p s ∧ RC I' J' s n (paS P dr way sp n S)) := by
    intro I1 J1 S1 f1 c1 e
    have hw1 : I1 D 3 = way := by rw [f1.1 D (by omega) (by omega)]; exact hw
    refine e_aload_n rfl rfl ?_
    refine e_getI rfl f0_23 (by assumption) rfl ?_
    rw [hw1]
    refine e_iconst (v := nI 5) rfl ic_5N ?_
    first | refine e_icmp_eqN (tgt := 51) rfl rfl (by omega) (by omega) (fun z => ?_) (fun z => ?_) | refine e_icmp_eq (tgt := 51) rfl rfl (fun z => ?_) (fun z => ?_)
    · have y : way = nI 5 := by assumption
      refine p4 I1 J1 S1 f1 c1 ?_
      rw [paS, e]
      simp only [if_pos y]
    · have y : ¬ way = nI 5 := by assumption
      refine e_aload_n rfl rfl ?_
      refine e_aload_n rfl rfl ?_
      refine e_callV (kd := 0) (M2 := m0_goOff) rfl v0_50 ok0_goOff (c0_goOff (p := p) hS c1) rfl (by assumption) rfl rfl rfl rfl (fun r1 h1 q1 => ?_)
      obtain ⟨rfl, I2, rfl, f2, c2⟩ := q1
      refine p4 I2 J1 _ (f1.tr f2) c2 ?_
      rw [paS, e]
      simp only [if_neg y]
  have p2 : ∀ I1 J1 S1, FD I J I1 J1 D p s → RC I1 J1 s n S1 → S1 = otS P way sp n 0 (P.1 2) S → Gw l G (d + 5) m0_pass 19 [.ref D, .ref s] [] (I1, J1, K) (fun r h' => r = none ∧ ∃ I' J', h' = (I', J', K) ∧ FD I J I' J' D p s ∧ RC I' J' s n (paS P dr way sp n S)) := by
    intro I1 J1 S1 f1 c1 e
    have hR1 := f1.rp hdp hds hR
    have k81 : I1 s 8 = S1 8 0 := c1.2.2.2.2.2.1.1
    have o91 : I1 p 9 = P.2 20 4 := hR1.2.2.2.2.2.2.2.2.2.2.2.2.2.2.2.2
    refine e_aload_n rfl rfl ?_
    refine e_getI rfl f0_30 (by assumption) rfl ?_
    refine e_aload_n rfl rfl ?_
    refine e_getP rfl f0_15 (by assumption) rfl (by assumption) ?_
    refine e_getI rfl f0_35 (by assumption) rfl ?_
    rw [k81, o91]
    first | refine e_icmp_gtN (tgt := 38) rfl rfl (by omega) (by omega) (fun z => ?_) (fun z => ?_) | refine e_icmp_gt (tgt := 38) rfl rfl (fun z => ?_) (fun z => ?_)
    · have y : P.2 20 4 < S1 8 0 := by assumption
      exact p3 I1 J1 S1 f1 c1 (by rw [← e, svS_skip hW y (P.1 3) 0 0 (by omega)])
    · refine e_aload_n rfl rfl ?_
      refine e_aload_n rfl rfl ?_
      refine e_callV (kd := 0) (M2 := m0_serve) rfl v0_47 ok0_serve (c0_serve hH hR1 hW c1 hn) rfl (by assumption) rfl rfl rfl rfl (fun r1 h1 q1 => ?_)
      obtain ⟨rfl, I2, J2, rfl, f2, c2⟩ := q1
      exact p3 I2 J2 _ (f1.tr f2) c2 (by rw [e])
  refine Cw.of ok0_pass rfl (rfl : argL _ _ = [.ref D, .ref s]) ?_
  refine e_aload_n rfl rfl ?_
  refine e_getI rfl f0_30 (by assumption) rfl ?_
  refine e_aload_n rfl rfl ?_
  refine e_getP rfl f0_15 (by assumption) rfl (by assumption) ?_
  refine e_getI rfl f0_40 (by assumption) rfl ?_
  rw [k8, o8]
  first | refine e_icmp_gtN (tgt := 19) rfl rfl (by omega) (by omega) (fun z => ?_) (fun z => ?_) | refine e_icmp_gt (tgt := 19) rfl rfl (fun z => ?_) (fun z => ?_)
  · have y : P.2 20 3 < S 8 0 := by assumption
    exact p2 I J S FD.rf hC (otS_skip hW y (P.1 2) 0 (by omega)).symm
  · refine e_aload_n rfl rfl ?_
    refine e_aload_n rfl rfl ?_
    refine e_callV (kd := 0) (M2 := m0_openTold) rfl v0_43 ok0_openTold (c0_openTold hH hR hW hC hn hw hs) rfl (by assumption) rfl rfl rfl rfl (fun r1 h1 q1 => ?_)
    obtain ⟨rfl, I2, J2, rfl, f2, c2⟩ := q1
    exact p2 I2 J2 _ f2 c2 rfl
theorem c0_byNumbers (h0 : (K.2.1 D).1 = 0) : Cw l G d m0_byNumbers [.ref D] (I, J, K) (fun r h' => r = none ∧ h' = (u2 (u2 I D 2 (nI 1)) D 3 (nI 0), J, K)) := by
  refine Cw.of ok0_byNumbers rfl (rfl : argL _ _ = [.ref D]) ?_
  refine e_aload_n rfl rfl ?_
  refine e_iconst (v := nI 1) rfl ic_1N ?_
  refine e_putZ rfl f0_19 (by assumption) rfl rfl (by first | decide | assumption) ?_
  refine e_aload_n rfl rfl ?_
  refine e_iconst (v := nI 0) rfl ic_0N ?_
  refine e_putI rfl f0_23 (by assumption) rfl rfl ?_
  refine e_return rfl rfl ?_
  exact ⟨rfl, rfl⟩
theorem c0_asItGoes (h0 : (K.2.1 D).1 = 0) : Cw l G d m0_asItGoes [.ref D] (I, J, K) (fun r h' => r = none ∧ h' = (u2 (u2 I D 2 (nI 0)) D 3 (nI 0), J, K)) := by
  refine Cw.of ok0_asItGoes rfl (rfl : argL _ _ = [.ref D]) ?_
  refine e_aload_n rfl rfl ?_
  refine e_iconst (v := nI 0) rfl ic_0N ?_
  refine e_putZ rfl f0_19 (by assumption) rfl rfl (by first | decide | assumption) ?_
  refine e_aload_n rfl rfl ?_
  refine e_iconst (v := nI 0) rfl ic_0N ?_
  refine e_putI rfl f0_23 (by assumption) rfl rfl ?_
  refine e_return rfl rfl ?_
  exact ⟨rfl, rfl⟩
theorem c0_otherwise (h0 : (K.2.1 D).1 = 0) (a b : Int32) : Cw l G d m0_otherwise [.ref D, .int a, .int b] (I, J, K) (fun r h' => r = none ∧ h' = (u2 (u2 (u2 I D 2 (nI 0)) D 3 a) D 4 b, J, K)) := by
  refine Cw.of ok0_otherwise rfl (rfl : argL _ _ = [.ref D, .int a, .int b]) ?_
  refine e_aload_n rfl rfl ?_
  refine e_iconst (v := nI 0) rfl ic_0N ?_
  refine e_putZ rfl f0_19 (by assumption) rfl rfl (by first | decide | assumption) ?_
  refine e_aload_n rfl rfl ?_
  refine e_iload_n rfl rfl ?_
  refine e_putI rfl f0_23 (by assumption) rfl rfl ?_
  refine e_aload_n rfl rfl ?_
  refine e_iload_n rfl rfl ?_
  refine e_putI rfl f0_27 (by assumption) rfl rfl ?_
  refine e_return rfl rfl ?_
  exact ⟨rfl, rfl⟩
theorem c0_mayBringGlory (h0 : (K.2.1 D).1 = 0) (d0 : K.1 D 0 = some p) (h3 : (K.2.1 p).1 = 3) (h6 : (K.2.1 s).1 = 6) : Cp l G d m0_mayBringGlory [.ref D, .ref s] (I, J, K) (.int (bI (decide (I s 8 ≤ I p 9)))) := by
  refine Cp.of ok0_mayBringGlory rfl (rfl : argL _ _ = [.ref D, .ref s]) ?_
  refine e_aload_n rfl rfl ?_
  refine e_getI rfl f0_30 (by assumption) rfl ?_
  refine e_aload_n rfl rfl ?_
  refine e_getP rfl f0_15 (by assumption) rfl (by assumption) ?_
  refine e_getI rfl f0_35 (by assumption) rfl ?_
  first | refine e_icmp_gtN (tgt := 18) rfl rfl (by omega) (by omega) (fun z => ?_) (fun z => ?_) | refine e_icmp_gt (tgt := 18) rfl rfl (fun z => ?_) (fun z => ?_)
  · refine e_iconst (v := nI 0) rfl ic_0N ?_
    refine e_zreturn rfl rfl ?_ ?_
    · exact Or.inl rfl
    · rw [decide_eq_false (Int32.not_le.mpr (by assumption))]; exact ⟨rfl, rfl⟩
  · refine e_iconst (v := nI 1) rfl ic_1N ?_
    refine e_goto (tgt := 19) rfl rfl ?_
    refine e_zreturn rfl rfl ?_ ?_
    · exact Or.inr rfl
    · rw [decide_eq_true (Int32.not_lt.mp (by assumption))]; exact ⟨rfl, rfl⟩
end MPass
