/-! ===== Days ===== -/
def isDays (K : Kt) (D p : Nat) : Prop := (K.2.1 D).1 = 0 ∧ K.1 D 0 = some p ∧ K.1 D 1 = some (D + 1) ∧ K.2.1 (D + 1) = (20, 7)
def HD (K : Kt) (D p s : Nat) : Prop := isDays K D p ∧ isPlan K p ∧ isState K s ∧ p + 27 ≤ D ∧ D + 2 ≤ s
/-- what a DAY may change -/
def FD (I : IM) (J : JM) (I' : IM) (J' : JM) (D p s : Nat) : Prop := (∀ c, c ≠ D + 1 → (c < s ∨ s + 7 < c) → I' c = I c) ∧ (∀ c, c ≠ p + 26 → c ≠ s → J' c = J c) ∧ I' (s + 3) = I (s + 3) ∧ I' (s + 4) = I (s + 4)
theorem FD.rf {I : IM} {J : JM} {D p s : Nat} : FD I J I J D p s := ⟨fun _ _ _ => rfl, fun _ _ _ => rfl, rfl, rfl⟩
theorem FD.tr {I I1 I2 : IM} {J J1 J2 : JM} {D p s : Nat} (h1 : FD I J I1 J1 D p s) (h2 : FD I1 J1 I2 J2 D p s) : FD I J I2 J2 D p s := ⟨fun c a b => (h2.1 c a b).trans (h1.1 c a b), fun c a b => (h2.2.1 c a b).trans (h1.2.1 c a b), h2.2.2.1.trans h1.2.2.1, h2.2.2.2.trans h1.2.2.2⟩
theorem FD.rp {I I1 : IM} {J J1 : JM} {D p s : Nat} {P : Pl} (h : FD I J I1 J1 D p s) (hd : p + 27 ≤ D) (hs : D + 2 ≤ s) (hR : RP I p P) : RP I1 p P := hR.frame (fun c h1 h2 => h.1 c (by omega) (by omega))
theorem rAt_m1 {I : IM} {a s j : Nat} : rAt I a s j (-1) = 0 := if_neg (fun q => absurd q.1 (by decide))
section MDays
variable {l : Launch} {G : GG} {d : Nat} {I : IM} {J : JM} {K : Kt} {Q : Option Value → Hp → Prop} {D p s n : Nat} {P : Pl} {S : SM} {h : Hp}
theorem c0_within (v : Int64) (lo hi wo : Int32) : Cp l G (d + 1) m0_within [.long v, .int lo, .int hi, .int wo] h (.int (wn v lo hi wo)) := by
  refine Cp.of ok0_within rfl (rfl : argL _ _ = [.long v, .null, .int lo, .int hi, .int wo]) ?_
  refine e_lload_n rfl rfl ?_
  refine e_ldc2 rfl k0_153 ?_
  refine e_lcmp rfl ?_
  first | refine e_if_neC (tgt := 11) rfl rfl (fun z => ?_) (fun z => ?_) | refine e_if_neB (tgt := 11) rfl rfl (fun z => ?_) (fun z => ?_) | refine e_if_neN (tgt := 11) rfl rfl (by omega) (fun z => ?_) (fun z => ?_) | refine e_if_ne (tgt := 11) rfl rfl (fun z => ?_) (fun z => ?_)
  · refine e_iload_n rfl rfl ?_
    refine e_i2l rfl ?_
    refine e_iload_n rfl rfl ?_
    refine e_i2l rfl ?_
    refine e_lload_n rfl rfl ?_
    refine e_minl rfl v0_174 rfl ?_
    refine e_maxl rfl v0_177 rfl ?_
    refine e_l2i rfl ?_
    refine e_ireturn rfl rfl ?_
    rw [wn, if_neg (c := v = MINL) z]
    exact ⟨rfl, rfl⟩
  · refine e_iload rfl rfl ?_
    refine e_ireturn rfl rfl ?_
    rw [wn, if_pos (c := v = MINL) z]
    exact ⟨rfl, rfl⟩
theorem c1_work0 {a b w : Nat} (h1 : (K.2.1 a).1 = 1) (hw : w < 3) (hz : bitOf (I a 5) (nI w) = false) : Cp l G (d + 2) m1_work [.ref a, .int (nI w), .ref b] (I, J, K) (.long MINL) := by
  refine Cp.of ok1_work rfl (rfl : argL _ _ = [.ref a, .int (nI w), .ref b, .null, .null, .null]) ?_
  refine e_aload_n rfl rfl ?_
  refine e_iload_n rfl rfl ?_
  refine e_callVp (kd := 1) (M2 := m1_has) rfl v1_45 ok1_has (c1_has h1 (nI w)) rfl (by assumption) rfl rfl rfl rfl ?_
  first | refine e_if_eqB (tgt := 15) rfl rfl (fun z => ?_) (fun z => ?_) | refine e_if_eqN (tgt := 15) rfl rfl (by omega) (fun z => ?_) (fun z => ?_) | refine e_if_eq (tgt := 15) rfl rfl (fun z => ?_) (fun z => ?_)
  · refine e_ldc2 rfl k1_51 ?_
    refine e_lreturn rfl rfl ?_
    exact ⟨rfl, rfl⟩
  · rw [hz, Bool.and_false] at z
    cases z
theorem c1_workP {b w : Nat} {nm : Nat → Int32} (hP : isPlan K p) (hR : RP I p P) (hW : wfP P) (hw : w < 3) (hb : K.2.1 b = (20, 7)) (hnm : ∀ k, k < 7 → I b k = nm k) : Cw l G (d + 2) m1_work [.ref (p + 22), .int (nI w), .ref b] (I, J, K) (fun r h' => r = some (.long (lawP P w nm)) ∧ ∃ J', h' = (I, J', K) ∧ ∀ c, c ≠ p + 26 → J' c = J c) := by
  have r5 := hP.2.2.2.2.2.2.2.2.2.2
  obtain ⟨-, -, -, -, -, -, -, -, -, ⟨l1, l2, l3, l4, l5⟩, lc, lf, -⟩ := hR
  by_cases hz : bitOf (P.2 16 0) (nI w) = true
  · obtain ⟨f, u, ef, eu, hfu, hu⟩ := hW.2.2.2.1 w hw hz
    refine (c1_work r5 hb hw (f := f) (u := u) ((lf w hw).1.trans ef) ((lf w hw).2.trans eu) hfu hu).mono ?_
    rintro r h' ⟨e1, J', e2, e3⟩
    refine ⟨?_, J', e2, e3⟩
    rw [e1, lawP, lawV, lawV, l5, if_pos hz, if_pos hz, show p + 22 + 2 = p + 24 by omega, show p + 22 + 3 = p + 25 by omega, show p + 22 + 1 = p + 23 by omega, (lf w hw).1, (lf w hw).2, ef, eu, nI_clamp (by omega), nI_clamp (by omega)]
    rw [evW_congr hnm (u - f) f [] (fun j h1 h2 => lc j (by omega))]
  · have hz2 : bitOf (I (p + 22) 5) (nI w) = false := by rw [l5]; exact Bool.eq_false_iff.mpr hz
    refine ⟨_, _, c1_work0 (b := b) r5.1 hw hz2, ?_, J, rfl, fun _ _ => rfl⟩
    rw [lawP, lawV, if_neg hz]
set_option maxHeartbeats 1000000 in
theorem c0_namesOf (hH : HD K D p s) (hR : RP I p P) (hW : wfP P) (hC : RC I J s n S) (hn : P.1 1 = n) {t : Nat} (ht : t < n) {w wo : Int32} (hwo : rAt I (p + 17) (P.1 3) 2 w = wo) : Cw l G (d + 2) m0_namesOf [.ref D, .ref s, .int (nI t), .int w] (I, J, K) (fun r h' => r = some (.ref (D + 1)) ∧ ∃ I', h' = (I', J, K) ∧ (∀ c, c ≠ D + 1 → I' c = I c) ∧ ∀ k, k < 7 → I' (D + 1) k = nmS P S t wo k) := by
  obtain ⟨⟨h0, d0, d1, d7⟩, ⟨h3, q0, q1, q2, q3, q4, r1, r2, r3, r4, r5⟩, ⟨h6, p0, p1, p2, p3, p4, p5, p6, a1, a2, a3, a4, a5, a6, a7⟩, hdp, hds⟩ := hH
  have g1 := r1.1
  have g2 := r2.1
  have g4 := r4.1
  obtain ⟨-, ⟨s1, b1⟩, ⟨s2, b2⟩, -, ⟨s4, b4⟩, c1, c2, -, c4, -⟩ := hR
  obtain ⟨hn7, hn8, hc3, -, -, ⟨k8, -⟩, -⟩ := hC
  obtain ⟨j, hj, ej⟩ := hW.1 t (by omega)
  rw [hn] at s2
  have v4 : I (p + 6 + 2 + 1) t = nI j := (c2 1 (by omega) t (by omega)).trans ej
  have v6 : I (p + 6 + 2 + 3) t = P.2 6 t := c2 3 (by omega) t (by omega)
  have w1 : I (p + 1 + 2 + 1) j = P.2 1 j := c1 1 (by omega) j hj
  have w2 : I (p + 1 + 2 + 2) j = P.2 2 j := c1 2 (by omega) j hj
  refine Cw.of ok0_namesOf rfl (rfl : argL _ _ = [.ref D, .ref s, .int (nI t), .int w, .null, .null]) ?_
  refine e_aload_n rfl rfl ?_
  refine e_getP rfl f0_15 (by assumption) rfl (by assumption) ?_
  refine e_getP rfl f0_141 (by assumption) rfl (by assumption) ?_
  refine e_iload_n rfl rfl ?_
  refine e_iconst (v := nI 1) rfl ic_1N ?_
  refine e_callVp (kd := 4) (M2 := m4_at) rfl v0_72 ok4_at (c4_at r2 s2 (by omega) (by omega) _) rfl (by assumption) rfl rfl rfl rfl ?_
  rw [rAt_nI ht (by omega), v4]
  refine e_ist4 rfl rfl rfl ?_
  refine e_aload_n rfl rfl ?_
  refine e_iload_n rfl rfl ?_
  refine e_callVp (kd := 6) (M2 := m6_has) rfl v0_93 ok6_has (c6_has h6 hn7 (nI t)) rfl (by assumption) rfl rfl rfl rfl ?_
  rw [inN_nI (by omega) (by omega), decide_eq_true ht]
  refine e_ist5 rfl rfl rfl ?_
  refine e_aload_n rfl rfl ?_
  refine e_getP rfl f0_11 (by assumption) rfl (by assumption) ?_
  refine e_iconst (v := nI 0) rfl ic_0N ?_
  refine e_iload rfl rfl ?_
  first | refine e_if_eqB (tgt := 40) rfl rfl (fun z => ?_) (fun z => ?_) | refine e_if_eqN (tgt := 40) rfl rfl (by omega) (fun z => ?_) (fun z => ?_) | refine e_if_eq (tgt := 40) rfl rfl (fun z => ?_) (fun z => ?_)
  · cases z
  · refine e_aload_n rfl rfl ?_
    refine e_getP rfl f0_159 (by assumption) rfl (by assumption) ?_
    refine e_iload_n rfl rfl ?_
    first | refine e_ialoadN rfl (by assumption) (by omega) (by omega) ?_ | (refine e_iaload rfl (by assumption) ?_ ?_; rotate_left)
    refine e_goto (tgt := 41) rfl rfl ?_
    first | refine e_iastoreN rfl (by assumption) (by omega) (by omega) ?_ | (refine e_iastore rfl (by assumption) ?_ ?_; rotate_left)
    refine e_aload_n rfl rfl ?_
    refine e_getP rfl f0_11 (by assumption) rfl (by assumption) ?_
    refine e_iconst (v := nI 1) rfl ic_1N ?_
    refine e_aload_n rfl rfl ?_
    refine e_getP rfl f0_15 (by assumption) rfl (by assumption) ?_
    refine e_getP rfl f0_141 (by assumption) rfl (by assumption) ?_
    refine e_iload_n rfl rfl ?_
    refine e_iconst (v := nI 3) rfl ic_3N ?_
    refine e_callVp (kd := 4) (M2 := m4_at) rfl v0_72 ok4_at (c4_at r2 (s := n) (by simp (disch := omega) only [u2_ne]; exact s2) (by omega) (by omega) _) rfl (by assumption) rfl rfl rfl rfl ?_
    rw [rAt_nI ht (by omega)]
    simp (disch := omega) only [u2_ne]
    rw [v6]
    first | refine e_iastoreN rfl (by assumption) (by omega) (by omega) ?_ | (refine e_iastore rfl (by assumption) ?_ ?_; rotate_left)
    refine e_aload_n rfl rfl ?_
    refine e_getP rfl f0_11 (by assumption) rfl (by assumption) ?_
    refine e_iconst (v := nI 2) rfl ic_2N ?_
    refine e_aload_n rfl rfl ?_
    refine e_getP rfl f0_15 (by assumption) rfl (by assumption) ?_
    refine e_getP rfl f0_171 (by assumption) rfl (by assumption) ?_
    refine e_iload rfl rfl ?_
    refine e_iconst (v := nI 1) rfl ic_1N ?_
    refine e_callVp (kd := 4) (M2 := m4_at) rfl v0_72 ok4_at (c4_at r1 (s := P.1 0) (by simp (disch := omega) only [u2_ne]; exact s1) (by omega) (by omega) _) rfl (by assumption) rfl rfl rfl rfl ?_
    rw [rAt_nI hj (by omega)]
    simp (disch := omega) only [u2_ne]
    rw [w1]
    first | refine e_iastoreN rfl (by assumption) (by omega) (by omega) ?_ | (refine e_iastore rfl (by assumption) ?_ ?_; rotate_left)
    refine e_aload_n rfl rfl ?_
    refine e_getP rfl f0_11 (by assumption) rfl (by assumption) ?_
    refine e_iconst (v := nI 3) rfl ic_3N ?_
    refine e_aload_n rfl rfl ?_
    refine e_getP rfl f0_15 (by assumption) rfl (by assumption) ?_
    refine e_getP rfl f0_171 (by assumption) rfl (by assumption) ?_
    refine e_iload rfl rfl ?_
    refine e_iconst (v := nI 2) rfl ic_2N ?_
    refine e_callVp (kd := 4) (M2 := m4_at) rfl v0_72 ok4_at (c4_at r1 (s := P.1 0) (by simp (disch := omega) only [u2_ne]; exact s1) (by omega) (by omega) _) rfl (by assumption) rfl rfl rfl rfl ?_
    rw [rAt_nI hj (by omega)]
    simp (disch := omega) only [u2_ne]
    rw [w2]
    first | refine e_iastoreN rfl (by assumption) (by omega) (by omega) ?_ | (refine e_iastore rfl (by assumption) ?_ ?_; rotate_left)
    refine e_aload_n rfl rfl ?_
    refine e_getP rfl f0_11 (by assumption) rfl (by assumption) ?_
    refine e_iconst (v := nI 4) rfl ic_4N ?_
    refine e_aload_n rfl rfl ?_
    refine e_getP rfl f0_15 (by assumption) rfl (by assumption) ?_
    refine e_getP rfl f0_120 (by assumption) rfl (by assumption) ?_
    refine e_iload_n rfl rfl ?_
    refine e_iconst (v := nI 2) rfl ic_2N ?_
    refine e_callVp (kd := 4) (M2 := m4_at) rfl v0_72 ok4_at (c4_at r4 (s := P.1 3) (by simp (disch := omega) only [u2_ne]; exact s4) (by omega) (by omega) _) rfl (by assumption) rfl rfl rfl rfl ?_
    have hwo2 : ∀ I2 : IM, I2 (p + 17 + 2 + 2) = I (p + 17 + 2 + 2) → rAt I2 (p + 17) (P.1 3) 2 w = wo := by
      intro I2 e
      rw [← hwo, rAt, rAt, e]
    rw [hwo2 _ (by funext x; simp (disch := omega) only [u2_ne])]
    first | refine e_iastoreN rfl (by assumption) (by omega) (by omega) ?_ | (refine e_iastore rfl (by assumption) ?_ ?_; rotate_left)
    refine e_aload_n rfl rfl ?_
    refine e_getP rfl f0_11 (by assumption) rfl (by assumption) ?_
    refine e_iconst (v := nI 5) rfl ic_5N ?_
    refine e_iload rfl rfl ?_
    first | refine e_if_eqB (tgt := 135) rfl rfl (fun z => ?_) (fun z => ?_) | refine e_if_eqN (tgt := 135) rfl rfl (by omega) (fun z => ?_) (fun z => ?_) | refine e_if_eq (tgt := 135) rfl rfl (fun z => ?_) (fun z => ?_)
    · cases z
    · refine e_aload_n rfl rfl ?_
      refine e_getP rfl f0_99 (by assumption) rfl (by assumption) ?_
      refine e_iload_n rfl rfl ?_
      first | refine e_ialoadN rfl (by assumption) (by omega) (by omega) ?_ | (refine e_iaload rfl (by assumption) ?_ ?_; rotate_left)
      refine e_goto (tgt := 136) rfl rfl ?_
      first | refine e_iastoreN rfl (by assumption) (by omega) (by omega) ?_ | (refine e_iastore rfl (by assumption) ?_ ?_; rotate_left)
      refine e_aload_n rfl rfl ?_
      refine e_getP rfl f0_11 (by assumption) rfl (by assumption) ?_
      refine e_bipush (v := nI 6) rfl bp_6N ?_
      refine e_aload_n rfl rfl ?_
      refine e_getI rfl f0_30 (by assumption) rfl ?_
      first | refine e_iastoreN rfl (by assumption) (by omega) (by omega) ?_ | (refine e_iastore rfl (by assumption) ?_ ?_; rotate_left)
      refine e_aload_n rfl rfl ?_
      refine e_getP rfl f0_11 (by assumption) rfl (by assumption) ?_
      refine e_areturn rfl rfl (Or.inr ⟨_, rfl⟩) ?_
      refine ⟨rfl, _, rfl, ?_, ?_⟩
      · intro c hc
        funext x
        simp (disch := omega) only [u2_ne]
      · obtain ⟨m0, m1, m2, m4, m5⟩ := hc3 t ht
        intro k hk
        rcases (show k = 0 ∨ k = 1 ∨ k = 2 ∨ k = 3 ∨ k = 4 ∨ k = 5 ∨ k = 6 by omega) with rfl | rfl | rfl | rfl | rfl | rfl | rfl
        · simp (disch := omega) only [u2_at, u2_nk, u2_ne]; rw [m1]; rfl
        · simp (disch := omega) only [u2_at, u2_nk, u2_ne]; rfl
        · simp (disch := omega) only [u2_at, u2_nk, u2_ne]; rw [nmS, ej, nI_clamp (by omega)]; rfl
        · simp (disch := omega) only [u2_at, u2_nk, u2_ne]; rw [nmS, ej, nI_clamp (by omega)]; rfl
        · simp (disch := omega) only [u2_at, u2_nk, u2_ne]; rfl
        · simp (disch := omega) only [u2_at, u2_nk, u2_ne]; rw [m4]; rfl
        · simp (disch := omega) only [u2_at, u2_nk, u2_ne]; rw [k8]; rfl
theorem c0_unseal (hH : HD K D p s) (hR : RP I p P) (hW : wfP P) (hC : RC I J s n S) (hn : P.1 1 = n) {t : Nat} (ht : t < n) : Cw l G (d + 3) m0_unseal [.ref D, .ref s, .int (nI t)] (I, J, K) (fun r h' => r = none ∧ ∃ I' J', h' = (I', J', K) ∧ FD I J I' J' D p s ∧ RC I' J' s n (unsS P S t)) := by
  have hH2 := hH
  obtain ⟨⟨h0, d0, d1, d7⟩, hP, ⟨h6, p0, p1, p2, p3, p4, p5, p6, a1, a2, a3, a4, a5, a6, a7⟩, hdp, hds⟩ := hH2
  have hP2 := hP
  obtain ⟨h3, q0, q1, q2, q3, q4, r1, r2, r3, r4, r5⟩ := hP2
  have g5 := r5.1
  have hn7 := hC.1
  have hn8 := hC.2.1
  have k9 : I s 9 = S 9 0 := hC.2.2.2.2.2.1.2.1
  refine Cw.of ok0_unseal rfl (rfl : argL _ _ = [.ref D, .ref s, .int (nI t)]) ?_
  refine e_aload_n rfl rfl ?_
  refine e_iload_n rfl rfl ?_
  refine e_callVp (kd := 6) (M2 := m6_has) rfl v0_93 ok6_has (c6_has h6 hn7 (nI t)) rfl (by assumption) rfl rfl rfl rfl ?_
  first | refine e_if_eqB (tgt := 56) rfl rfl (fun z => ?_) (fun z => ?_) | refine e_if_eqN (tgt := 56) rfl rfl (by omega) (fun z => ?_) (fun z => ?_) | refine e_if_eq (tgt := 56) rfl rfl (fun z => ?_) (fun z => ?_)
  · rw [inN_nI (by omega) (by omega), decide_eq_true ht] at z
    cases z
  · refine e_aload_n rfl rfl ?_
    refine e_getP rfl f0_96 (by assumption) rfl (by assumption) ?_
    refine e_iload_n rfl rfl ?_
    refine e_iconst (v := nI 1) rfl ic_1N ?_
    first | refine e_iastoreN rfl (by assumption) (by omega) (by omega) ?_ | (refine e_iastore rfl (by assumption) ?_ ?_; rotate_left)
    refine e_aload_n rfl rfl ?_
    refine e_dup rfl rfl ?_
    refine e_getI rfl f0_76 (by assumption) rfl ?_
    simp (disch := omega) only [u2_ne]
    rw [k9]
    have hC1 : RC (u2 (u2 I (s + 1) t (nI 1)) s 9 (S 9 0 - nI 1)) J s n (u2 (u2 S 0 t (nI 1)) 9 0 (S 9 0 - nI 1)) := (hC.up0 ht _).up9 _
    have hR1 : RP (u2 (u2 I (s + 1) t (nI 1)) s 9 (S 9 0 - nI 1)) p P := hR.frame (fun c h1 h2 => by funext x; simp (disch := omega) only [u2_ne])
    generalize hI1 : u2 (u2 I (s + 1) t (nI 1)) s 9 (S 9 0 - nI 1) = I1 at hC1 hR1
    have step : ∀ v, v = S 9 0 - nI 1 → Gw l G (d + 3) m0_unseal 22 [.ref D, .ref s, .int (nI t)] [.int v, .ref s] (u2 I (s + 1) t (nI 1), J, K) (fun r h' => r = none ∧ ∃ I' J', h' = (I', J', K) ∧ FD I J I' J' D p s ∧ RC I' J' s n (unsS P S t)) := by
      intro v hv
      subst hv
      refine e_putI rfl f0_76 (by assumption) rfl rfl ?_
      rw [hI1]
      refine e_aload_n rfl rfl ?_
      refine e_getP rfl f0_99 (by assumption) rfl (by assumption) ?_
      refine e_iload_n rfl rfl ?_
      refine e_aload_n rfl rfl ?_
      refine e_getP rfl f0_15 (by assumption) rfl (by assumption) ?_
      refine e_getP rfl f0_102 (by assumption) rfl (by assumption) ?_
      refine e_iconst (v := nI 0) rfl ic_0N ?_
      refine e_aload_n rfl rfl ?_
      refine e_aload_n rfl rfl ?_
      refine e_iload_n rfl rfl ?_
      refine e_iconst rfl ic_m1 ?_
      refine e_callV (kd := 0) (M2 := m0_namesOf) rfl v0_106 ok0_namesOf (c0_namesOf hH hR1 hW hC1 hn ht (wo := 0) rAt_m1) rfl (by assumption) rfl rfl rfl rfl (fun r1 h1 q1 => ?_)
      obtain ⟨rfl, I2, rfl, f2, n2⟩ := q1
      have hR2 : RP I2 p P := hR1.frame (fun c h1 h2 => f2 c (by omega))
      refine e_callV (kd := 1) (M2 := m1_work) rfl v0_110 ok1_work (c1_workP hP hR2 hW (by omega) d7 n2) rfl (by assumption) rfl rfl rfl rfl (fun r1 h1 q1 => ?_)
      obtain ⟨rfl, J2, rfl, fj⟩ := q1
      refine e_iconst (v := nI 1) rfl ic_1N ?_
      refine e_bipush (v := nI 9) rfl bp_9N ?_
      refine e_iconst (v := nI 3) rfl ic_3N ?_
      refine e_callSp (M2 := m0_within) rfl v0_116 ok0_within (c0_within _ _ _ _) rfl rfl rfl ?_
      first | refine e_iastoreN rfl (by assumption) (by omega) (by omega) ?_ | (refine e_iastore rfl (by assumption) ?_ ?_; rotate_left)
      refine e_return rfl rfl ?_
      have e : nmS P (u2 (u2 S 0 t (nI 1)) 9 0 (S 9 0 - nI 1)) t 0 = nmS P S t 0 := by
        funext k
        unfold nmS
        simp (disch := omega) only [u2_ne]
      rw [e]
      have hC2 : RC I2 J2 s n (u2 (u2 S 0 t (nI 1)) 9 0 (S 9 0 - nI 1)) := hC1.frame (fun c h1 h2 => f2 c (by omega)) (by rw [fj s (by omega)])
      refine ⟨rfl, _, _, rfl, ⟨?_, ?_, ?_, ?_⟩, hC2.up4 ht _⟩
      · intro c h1 h2
        rw [u2_row _ _ (by omega), f2 c h1, ← hI1]
        funext x
        simp (disch := omega) only [u2_ne]
      · intro c h1 h2
        exact fj c h1
      · rw [u2_row _ _ (by omega), f2 _ (by omega), ← hI1]
        funext x
        simp (disch := omega) only [u2_ne]
      · rw [u2_row _ _ (by omega), f2 _ (by omega), ← hI1]
        funext x
        simp (disch := omega) only [u2_ne]
    refine e_iconst (v := nI 1) rfl ic_1N ?_
    refine e_isub rfl ?_
    exact step _ rfl
theorem c0_unsealAnyway (hH : HD K D p s) (hR : RP I p P) (hW : wfP P) (hC : RC I J s n S) (hn : P.1 1 = n) {t : Nat} (ht : t < n) : Cw l G (d + 4) m0_unsealAnyway [.ref D, .ref s, .int (nI t)] (I, J, K) (fun r h' => r = none ∧ ∃ I' J', h' = (I', J', K) ∧ FD I J I' J' D p s ∧ RC I' J' s n (if S 0 t = 0 ∧ 0 < S 9 0 then unsS P S t else S)) := by
  have h0 := hH.1.1
  have h6 := hH.2.2.1.1
  have hn7 := hC.1
  have hn8 := hC.2.1
  have k9 : I s 9 = S 9 0 := hC.2.2.2.2.2.1.2.1
  have e0 : I (s + 1) t = S 0 t := (hC.2.2.1 t ht).1
  refine Cw.of ok0_unsealAnyway rfl (rfl : argL _ _ = [.ref D, .ref s, .int (nI t)]) ?_
  refine e_aload_n rfl rfl ?_
  refine e_iload_n rfl rfl ?_
  refine e_callVp (kd := 6) (M2 := m6_isClosed) rfl v0_79 ok6_isClosed (c6_isClosed hH.2.2.1 hn7 hn8 (nI t)) rfl (by assumption) rfl rfl rfl rfl ?_
  first | refine e_if_eqB (tgt := 21) rfl rfl (fun z => ?_) (fun z => ?_) | refine e_if_eqN (tgt := 21) rfl rfl (by omega) (fun z => ?_) (fun z => ?_) | refine e_if_eq (tgt := 21) rfl rfl (fun z => ?_) (fun z => ?_)
  · rw [inN_nI (by omega) (by omega), decide_eq_true ht, Bool.true_and, nI_clamp (by omega), e0] at z
    refine e_return rfl rfl ?_
    rw [if_neg (fun q => absurd q.1 (of_decide_eq_false z))]
    exact ⟨rfl, I, J, rfl, FD.rf, hC⟩
  · rw [inN_nI (by omega) (by omega), decide_eq_true ht, Bool.true_and, nI_clamp (by omega), e0] at z
    have z0 := of_decide_eq_true z
    refine e_aload_n rfl rfl ?_
    refine e_getI rfl f0_76 (by assumption) rfl ?_
    rw [k9]
    first | refine e_if_leN (tgt := 21) rfl rfl (by omega) (fun z => ?_) (fun z => ?_) | refine e_if_le (tgt := 21) rfl rfl (fun z => ?_) (fun z => ?_)
    · have zz : S 9 0 ≤ 0 := by assumption
      refine e_return rfl rfl ?_
      rw [if_neg (fun q => absurd q.2 (Int32.not_lt.mpr zz))]
      exact ⟨rfl, I, J, rfl, FD.rf, hC⟩
    · have zz : ¬ S 9 0 ≤ 0 := by assumption
      rw [if_pos ⟨z0, Int32.not_le.mp zz⟩]
      refine e_aload_n rfl rfl ?_
      refine e_aload_n rfl rfl ?_
      refine e_iload_n rfl rfl ?_
      refine e_callV (kd := 0) (M2 := m0_unseal) rfl v0_86 ok0_unseal (c0_unseal hH hR hW hC hn ht) rfl (by assumption) rfl rfl rfl rfl (fun r1 h1 q1 => ?_)
      obtain ⟨rfl, I1, J1, rfl, f1, C1⟩ := q1
      refine e_return rfl rfl ?_
      exact ⟨rfl, I1, J1, rfl, f1, C1⟩
theorem ot1_none {way sp : Int32} {i : Nat} (h : ¬ (P.2 9 i = S 8 0 ∧ ¬ (way = nI 2 ∧ P.2 8 i = sp))) : ot1 P way sp n S i = S := if_neg h
set_option maxHeartbeats 1000000 in
theorem openTold_loop (hH : HD K D p s) (hW : wfP P) (hn : P.1 1 = n) (way sp : Int32) : ∀ k i I J S v4 v5, i + k = P.1 2 → RP I p P → RC I J s n S → I D 3 = way → I D 4 = sp → (∀ I' J', FD I J I' J' D p s → RC I' J' s n (otS P way sp n i k S) → Q none (I', J', K)) → Gw l G (d + 4) m0_openTold 14 [.ref D, .ref s, .ref (p + 16), .int (nI i), v4, v5] [] (I, J, K) Q := by
  have hH2 := hH
  obtain ⟨⟨h0, d0, d1, d7⟩, hP, hS, hdp, hds⟩ := hH2
  have hP2 := hP
  obtain ⟨h3, q0, q1, q2, q3, q4, r1, r2, r3, r4, r5⟩ := hP2
  have h6 := hS.1
  have g3 := r3.1
  have a16 : K.2.1 (p + 16) = (20, 10) := r3.2.2.2.2.1 1 (by omega)
  intro k
  induction k with
  | zero =>
    intro i I J S v4 v5 hi hR hC hw hs hq
    have z3 : I (p + 13) 2 = nI (P.1 2) := hR.2.2.2.1.1
    have b3 : P.1 2 ≤ 10 := hR.2.2.2.1.2
    refine e_iload_n rfl rfl ?_
    refine e_aload_n rfl rfl ?_
    refine e_getP rfl f0_15 (by assumption) rfl (by assumption) ?_
    refine e_getP rfl f0_59 (by assumption) rfl (by assumption) ?_
    refine e_getI rfl f0_69 (by assumption) rfl ?_
    rw [z3]
    first | refine e_icmp_geN (tgt := 143) rfl rfl (by omega) (by omega) (fun z => ?_) (fun z => ?_) | refine e_icmp_ge (tgt := 143) rfl rfl (fun z => ?_) (fun z => ?_)
    · refine e_return rfl rfl ?_
      exact hq I J FD.rf hC
    · omega
  | succ k ih =>
    intro i I J S v4 v5 hi hR hC hw hs hq
    have z3 : I (p + 13) 2 = nI (P.1 2) := hR.2.2.2.1.1
    have b3 : P.1 2 ≤ 10 := hR.2.2.2.1.2
    have hn7 := hC.1
    have hn8 := hC.2.1
    have k8 : I s 8 = S 8 0 := hC.2.2.2.2.2.1.1
    have k9 : I s 9 = S 9 0 := hC.2.2.2.2.2.1.2.1
    have k13 : I s 13 = S 13 0 := hC.2.2.2.2.2.1.2.2.2.2.2
    obtain ⟨t, ht, et⟩ := hW.2.1 i (by omega)
    rw [hn] at ht
    have e0 : I (s + 1) t = S 0 t := (hC.2.2.1 t ht).1
    have o8 : I (p + 13 + 2 + 0) i = nI t := (hR.2.2.2.2.2.2.2.1 0 (by omega) i (by omega)).trans et
    have o9 : I (p + 16) i = P.2 9 i := hR.2.2.2.2.2.2.2.1 1 (by omega) i (by omega)
    have skip : ∀ v5, ot1 P way sp n S i = S → Gw l G (d + 4) m0_openTold 137 [.ref D, .ref s, .ref (p + 16), .int (nI i), .int (nI t), v5] [] (I, J, K) Q := by
      intro v5 e
      rw [otS, e] at hq
      first | refine e_inc3 rfl rfl rfl (incN1 _) ?_ | refine e_inc3 rfl rfl rfl rfl ?_
      refine e_goto (tgt := 14) rfl rfl ?_
      exact ih (i + 1) I J S _ _ (by omega) hR hC hw hs hq
    have goon : ∀ I1 J1 v5, FD I J I1 J1 D p s → RC I1 J1 s n (ot1 P way sp n S i) → Gw l G (d + 4) m0_openTold 137 [.ref D, .ref s, .ref (p + 16), .int (nI i), .int (nI t), v5] [] (I1, J1, K) Q := by
      intro I1 J1 v5 hf hC1
      rw [otS] at hq
      first | refine e_inc3 rfl rfl rfl (incN1 _) ?_ | refine e_inc3 rfl rfl rfl rfl ?_
      refine e_goto (tgt := 14) rfl rfl ?_
      exact ih (i + 1) I1 J1 _ _ _ (by omega) (hf.rp hdp hds hR) hC1 (by rw [hf.1 D (by omega) (by omega)]; exact hw) (by rw [hf.1 D (by omega) (by omega)]; exact hs) (fun I' J' f2 c2 => hq I' J' (hf.tr f2) c2)
    have main : ∀ spd : Bool, (spd = true ↔ (way = nI 2 ∧ P.2 8 i = sp)) → Gw l G (d + 4) m0_openTold 64 [.ref D, .ref s, .ref (p + 16), .int (nI i), .int (nI t), v5] [.int (bI spd)] (I, J, K) Q := by
      intro spd hspd
      refine e_ist5 rfl rfl rfl ?_
      refine e_aload_n rfl rfl ?_
      refine e_iload_n rfl rfl ?_
      first | refine e_ialoadN rfl (by assumption) (by omega) (by omega) ?_ | (refine e_iaload rfl (by assumption) ?_ ?_; rotate_left)
      refine e_aload_n rfl rfl ?_
      refine e_getI rfl f0_30 (by assumption) rfl ?_
      rw [o9, k8]
      first | refine e_icmp_neN (tgt := 137) rfl rfl (by omega) (by omega) (fun z => ?_) (fun z => ?_) | refine e_icmp_ne (tgt := 137) rfl rfl (fun z => ?_) (fun z => ?_)
      · exact skip _ (ot1_none (fun q => absurd q.1 (by assumption)))
      · have hday : P.2 9 i = S 8 0 := by assumption
        refine e_iload rfl rfl ?_
        first | refine e_if_neB (tgt := 137) rfl rfl (fun z => ?_) (fun z => ?_) | refine e_if_neN (tgt := 137) rfl rfl (by omega) (fun z => ?_) (fun z => ?_) | refine e_if_ne (tgt := 137) rfl rfl (fun z => ?_) (fun z => ?_)
        · exact skip _ (ot1_none (fun q => q.2 (hspd.mp (by assumption))))
        · have hsp : spd = false := by assumption
          have hc1 : P.2 9 i = S 8 0 ∧ ¬ (way = nI 2 ∧ P.2 8 i = sp) := ⟨hday, fun q => absurd (hspd.mpr q) (by rw [hsp]; decide)⟩
          have refuse : ¬ (0 < S 9 0 ∧ (if way = nI 3 then decide (S 0 t = 0) else topS S n t) = true) → Gw l G (d + 4) m0_openTold 127 [.ref D, .ref s, .ref (p + 16), .int (nI i), .int (nI t), .int (bI spd)] [] (I, J, K) Q := by
            intro hno
            refine e_aload_n rfl rfl ?_
            refine e_dup rfl rfl ?_
            refine e_getI rfl f0_90 (by assumption) rfl ?_
            rw [k13]
            refine e_iconst (v := nI 1) rfl ic_1N ?_
            refine e_iadd rfl ?_
            refine e_putI rfl f0_90 (by assumption) rfl rfl ?_
            refine goon _ _ _ ⟨fun c h1 h2 => u2_row _ _ (by omega), fun _ _ _ => rfl, u2_row _ _ (by omega), u2_row _ _ (by omega)⟩ ?_
            rw [ot1, if_pos hc1, et, nI_clamp (by omega), if_neg hno]
            exact hC.up13 _
          have doIt : (0 < S 9 0 ∧ (if way = nI 3 then decide (S 0 t = 0) else topS S n t) = true) → Gw l G (d + 4) m0_openTold 117 [.ref D, .ref s, .ref (p + 16), .int (nI i), .int (nI t), .int (bI spd)] [] (I, J, K) Q := by
            intro hyes
            refine e_aload_n rfl rfl ?_
            refine e_aload_n rfl rfl ?_
            refine e_iload rfl rfl ?_
            refine e_callV (kd := 0) (M2 := m0_unseal) rfl v0_86 ok0_unseal (c0_unseal hH hR hW hC hn ht) rfl (by assumption) rfl rfl rfl rfl (fun r1 h1 q1 => ?_)
            obtain ⟨rfl, I1, J1, rfl, f1, C1⟩ := q1
            refine e_goto (tgt := 137) rfl rfl ?_
            refine goon _ _ _ f1 ?_
            rw [ot1, if_pos hc1, et, nI_clamp (by omega), if_pos hyes]
            exact C1
          refine e_aload_n rfl rfl ?_
          refine e_getI rfl f0_76 (by assumption) rfl ?_
          rw [k9]
          first | refine e_if_leN (tgt := 127) rfl rfl (by omega) (fun z => ?_) (fun z => ?_) | refine e_if_le (tgt := 127) rfl rfl (fun z => ?_) (fun z => ?_)
          · exact refuse (fun q => absurd q.1 (Int32.not_lt.mpr (by assumption)))
          · have hk : 0 < S 9 0 := Int32.not_le.mp (by assumption)
            refine e_aload_n rfl rfl ?_
            refine e_getI rfl f0_23 (by assumption) rfl ?_
            rw [hw]
            refine e_iconst (v := nI 3) rfl ic_3N ?_
            first | refine e_icmp_neN (tgt := 108) rfl rfl (by omega) (by omega) (fun z => ?_) (fun z => ?_) | refine e_icmp_ne (tgt := 108) rfl rfl (fun z => ?_) (fun z => ?_)
            · have hw3 : ¬ way = nI 3 := by assumption
              have ets : decide (cnt (abv I s t) n = 0) = decide (cnt (abS S t) n = 0) := by rw [hC.cnt ht]
              refine e_aload_n rfl rfl ?_
              refine e_iload rfl rfl ?_
              refine e_callVp (kd := 6) (M2 := m6_isOnTop) rfl v0_83 ok6_isOnTop (c6_isOnTop hS hn7 hn8 (nI t)) rfl (by assumption) rfl rfl rfl rfl ?_
              first | refine e_if_eqB (tgt := 127) rfl rfl (fun z => ?_) (fun z => ?_) | refine e_if_eqN (tgt := 127) rfl rfl (by omega) (fun z => ?_) (fun z => ?_) | refine e_if_eq (tgt := 127) rfl rfl (fun z => ?_) (fun z => ?_)
              · rw [inN_nI (by omega) (by omega), decide_eq_true ht, Bool.true_and, nI_clamp (by omega), e0, ets] at z
                exact refuse (fun q => absurd q.2 (by rw [if_neg hw3, topS, z]; decide))
              · rw [inN_nI (by omega) (by omega), decide_eq_true ht, Bool.true_and, nI_clamp (by omega), e0, ets] at z
                exact doIt ⟨hk, by rw [if_neg hw3, topS, z]⟩
            · have hw3 : way = nI 3 := by assumption
              refine e_aload_n rfl rfl ?_
              refine e_iload rfl rfl ?_
              refine e_callVp (kd := 6) (M2 := m6_isClosed) rfl v0_79 ok6_isClosed (c6_isClosed hS hn7 hn8 (nI t)) rfl (by assumption) rfl rfl rfl rfl ?_
              first | refine e_if_eqB (tgt := 127) rfl rfl (fun z => ?_) (fun z => ?_) | refine e_if_eqN (tgt := 127) rfl rfl (by omega) (fun z => ?_) (fun z => ?_) | refine e_if_eq (tgt := 127) rfl rfl (fun z => ?_) (fun z => ?_)
              · rw [inN_nI (by omega) (by omega), decide_eq_true ht, Bool.true_and, nI_clamp (by omega), e0] at z
                exact refuse (fun q => absurd q.2 (by rw [if_pos hw3, z]; decide))
              · rw [inN_nI (by omega) (by omega), decide_eq_true ht, Bool.true_and, nI_clamp (by omega), e0] at z
                refine e_goto (tgt := 117) rfl rfl ?_
                exact doIt ⟨hk, by rw [if_pos hw3, z]⟩
    refine e_iload_n rfl rfl ?_
    refine e_aload_n rfl rfl ?_
    refine e_getP rfl f0_15 (by assumption) rfl (by assumption) ?_
    refine e_getP rfl f0_59 (by assumption) rfl (by assumption) ?_
    refine e_getI rfl f0_69 (by assumption) rfl ?_
    rw [z3]
    first | refine e_icmp_geN (tgt := 143) rfl rfl (by omega) (by omega) (fun z => ?_) (fun z => ?_) | refine e_icmp_ge (tgt := 143) rfl rfl (fun z => ?_) (fun z => ?_)
    · omega
    · refine e_aload_n rfl rfl ?_
      refine e_getP rfl f0_15 (by assumption) rfl (by assumption) ?_
      refine e_getP rfl f0_59 (by assumption) rfl (by assumption) ?_
      refine e_iload_n rfl rfl ?_
      refine e_iconst (v := nI 0) rfl ic_0N ?_
      refine e_callVp (kd := 4) (M2 := m4_at) rfl v0_72 ok4_at (c4_at r3 z3 b3 (by omega) _) rfl (by assumption) rfl rfl rfl rfl ?_
      rw [rAt_nI (by omega) (by omega), o8]
      refine e_ist4 rfl rfl rfl ?_
      refine e_aload_n rfl rfl ?_
      refine e_getI rfl f0_23 (by assumption) rfl ?_
      rw [hw]
      refine e_iconst (v := nI 2) rfl ic_2N ?_
      first | refine e_icmp_neN (tgt := 63) rfl rfl (by omega) (by omega) (fun z => ?_) (fun z => ?_) | refine e_icmp_ne (tgt := 63) rfl rfl (fun z => ?_) (fun z => ?_)
      · refine e_iconst (v := nI 0) rfl ic_0N ?_
        exact main false ⟨fun q => (by cases q), fun q => absurd q.1 (by assumption)⟩
      · have hw2 : way = nI 2 := by assumption
        refine e_iload rfl rfl ?_
        refine e_aload_n rfl rfl ?_
        refine e_getI rfl f0_27 (by assumption) rfl ?_
        rw [hs]
        first | refine e_icmp_neN (tgt := 63) rfl rfl (by omega) (by omega) (fun z => ?_) (fun z => ?_) | refine e_icmp_ne (tgt := 63) rfl rfl (fun z => ?_) (fun z => ?_)
        · refine e_iconst (v := nI 0) rfl ic_0N ?_
          exact main false ⟨fun q => (by cases q), fun q => absurd (et.symm.trans q.2) (by assumption)⟩
        · refine e_iconst (v := nI 1) rfl ic_1N ?_
          refine e_goto (tgt := 64) rfl rfl ?_
          exact main true ⟨fun _ => ⟨hw2, et.trans (by assumption)⟩, fun _ => rfl⟩
theorem c0_openTold (hH : HD K D p s) (hR : RP I p P) (hW : wfP P) (hC : RC I J s n S) (hn : P.1 1 = n) {way sp : Int32} (hw : I D 3 = way) (hs : I D 4 = sp) : Cw l G (d + 4) m0_openTold [.ref D, .ref s] (I, J, K) (fun r h' => r = none ∧ ∃ I' J', h' = (I', J', K) ∧ FD I J I' J' D p s ∧ RC I' J' s n (otS P way sp n 0 (P.1 2) S)) := by
  have h0 := hH.1.1
  have d0 := hH.1.2.1
  have hP2 := hH.2.1
  obtain ⟨h3, q0, q1, q2, q3, q4, r1, r2, r3, r4, r5⟩ := hP2
  have g3 := r3.1
  refine Cw.of ok0_openTold rfl (rfl : argL _ _ = [.ref D, .ref s, .null, .null, .null, .null]) ?_
  refine e_aload_n rfl rfl ?_
  refine e_getP rfl f0_15 (by assumption) rfl (by assumption) ?_
  refine e_getP rfl f0_59 (by assumption) rfl (by assumption) ?_
  refine e_iconst (v := nI 1) rfl ic_1N ?_
  refine e_callVp (kd := 4) (M2 := m4_column) rfl v0_63 ok4_column (c4_column r3 (by omega)) rfl (by assumption) rfl rfl rfl rfl ?_
  refine e_ast2 rfl rfl rfl ?_
  refine e_iconst (v := nI 0) rfl ic_0N ?_
  refine e_ist3 rfl rfl rfl ?_
  exact openTold_loop hH hW hn way sp (P.1 2) 0 I J S _ _ (by omega) hR hC hw hs (fun I' J' f c => ⟨rfl, I', J', rfl, f, c⟩)
theorem server_loop (hS : isState K s) (a9 : K.2.1 (p + 9) = (20, 8)) (hR : RP I p P) (hC : RC I J s n S) (hn : P.1 1 = n) (kd busy : Int32) : ∀ k i, i + k = n → Q (some (.int (srv P S kd busy i k))) (I, J, K) → Gw l G (d + 1) m0_server 16 [.ref D, .ref s, .int kd, .int busy, .ref (p + 9), .int (nI i)] [] (I, J, K) Q := by
  obtain ⟨h6, p0, p1, p2, p3, p4, p5, p6, a1, a2, a3, a4, a5, a6, a7⟩ := hS
  have hn7 := hC.1
  have hn8 := hC.2.1
  intro k
  induction k with
  | zero =>
    intro i hi hq
    refine e_iload rfl rfl ?_
    refine e_aload_n rfl rfl ?_
    refine e_getI rfl f0_144 (by assumption) rfl ?_
    rw [hn7]
    first | refine e_icmp_geN (tgt := 63) rfl rfl (by omega) (by omega) (fun z => ?_) (fun z => ?_) | refine e_icmp_ge (tgt := 63) rfl rfl (fun z => ?_) (fun z => ?_)
    · refine e_iconst rfl ic_m1 ?_
      refine e_ireturn rfl rfl ?_
      exact hq
    · omega
  | succ k ih =>
    intro i hi hq
    have e0 : I (s + 1) i = S 0 i := (hC.2.2.1 i (by omega)).1
    have e4 : I (p + 9) i = P.2 4 i := hR.2.2.2.2.2.2.1 1 (by omega) i (by omega)
    have next : ¬ (S 0 i = nI 1 ∧ P.2 4 i = kd ∧ bitOf busy (nI i) = false) → Gw l G (d + 1) m0_server 57 [.ref D, .ref s, .int kd, .int busy, .ref (p + 9), .int (nI i)] [] (I, J, K) Q := by
      intro hno
      rw [srv, if_neg hno] at hq
      first | refine e_inc5 rfl rfl rfl (incN1 _) ?_ | refine e_inc5 rfl rfl rfl rfl ?_
      refine e_goto (tgt := 16) rfl rfl ?_
      exact ih (i + 1) (by omega) hq
    refine e_iload rfl rfl ?_
    refine e_aload_n rfl rfl ?_
    refine e_getI rfl f0_144 (by assumption) rfl ?_
    rw [hn7]
    first | refine e_icmp_geN (tgt := 63) rfl rfl (by omega) (by omega) (fun z => ?_) (fun z => ?_) | refine e_icmp_ge (tgt := 63) rfl rfl (fun z => ?_) (fun z => ?_)
    · omega
    · refine e_aload_n rfl rfl ?_
      refine e_getP rfl f0_96 (by assumption) rfl (by assumption) ?_
      refine e_iload rfl rfl ?_
      first | refine e_ialoadN rfl (by assumption) (by omega) (by omega) ?_ | (refine e_iaload rfl (by assumption) ?_ ?_; rotate_left)
      rw [e0]
      refine e_iconst (v := nI 1) rfl ic_1N ?_
      first | refine e_icmp_neN (tgt := 57) rfl rfl (by omega) (by omega) (fun z => ?_) (fun z => ?_) | refine e_icmp_ne (tgt := 57) rfl rfl (fun z => ?_) (fun z => ?_)
      · exact next (fun q => absurd q.1 (by assumption))
      · have y1 : S 0 i = nI 1 := by assumption
        refine e_aload rfl rfl ?_
        refine e_iload rfl rfl ?_
        first | refine e_ialoadN rfl (by assumption) (by omega) (by omega) ?_ | (refine e_iaload rfl (by assumption) ?_ ?_; rotate_left)
        rw [e4]
        refine e_iload_n rfl rfl ?_
        first | refine e_icmp_neN (tgt := 57) rfl rfl (by omega) (by omega) (fun z => ?_) (fun z => ?_) | refine e_icmp_ne (tgt := 57) rfl rfl (fun z => ?_) (fun z => ?_)
        · exact next (fun q => absurd q.2.1 (by assumption))
        · have y2 : P.2 4 i = kd := by assumption
          refine e_iload_n rfl rfl ?_
          refine e_iload rfl rfl ?_
          refine e_callSNp (M2 := m9_isBit) rfl v0_146 ok9_isBit (c9_isBit busy (nI i)) rfl rfl rfl ?_
          first | refine e_if_neB (tgt := 57) rfl rfl (fun z => ?_) (fun z => ?_) | refine e_if_neN (tgt := 57) rfl rfl (by omega) (fun z => ?_) (fun z => ?_) | refine e_if_ne (tgt := 57) rfl rfl (fun z => ?_) (fun z => ?_)
          · exact next (fun q => absurd q.2.2 (by rw [z]; decide))
          · have y3 : bitOf busy (nI i) = false := by assumption
            rw [srv, if_pos ⟨y1, y2, y3⟩] at hq
            refine e_iload rfl rfl ?_
            refine e_ireturn rfl rfl ?_
            exact hq
theorem c0_server (hH : HD K D p s) (hR : RP I p P) (hC : RC I J s n S) (hn : P.1 1 = n) (kd busy : Int32) : Cp l G (d + 1) m0_server [.ref D, .ref s, .int kd, .int busy] (I, J, K) (.int (srv P S kd busy 0 n)) := by
  have h0 := hH.1.1
  have d0 := hH.1.2.1
  have hP2 := hH.2.1
  obtain ⟨h3, q0, q1, q2, q3, q4, r1, r2, r3, r4, r5⟩ := hP2
  have g2 := r2.1
  refine Cp.of ok0_server rfl (rfl : argL _ _ = [.ref D, .ref s, .int kd, .int busy, .null, .null]) ?_
  refine e_aload_n rfl rfl ?_
  refine e_getP rfl f0_15 (by assumption) rfl (by assumption) ?_
  refine e_getP rfl f0_141 (by assumption) rfl (by assumption) ?_
  refine e_iconst (v := nI 1) rfl ic_1N ?_
  refine e_callVp (kd := 4) (M2 := m4_column) rfl v0_63 ok4_column (c4_column r2 (by omega)) rfl (by assumption) rfl rfl rfl rfl ?_
  refine e_ast4 rfl rfl rfl ?_
  refine e_iconst (v := nI 0) rfl ic_0N ?_
  refine e_ist5 rfl rfl rfl ?_
  exact server_loop hH.2.2.1 (r2.2.2.2.2.1 1 (by omega)) hR hC hn kd busy n 0 (by omega) ⟨rfl, rfl⟩
theorem srv_in {kd busy : Int32} : ∀ k i, i + k < 2 ^ 31 → srv P S kd busy i k = -1 ∨ ∃ t, i ≤ t ∧ t < i + k ∧ srv P S kd busy i k = nI t
  | 0, _, _ => Or.inl rfl
  | k + 1, i, hb => by
    rw [srv]
    split
    · exact Or.inr ⟨i, by omega, by omega, rfl⟩
    · rcases srv_in k (i + 1) (by omega) with h | ⟨t, h1, h2, h3⟩
      · exact Or.inl h
      · exact Or.inr ⟨t, by omega, by omega, h3⟩
set_option maxHeartbeats 2000000 in
theorem serve_loop (hH : HD K D p s) (hW : wfP P) (hn : P.1 1 = n) : ∀ k i I J S busy v5 v6 v7, i + k = P.1 3 → RP I p P → RC I J s n S → (∀ I' J', FD I J I' J' D p s → RC I' J' s n (svS P n i k busy S) → Q none (I', J', K)) → Gw l G (d + 3) m0_serve 17 [.ref D, .ref s, .ref (p + 20), .int busy, .int (nI i), v5, v6, v7] [] (I, J, K) Q := by
  have hH2 := hH
  obtain ⟨⟨h0, d0, d1, d7⟩, hP, hS, hdp, hds⟩ := hH2
  have hP2 := hP
  obtain ⟨h3, q0, q1, q2, q3, q4, r1, r2, r3, r4, r5⟩ := hP2
  have hS2 := hS
  obtain ⟨h6, p0, p1, p2, p3, p4, p5, p6, a1, a2, a3, a4, a5, a6, a7⟩ := hS2
  have g4 := r4.1
  have g5 := r5.1
  have a20 : K.2.1 (p + 20) = (20, 8) := r4.2.2.2.2.1 1 (by omega)
  intro k
  induction k with
  | zero =>
    intro i I J S busy v5 v6 v7 hi hR hC hq
    have z4 : I (p + 17) 2 = nI (P.1 3) := hR.2.2.2.2.1.1
    have b4 : P.1 3 ≤ 8 := hR.2.2.2.2.1.2
    refine e_iload rfl rfl ?_
    refine e_aload_n rfl rfl ?_
    refine e_getP rfl f0_15 (by assumption) rfl (by assumption) ?_
    refine e_getP rfl f0_120 (by assumption) rfl (by assumption) ?_
    refine e_getI rfl f0_69 (by assumption) rfl ?_
    rw [z4]
    first | refine e_icmp_geN (tgt := 186) rfl rfl (by omega) (by omega) (fun z => ?_) (fun z => ?_) | refine e_icmp_ge (tgt := 186) rfl rfl (fun z => ?_) (fun z => ?_)
    · refine e_return rfl rfl ?_
      exact hq I J FD.rf hC
    · omega
  | succ k ih =>
    intro i I J S busy v5 v6 v7 hi hR hC hq
    have z4 : I (p + 17) 2 = nI (P.1 3) := hR.2.2.2.2.1.1
    have b4 : P.1 3 ≤ 8 := hR.2.2.2.2.1.2
    have hn7 := hC.1
    have hn8 := hC.2.1
    have k8 : I s 8 = S 8 0 := hC.2.2.2.2.2.1.1
    have k10 : I s 10 = S 10 0 := hC.2.2.2.2.2.1.2.2.1
    have k11 : I s 11 = S 11 0 := hC.2.2.2.2.2.1.2.2.2.1
    have k12 : I s 12 = S 12 0 := hC.2.2.2.2.2.1.2.2.2.2.1
    have w10 : I (p + 17 + 2 + 0) i = P.2 10 i := hR.2.2.2.2.2.2.2.2.1 0 (by omega) i (by omega)
    have w11 : I (p + 20) i = P.2 11 i := hR.2.2.2.2.2.2.2.2.1 1 (by omega) i (by omega)
    have w12 : I (p + 17 + 2 + 2) i = P.2 12 i := hR.2.2.2.2.2.2.2.2.1 2 (by omega) i (by omega)
    have goon : ∀ I1 J1 b1 v5 v6 v7, FD I J I1 J1 D p s → RC I1 J1 s n (sv1 P n busy S i).2 → b1 = (sv1 P n busy S i).1 → Gw l G (d + 3) m0_serve 180 [.ref D, .ref s, .ref (p + 20), .int b1, .int (nI i), v5, v6, v7] [] (I1, J1, K) Q := by
      intro I1 J1 b1 v5 v6 v7 hf hC1 hb1
      subst hb1
      rw [svS] at hq
      first | refine e_inc4 rfl rfl rfl (incN1 _) ?_ | refine e_inc4 rfl rfl rfl rfl ?_
      refine e_goto (tgt := 17) rfl rfl ?_
      exact ih (i + 1) I1 J1 _ _ _ _ _ (by omega) (hf.rp hdp hds hR) hC1 (fun I' J' f2 c2 => hq I' J' (hf.tr f2) c2)
    refine e_iload rfl rfl ?_
    refine e_aload_n rfl rfl ?_
    refine e_getP rfl f0_15 (by assumption) rfl (by assumption) ?_
    refine e_getP rfl f0_120 (by assumption) rfl (by assumption) ?_
    refine e_getI rfl f0_69 (by assumption) rfl ?_
    rw [z4]
    first | refine e_icmp_geN (tgt := 186) rfl rfl (by omega) (by omega) (fun z => ?_) (fun z => ?_) | refine e_icmp_ge (tgt := 186) rfl rfl (fun z => ?_) (fun z => ?_)
    · omega
    · refine e_aload_n rfl rfl ?_
      refine e_iload rfl rfl ?_
      first | refine e_ialoadN rfl (by assumption) (by omega) (by omega) ?_ | (refine e_iaload rfl (by assumption) ?_ ?_; rotate_left)
      refine e_aload_n rfl rfl ?_
      refine e_getI rfl f0_30 (by assumption) rfl ?_
      rw [w11, k8]
      first | refine e_icmp_neN (tgt := 180) rfl rfl (by omega) (by omega) (fun z => ?_) (fun z => ?_) | refine e_icmp_ne (tgt := 180) rfl rfl (fun z => ?_) (fun z => ?_)
      · have hno : ¬ P.2 11 i = S 8 0 := by assumption
        have e : sv1 P n busy S i = (busy, S) := if_neg hno
        exact goon I J busy _ _ _ FD.rf (by rw [e]; exact hC) (by rw [e])
      · have hyes : P.2 11 i = S 8 0 := by assumption
        refine e_aload_n rfl rfl ?_
        refine e_aload_n rfl rfl ?_
        refine e_aload_n rfl rfl ?_
        refine e_getP rfl f0_15 (by assumption) rfl (by assumption) ?_
        refine e_getP rfl f0_120 (by assumption) rfl (by assumption) ?_
        refine e_iload rfl rfl ?_
        refine e_iconst (v := nI 0) rfl ic_0N ?_
        refine e_callVp (kd := 4) (M2 := m4_at) rfl v0_72 ok4_at (c4_at r4 z4 b4 (by omega) _) rfl (by assumption) rfl rfl rfl rfl ?_
        rw [rAt_nI (by omega) (by omega), w10]
        refine e_iload_n rfl rfl ?_
        refine e_callVp (kd := 0) (M2 := m0_server) rfl v0_123 ok0_server (c0_server hH hR hC hn _ _) rfl (by assumption) rfl rfl rfl rfl ?_
        obtain ⟨x, ex⟩ : ∃ x, x = srv P S (P.2 10 i) busy 0 n := ⟨_, rfl⟩
        rw [← ex]
        refine e_ist5 rfl rfl rfl ?_
        refine e_iload rfl rfl ?_
        refine e_iconst rfl ic_m1 ?_
        first | refine e_icmp_neN (tgt := 91) rfl rfl (by omega) (by omega) (fun z => ?_) (fun z => ?_) | refine e_icmp_ne (tgt := 91) rfl rfl (fun z => ?_) (fun z => ?_)
        · have hx : ¬ x = -1 := by assumption
          obtain ⟨t, -, ht, et⟩ := (srv_in (P := P) (S := S) (kd := P.2 10 i) (busy := busy) n 0 (by omega)).resolve_left (by rw [← ex]; exact hx)
          rw [← ex] at et
          subst et
          rw [Nat.zero_add] at ht
          have e5 : I (s + 6) t = S 5 t := (hC.2.2.1 t ht).2.2.2.2
          refine e_iload_n rfl rfl ?_
          refine e_iconst (v := nI 1) rfl ic_1N ?_
          refine e_iload rfl rfl ?_
          refine e_ishl rfl ?_
          refine e_ior rfl ?_
          refine e_ist3 rfl rfl rfl ?_
          refine e_aload_n rfl rfl ?_
          refine e_getP rfl f0_127 (by assumption) rfl (by assumption) ?_
          refine e_iload rfl rfl ?_
          refine e_iconst (v := nI 1) rfl ic_1N ?_
          first | refine e_iastoreN rfl (by assumption) (by omega) (by omega) ?_ | (refine e_iastore rfl (by assumption) ?_ ?_; rotate_left)
          refine e_aload_n rfl rfl ?_
          refine e_dup rfl rfl ?_
          refine e_getI rfl f0_132 (by assumption) rfl ?_
          simp (disch := omega) only [u2_ne]
          rw [k11]
          refine e_iconst (v := nI 1) rfl ic_1N ?_
          refine e_iadd rfl ?_
          refine e_putI rfl f0_132 (by assumption) rfl rfl ?_
          refine e_aload_n rfl rfl ?_
          refine e_getP rfl f0_135 (by assumption) rfl (by assumption) ?_
          refine e_iload rfl rfl ?_
          refine e_dup2 rfl rfl rfl ?_
          first | refine e_ialoadN rfl (by assumption) (by omega) (by omega) ?_ | (refine e_iaload rfl (by assumption) ?_ ?_; rotate_left)
          simp (disch := omega) only [u2_ne]
          rw [e5]
          refine e_iconst (v := nI 1) rfl ic_1N ?_
          refine e_iadd rfl ?_
          first | refine e_iastoreN rfl (by assumption) (by omega) (by omega) ?_ | (refine e_iastore rfl (by assumption) ?_ ?_; rotate_left)
          have hC1 : RC (u2 (u2 (u2 I (s + 7) i (nI 1)) s 11 (S 11 0 + nI 1)) (s + 6) t (S 5 t + nI 1)) J s n (u2 (u2 (u2 S 6 i (nI 1)) 11 0 (S 11 0 + nI 1)) 5 t (S 5 t + nI 1)) := ((hC.up6 (by omega) _).up11 _).up5 ht _
          have hR1 : RP (u2 (u2 (u2 I (s + 7) i (nI 1)) s 11 (S 11 0 + nI 1)) (s + 6) t (S 5 t + nI 1)) p P := hR.frame (fun c h1 h2 => by funext y; simp (disch := omega) only [u2_ne])
          have f1 : FD I J (u2 (u2 (u2 I (s + 7) i (nI 1)) s 11 (S 11 0 + nI 1)) (s + 6) t (S 5 t + nI 1)) J D p s := ⟨fun c h1 h2 => by funext y; simp (disch := omega) only [u2_ne], fun _ _ _ => rfl, by funext y; simp (disch := omega) only [u2_ne], by funext y; simp (disch := omega) only [u2_ne]⟩
          generalize u2 (u2 (u2 I (s + 7) i (nI 1)) s 11 (S 11 0 + nI 1)) (s + 6) t (S 5 t + nI 1) = I1 at hC1 hR1 f1
          have z41 : I1 (p + 17) 2 = nI (P.1 3) := hR1.2.2.2.2.1.1
          have w121 : I1 (p + 17 + 2 + 2) i = P.2 12 i := hR1.2.2.2.2.2.2.2.2.1 2 (by omega) i (by omega)
          have k101 : I1 s 10 = S 10 0 := by
            have := hC1.2.2.2.2.2.1.2.2.1
            simp (disch := omega) only [u2_ne] at this
            exact this
          refine e_aload_n rfl rfl ?_
          refine e_getP rfl f0_15 (by assumption) rfl (by assumption) ?_
          refine e_getP rfl f0_102 (by assumption) rfl (by assumption) ?_
          refine e_iconst (v := nI 1) rfl ic_1N ?_
          refine e_aload_n rfl rfl ?_
          refine e_aload_n rfl rfl ?_
          refine e_iload rfl rfl ?_
          refine e_iload rfl rfl ?_
          refine e_callV (kd := 0) (M2 := m0_namesOf) rfl v0_106 ok0_namesOf (c0_namesOf hH hR1 hW hC1 hn ht (wo := P.2 12 i) (by rw [rAt_nI (by omega) (by omega)]; exact w121)) rfl (by assumption) rfl rfl rfl rfl (fun r1 h1 q1 => ?_)
          obtain ⟨rfl, I2, rfl, f2, n2⟩ := q1
          have hR2 : RP I2 p P := hR1.frame (fun c h1 h2 => f2 c (by omega))
          have e : nmS P (u2 (u2 (u2 S 6 i (nI 1)) 11 0 (S 11 0 + nI 1)) 5 t (S 5 t + nI 1)) t (P.2 12 i) = nmS P S t (P.2 12 i) := by
            funext y
            unfold nmS
            simp (disch := omega) only [u2_ne]
          refine e_callV (kd := 1) (M2 := m1_work) rfl v0_110 ok1_work (c1_workP hP hR2 hW (by omega) d7 n2) rfl (by assumption) rfl rfl rfl rfl (fun r1 h1 q1 => ?_)
          obtain ⟨rfl, J2, rfl, fj⟩ := q1
          refine e_lst6 rfl rfl rfl ?_
          refine e_aload_n rfl rfl ?_
          refine e_dup rfl rfl ?_
          have k102 : I2 s 10 = S 10 0 := by rw [f2 s (by omega)]; exact k101
          refine e_getI rfl f0_138 (by assumption) rfl ?_
          rw [k102]
          have z42 : I2 (p + 17) 2 = nI (P.1 3) := hR2.2.2.2.2.1.1
          have w122 : I2 (p + 17 + 2 + 2) i = P.2 12 i := hR2.2.2.2.2.2.2.2.2.1 2 (by omega) i (by omega)
          refine e_lload rfl rfl ?_
          refine e_iconst (v := nI 0) rfl ic_0N ?_
          refine e_sipush (v := nI 999) rfl sp_999N ?_
          refine e_aload_n rfl rfl ?_
          refine e_getP rfl f0_15 (by assumption) rfl (by assumption) ?_
          refine e_getP rfl f0_120 (by assumption) rfl (by assumption) ?_
          refine e_iload rfl rfl ?_
          refine e_iconst (v := nI 2) rfl ic_2N ?_
          refine e_callVp (kd := 4) (M2 := m4_at) rfl v0_72 ok4_at (c4_at r4 z42 b4 (by omega) _) rfl (by assumption) rfl rfl rfl rfl ?_
          rw [rAt_nI (by omega) (by omega), w122]
          refine e_callSp (M2 := m0_within) rfl v0_116 ok0_within (c0_within _ _ _ _) rfl rfl rfl ?_
          refine e_iadd rfl ?_
          refine e_putI rfl f0_138 (by assumption) rfl rfl ?_
          have hC2 : RC I2 J2 s n (u2 (u2 (u2 S 6 i (nI 1)) 11 0 (S 11 0 + nI 1)) 5 t (S 5 t + nI 1)) := hC1.frame (fun c h1 h2 => f2 c (by omega)) (by rw [fj s (by omega)])
          have hs1 : sv1 P n busy S i = (busy ||| nI 1 <<< (nI t &&& 31), u2 (u2 (u2 (u2 S 6 i (nI 1)) 11 0 (S 11 0 + nI 1)) 5 t (S 5 t + nI 1)) 10 0 (S 10 0 + wn (lawP P 1 (nmS P S t (P.2 12 i))) (nI 0) (nI 999) (P.2 12 i))) := by
            rw [sv1, if_pos hyes, ← ex, if_neg hx, nI_clamp (by omega)]
          refine goon _ _ _ _ _ _ (f1.tr ⟨?_, ?_, ?_, ?_⟩) ?_ ?_
          · intro c h1 h2
            rw [u2_row _ _ (by omega), f2 c h1]
          · intro c h1 h2
            exact fj c h1
          · rw [u2_row _ _ (by omega), f2 _ (by omega)]
          · rw [u2_row _ _ (by omega), f2 _ (by omega)]
          · rw [hs1, ← e]
            exact hC2.up10 _
          · rw [hs1]
        · have hx : x = -1 := by assumption
          refine e_aload_n rfl rfl ?_
          refine e_getP rfl f0_127 (by assumption) rfl (by assumption) ?_
          refine e_iload rfl rfl ?_
          refine e_iconst (v := nI 2) rfl ic_2N ?_
          first | refine e_iastoreN rfl (by assumption) (by omega) (by omega) ?_ | (refine e_iastore rfl (by assumption) ?_ ?_; rotate_left)
          refine e_aload_n rfl rfl ?_
          refine e_dup rfl rfl ?_
          refine e_getI rfl f0_129 (by assumption) rfl ?_
          simp (disch := omega) only [u2_ne]
          rw [k12]
          refine e_iconst (v := nI 1) rfl ic_1N ?_
          refine e_iadd rfl ?_
          refine e_putI rfl f0_129 (by assumption) rfl rfl ?_
          refine e_goto (tgt := 180) rfl rfl ?_
          have hs1 : sv1 P n busy S i = (busy, u2 (u2 S 6 i (nI 2)) 12 0 (S 12 0 + nI 1)) := by
            rw [sv1, if_pos hyes, ← ex, if_pos hx]
          refine goon _ _ _ _ _ _ ⟨fun c h1 h2 => by funext y; simp (disch := omega) only [u2_ne], fun _ _ _ => rfl, by funext y; simp (disch := omega) only [u2_ne], by funext y; simp (disch := omega) only [u2_ne]⟩ ?_ ?_
          · rw [hs1]
            exact (hC.up6 (by omega) _).up12 _
          · rw [hs1]
theorem c0_serve (hH : HD K D p s) (hR : RP I p P) (hW : wfP P) (hC : RC I J s n S) (hn : P.1 1 = n) : Cw l G (d + 3) m0_serve [.ref D, .ref s] (I, J, K) (fun r h' => r = none ∧ ∃ I' J', h' = (I', J', K) ∧ FD I J I' J' D p s ∧ RC I' J' s n (svS P n 0 (P.1 3) 0 S)) := by
  have h0 := hH.1.1
  have d0 := hH.1.2.1
  have hP2 := hH.2.1
  obtain ⟨h3, q0, q1, q2, q3, q4, r1, r2, r3, r4, r5⟩ := hP2
  have g4 := r4.1
  refine Cw.of ok0_serve rfl (rfl : argL _ _ = [.ref D, .ref s, .null, .null, .null, .null, .null, .null]) ?_
  refine e_aload_n rfl rfl ?_
  refine e_getP rfl f0_15 (by assumption) rfl (by assumption) ?_
  refine e_getP rfl f0_120 (by assumption) rfl (by assumption) ?_
  refine e_iconst (v := nI 1) rfl ic_1N ?_
  refine e_callVp (kd := 4) (M2 := m4_column) rfl v0_63 ok4_column (c4_column r4 (by omega)) rfl (by assumption) rfl rfl rfl rfl ?_
  refine e_ast2 rfl rfl rfl ?_
  refine e_iconst (v := nI 0) rfl ic_0N ?_
  refine e_ist3 rfl rfl rfl ?_
  refine e_iconst (v := nI 0) rfl ic_0N ?_
  refine e_ist4 rfl rfl rfl ?_
  exact serve_loop hH hW hn (P.1 3) 0 I J S _ _ _ _ (by omega) hR hC (fun I' J' f c => ⟨rfl, I', J', rfl, f, c⟩)
end MDays
