/-! ===== the reference: ahead, blows, tried, chance, best, want ===== -/
theorem rn_it {g : SM → SM} : ∀ k i S, rnS (fun _ S => g S) i k S = itS g k S
  | 0, _, _ => rfl
  | k + 1, i, S => by rw [rnS, itS, rn_it k]
theorem rn_add {g : Nat → SM → SM} : ∀ k k' i S, rnS g i (k + k') S = rnS g (i + k) k' (rnS g i k S)
  | 0, k', i, S => by rw [Nat.zero_add, rnS, Nat.add_zero]
  | k + 1, k', i, S => by rw [show k + 1 + k' = (k + k') + 1 by omega, rnS, rnS, rn_add k k' (i + 1), show i + 1 + k = i + (k + 1) by omega]
theorem rn_congr {g h : Nat → SM → SM} : ∀ k i S, (∀ j, i ≤ j → j < i + k → g j = h j) → rnS g i k S = rnS h i k S
  | 0, _, _, _ => rfl
  | k + 1, i, S, e => by rw [rnS, rnS, e i (by omega) (by omega), rn_congr k (i + 1) _ (fun j a b => e j (by omega) (by omega))]
theorem gb_it {P : Pl} {n t q : Nat} {S : SM} (hq : q < 30) : rnS (dayB P n t q) 0 30 S = itS (pa0 P false n) (30 - q) (unsA P (itS (pa0 P false n) q S) t) := by
  obtain ⟨r, hr⟩ : ∃ r, 30 = q + (r + 1) := ⟨29 - q, by omega⟩
  rw [show 30 - q = r + 1 by omega, hr, rn_add, rnS, itS]
  have e1 : rnS (dayB P n t q) 0 q S = itS (pa0 P false n) q S := by
    rw [rn_congr (h := fun _ S => pa0 P false n S) q 0 S (fun j _ b => by funext S; unfold dayB; rw [if_neg (by omega)]), rn_it]
  rw [e1, rn_congr (h := fun _ S => pa0 P false n S) r (0 + q + 1) _ (fun j a _ => by funext S; unfold dayB; rw [if_neg (by omega)]), rn_it]
  unfold dayB
  rw [if_pos (by omega)]
theorem FQm.wr {I : IM} {J : JM} {c i : Nat} {v : Int32} (h : onF 1 c i) : FQm I J (u2 I c i v) J := (FM.w h).fq
section MRun
variable {l : Launch} {G : GG} {d : Nat} {I : IM} {J : JM} {K : Kt} {Q : Option Value → Hp → Prop} {P : Pl} {S : SM} {im : Bool} {SI : SM} {m : Nat} {T : SM} {kn : Int32} {u : Nat} {Hs : Nat → SM} {B n f : Nat}
theorem c10_ahead (hM : MK K) (hI : MI I P S im SI m T kn u Hs B) (hn : P.1 1 = n) (hA : WA P 9900 S) (x w : Int32) : Cw l G (d + 9) m10_ahead [.ref 102, .int x, .int w] (I, J, K) (fun r h' => r = some (.int (a_ahead P n S x w)) ∧ MPst I J K h' P S im SI m T kn u Hs (B + 2)) := by
  have g0 : FQm I J (u2 I 102 0 (nI 0)) J := FQm.w0
  have hI1 := hI.t0 J
  obtain ⟨p1, p2, p3, p4, p5, p6, p7, p8, p9⟩ := hI1
  rw [hn] at p3
  have h8 := p2.1.1.2.1
  have h38 := p2.1.1.2.2.2
  have hW : W1 n S := by rw [← hn]; exact hA.1
  unfold a_ahead
  have no : ¬ (inN 100 x = true ∧ inN 5 w = true) → Gw l G (d + 9) m10_ahead 24 [.ref 102, .int x, .int w] [] (u2 I 102 0 (nI 0), J, K) (fun r h' => r = some (.int (if inN 100 x = true ∧ inN 5 w = true then
    (let R := itS (pa0 P false n) x.toNatClampNeg S
     if w = nI 0 then R 10 0 - S 10 0 else if w = nI 1 then R 11 0 - S 11 0 else if w = nI 2 then R 12 0 - S 12 0 else if w = nI 3 then nI (cnt (fun t => decide (R 0 t = nI 3)) n) - nI (cnt (fun t => decide (S 0 t = nI 3)) n) else R 9 0)
  else -1)) ∧ MPst I J K h' P S im SI m T kn u Hs (B + 2)) := by
    intro hno
    rw [if_neg hno]
    refine e_iconst rfl ic_m1 ?_
    refine e_ireturn rfl rfl ?_
    exact ⟨rfl, hI.fin g0⟩
  refine Cw.of ok10_ahead rfl (rfl : argL _ _ = [.ref 102, .int x, .int w]) ?_
  refine e_aload_n rfl rfl ?_
  refine e_iconst (v := nI 0) rfl ic_0N ?_
  refine e_putI rfl f10_151 hM.k rfl rfl ?_
  refine e_iload_n rfl rfl ?_
  refine e_if_lt (tgt := 24) rfl rfl (fun z => ?_) (fun z => ?_)
  · exact no (fun q => (inN_lo (k := 99) (by omega) q.1).1 z)
  · refine e_iload_n rfl rfl ?_
    refine e_bipush (v := nI 99) rfl bp_99N ?_
    refine e_icmp_gt (tgt := 24) rfl rfl (fun y => ?_) (fun y => ?_)
    · exact no (fun q => absurd (inN_lo (k := 99) (by omega) q.1).2 (Int32.not_le.mpr y))
    · have hin : inN 100 x = true := inN_hi (k := 99) (by omega) z (Int32.not_lt.mp y)
      refine e_iload_n rfl rfl ?_
      refine e_if_lt (tgt := 24) rfl rfl (fun z2 => ?_) (fun z2 => ?_)
      · exact no (fun q => (inN_lo (k := 4) (by omega) q.2).1 z2)
      · refine e_iload_n rfl rfl ?_
        refine e_iconst (v := nI 4) rfl ic_4N ?_
        refine e_icmp_le (tgt := 26) rfl rfl (fun y2 => ?_) (fun y2 => ?_)
        · have hin2 : inN 5 w = true := inN_hi (k := 4) (by omega) z2 y2
          rw [if_pos ⟨hin, hin2⟩]
          obtain ⟨i, hi, rfl⟩ := inN_of (by omega) hin
          rw [nI_clamp (by omega)]
          have hAR : WA P (9900 + i) (itS (pa0 P false n) i S) := by
            have := WA.it p2.1 (dr := false) (way := nI 0) (sp := nI 0) i hA (by omega)
            rw [hn] at this
            exact this
          refine e_aload_n rfl rfl ?_
          refine e_iload_n rfl rfl ?_
          refine e_callV (kd := 10) (M2 := m10_runs) rfl v10_416 ok10_runs (c10_runs (d := d) hM p1 p2 hn p3 hW (by omega) p8 p9) rfl hM.k rfl rfl rfl rfl (fun r1 h1 q1 => ?_)
          obtain ⟨rfl, I1, J1, rfl, g1, R1⟩ := q1
          have R0 : RM I1 0 n S (B + 1) := p3.fm (by omega) g1 (by omega)
          have gq : FQm I J I1 J1 := g0.tr g1.fq
          have hn1 : I1 104 1 = nI n := by rw [g1.row (by omega) (by omega), ← hn]; exact p1.1.2.1
          have hn3 : I1 104 3 = nI (P.1 3) := by rw [g1.row (by omega) (by omega)]; exact p1.1.2.2.2.1
          dsimp only
          generalize itS (pa0 P false n) i S = R at R1 hAR
          refine e_iload_n rfl rfl ?_
          refine sw10_ahead_32 (fun v => ?_) (fun v => ?_) (fun v => ?_) (fun v => ?_) (fun v0 v1 v2 v3 => ?_)
          · rw [if_pos v]
            refine e_aload_n rfl rfl ?_
            refine e_getP rfl f10_87 hM.k rfl hM.p40 ?_
            refine e_iconst (v := nI 1) rfl ic_1N ?_
            first | refine e_ialoadN rfl hM.a40 (by omega) (by omega) ?_ | (refine e_iaload rfl hM.a40 ?_ ?_; rotate_left)
            rw [R1.2.2.1.2.2.1]
            refine e_aload_n rfl rfl ?_
            refine e_getP rfl f10_87 hM.k rfl hM.p40 ?_
            refine e_iconst (v := nI 0) rfl ic_0N ?_
            first | refine e_ialoadN rfl hM.a40 (by omega) (by omega) ?_ | (refine e_iaload rfl hM.a40 ?_ ?_; rotate_left)
            rw [R0.2.2.1.2.2.1]
            refine e_isub rfl ?_
            refine e_ireturn rfl rfl ?_
            exact ⟨rfl, hI.fin gq⟩
          · rw [if_neg (by rw [v]; decide), if_pos v, hAR.2.1.2.1, hA.2.1.2.1]
            refine e_aload_n rfl rfl ?_
            refine e_iconst (v := nI 1) rfl ic_1N ?_
            refine e_iconst (v := nI 1) rfl ic_1N ?_
            refine e_callVp (kd := 10) (M2 := m10_wantsOf) rfl v10_419 ok10_wantsOf (c10_wantsOf (d := d + 8) (f := 1) hM hn3 h38 R1 (by omega) (nI 1)) rfl hM.k rfl rfl rfl rfl ?_
            refine e_aload_n rfl rfl ?_
            refine e_iconst (v := nI 0) rfl ic_0N ?_
            refine e_iconst (v := nI 1) rfl ic_1N ?_
            refine e_callVp (kd := 10) (M2 := m10_wantsOf) rfl v10_419 ok10_wantsOf (c10_wantsOf (d := d + 8) (f := 0) hM hn3 h38 R0 (by omega) (nI 1)) rfl hM.k rfl rfl rfl rfl ?_
            refine e_isub rfl ?_
            refine e_ireturn rfl rfl ?_
            exact ⟨rfl, hI.fin gq⟩
          · rw [if_neg (by rw [v]; decide), if_neg (by rw [v]; decide), if_pos v, hAR.2.1.2.2, hA.2.1.2.2]
            refine e_aload_n rfl rfl ?_
            refine e_iconst (v := nI 1) rfl ic_1N ?_
            refine e_iconst (v := nI 2) rfl ic_2N ?_
            refine e_callVp (kd := 10) (M2 := m10_wantsOf) rfl v10_419 ok10_wantsOf (c10_wantsOf (d := d + 8) (f := 1) hM hn3 h38 R1 (by omega) (nI 2)) rfl hM.k rfl rfl rfl rfl ?_
            refine e_aload_n rfl rfl ?_
            refine e_iconst (v := nI 0) rfl ic_0N ?_
            refine e_iconst (v := nI 2) rfl ic_2N ?_
            refine e_callVp (kd := 10) (M2 := m10_wantsOf) rfl v10_419 ok10_wantsOf (c10_wantsOf (d := d + 8) (f := 0) hM hn3 h38 R0 (by omega) (nI 2)) rfl hM.k rfl rfl rfl rfl ?_
            refine e_isub rfl ?_
            refine e_ireturn rfl rfl ?_
            exact ⟨rfl, hI.fin gq⟩
          · rw [if_neg (by rw [v]; decide), if_neg (by rw [v]; decide), if_neg (by rw [v]; decide), if_pos v]
            refine e_aload_n rfl rfl ?_
            refine e_iconst (v := nI 1) rfl ic_1N ?_
            refine e_iconst (v := nI 3) rfl ic_3N ?_
            refine e_callVp (kd := 10) (M2 := m10_tinsOf) rfl v10_422 ok10_tinsOf (c10_tinsOf (d := d + 8) (f := 1) hM hn1 (by omega) R1 (by omega) (nI 3)) rfl hM.k rfl rfl rfl rfl ?_
            refine e_aload_n rfl rfl ?_
            refine e_iconst (v := nI 0) rfl ic_0N ?_
            refine e_iconst (v := nI 3) rfl ic_3N ?_
            refine e_callVp (kd := 10) (M2 := m10_tinsOf) rfl v10_422 ok10_tinsOf (c10_tinsOf (d := d + 8) (f := 0) hM hn1 (by omega) R0 (by omega) (nI 3)) rfl hM.k rfl rfl rfl rfl ?_
            refine e_isub rfl ?_
            refine e_ireturn rfl rfl ?_
            exact ⟨rfl, hI.fin gq⟩
          · rw [if_neg v0, if_neg v1, if_neg v2, if_neg v3]
            refine e_aload_n rfl rfl ?_
            refine e_getP rfl f10_84 hM.k rfl hM.p39 ?_
            refine e_iconst (v := nI 1) rfl ic_1N ?_
            first | refine e_ialoadN rfl hM.a39 (by omega) (by omega) ?_ | (refine e_iaload rfl hM.a39 ?_ ?_; rotate_left)
            rw [R1.2.2.1.2.1]
            refine e_ireturn rfl rfl ?_
            exact ⟨rfl, hI.fin gq⟩
        · exact no (fun q => absurd (inN_lo (k := 4) (by omega) q.2).2 y2)
theorem mblow_loop (hM : MK K) (hX : wfX P) (hn : P.1 1 = n) {t : Nat} (ht : t < n) {sp : Int32} : ∀ k i I J S, i + k = 99 → MP I P → RM I 1 n S B → W1 n S → I 102 52 = nI 0 → I 102 53 = sp → (∀ I' J', FM 1 I J I' J' → Q (some (.int (bwF P n t k i S))) (I', J', K)) → Gw l G (d + 7) m10_blows 23 [.ref 102, .int (nI t), .int (nI i)] [] (I, J, K) Q := by
  have h8 := hX.1.1.2.1
  intro k
  induction k with
  | zero =>
    intro i I J S hi hP hR hW hw hs kk
    obtain rfl : i = 99 := by omega
    have e0 : I 133 (8 + t) = S 0 t := (hR.1 t ht).1
    rw [bwF] at kk
    refine e_iload_n rfl rfl ?_
    refine e_bipush (v := nI 99) rfl bp_99N ?_
    first | refine e_icmp_gtN (tgt := 56) rfl rfl (by omega) (by omega) (fun z => ?_) (fun z => ?_) | refine e_icmp_gt (tgt := 56) rfl rfl (fun z => ?_) (fun z => ?_)
    · omega
    · refine e_aload_n rfl rfl ?_
      refine e_getP rfl f10_105 hM.k rfl hM.p46 ?_
      refine e_bipush (v := nI 8) rfl bp_8N ?_
      refine e_iload_n rfl rfl ?_
      first | refine e_iaddN rfl ?_ | refine e_iadd rfl ?_
      first | refine e_ialoadN rfl hM.a46 (by omega) (by omega) ?_ | (refine e_iaload rfl hM.a46 ?_ ?_; rotate_left)
      rw [e0]
      refine e_iconst (v := nI 3) rfl ic_3N ?_
      refine e_icmp_ne (tgt := 44) rfl rfl (fun z => ?_) (fun z => ?_)
      · rw [if_neg z] at kk
        refine e_aload_n rfl rfl ?_
        refine e_iconst (v := nI 1) rfl ic_1N ?_
        refine e_iconst (v := nI 0) rfl ic_0N ?_
        refine e_callV (kd := 10) (M2 := m10_passes) rfl v10_387 ok10_passes (c10_passes (d := d) (f := 1) (way := nI 0) (sp := sp) hM hP hX hn hR hW (by omega) false hw hs) rfl hM.k rfl rfl rfl rfl (fun r1 h1 q1 => ?_)
        obtain ⟨rfl, I1, J1, rfl, g1, R1⟩ := q1
        first | refine e_inc2 rfl rfl rfl (incN1 _) ?_ | refine e_inc2 rfl rfl rfl rfl ?_
        refine e_goto (tgt := 23) rfl rfl ?_
        refine e_iload_n rfl rfl ?_
        refine e_bipush (v := nI 99) rfl bp_99N ?_
        first | refine e_icmp_gtN (tgt := 56) rfl rfl (by omega) (by omega) (fun z => ?_) (fun z => ?_) | refine e_icmp_gt (tgt := 56) rfl rfl (fun z => ?_) (fun z => ?_)
        · refine e_bipush rfl bp_m2 ?_
          refine e_ireturn rfl rfl ?_
          exact kk I1 J1 g1
        · omega
      · rw [if_pos z] at kk
        refine e_iload_n rfl rfl ?_
        refine e_ireturn rfl rfl ?_
        exact kk I J FM.rf
  | succ k ih =>
    intro i I J S hi hP hR hW hw hs kk
    have e0 : I 133 (8 + t) = S 0 t := (hR.1 t ht).1
    rw [bwF] at kk
    refine e_iload_n rfl rfl ?_
    refine e_bipush (v := nI 99) rfl bp_99N ?_
    first | refine e_icmp_gtN (tgt := 56) rfl rfl (by omega) (by omega) (fun z => ?_) (fun z => ?_) | refine e_icmp_gt (tgt := 56) rfl rfl (fun z => ?_) (fun z => ?_)
    · omega
    · refine e_aload_n rfl rfl ?_
      refine e_getP rfl f10_105 hM.k rfl hM.p46 ?_
      refine e_bipush (v := nI 8) rfl bp_8N ?_
      refine e_iload_n rfl rfl ?_
      first | refine e_iaddN rfl ?_ | refine e_iadd rfl ?_
      first | refine e_ialoadN rfl hM.a46 (by omega) (by omega) ?_ | (refine e_iaload rfl hM.a46 ?_ ?_; rotate_left)
      rw [e0]
      refine e_iconst (v := nI 3) rfl ic_3N ?_
      refine e_icmp_ne (tgt := 44) rfl rfl (fun z => ?_) (fun z => ?_)
      · rw [if_neg z] at kk
        refine e_aload_n rfl rfl ?_
        refine e_iconst (v := nI 1) rfl ic_1N ?_
        refine e_iconst (v := nI 0) rfl ic_0N ?_
        refine e_callV (kd := 10) (M2 := m10_passes) rfl v10_387 ok10_passes (c10_passes (d := d) (f := 1) (way := nI 0) (sp := sp) hM hP hX hn hR hW (by omega) false hw hs) rfl hM.k rfl rfl rfl rfl (fun r1 h1 q1 => ?_)
        obtain ⟨rfl, I1, J1, rfl, g1, R1⟩ := q1
        first | refine e_inc2 rfl rfl rfl (incN1 _) ?_ | refine e_inc2 rfl rfl rfl rfl ?_
        refine e_goto (tgt := 23) rfl rfl ?_
        rw [pa_0] at R1
        exact ih (i + 1) I1 J1 _ (by omega) (hP.fm g1) R1 (W1_pa hW) (by rw [g1.obj (by omega)]; exact hw) (by rw [g1.obj (by omega)]; exact hs) (fun I2 J2 g2 => kk I2 J2 (g1.tr g2))
      · rw [if_pos z] at kk
        refine e_iload_n rfl rfl ?_
        refine e_ireturn rfl rfl ?_
        exact kk I J FM.rf
theorem c10_blows (hM : MK K) (hI : MI I P S im SI m T kn u Hs B) (hn : P.1 1 = n) (hW : W1 n S) (t : Int32) : Cw l G (d + 7) m10_blows [.ref 102, .int t] (I, J, K) (fun r h' => r = some (.int (a_blows P n S t)) ∧ MPst I J K h' P S im SI m T kn u Hs (B + 2)) := by
  have g0 : FQm I J (u2 I 102 0 (nI 0)) J := FQm.w0
  have hI1 := hI.t0 J
  obtain ⟨p1, p2, p3, p4, p5, p6, p7, p8, p9⟩ := hI1
  rw [hn] at p3
  have h8 := p2.1.1.2.1
  have hn1 : (u2 I 102 0 (nI 0)) 104 1 = nI n := by rw [← hn]; exact p1.1.2.1
  unfold a_blows
  refine Cw.of ok10_blows rfl (rfl : argL _ _ = [.ref 102, .int t, .null]) ?_
  refine e_aload_n rfl rfl ?_
  refine e_iconst (v := nI 0) rfl ic_0N ?_
  refine e_putI rfl f10_151 hM.k rfl rfl ?_
  refine e_aload_n rfl rfl ?_
  refine e_iload_n rfl rfl ?_
  refine e_callVp (kd := 10) (M2 := m10_isTin) rfl v10_397 ok10_isTin (c10_isTin (d := d + 6) hM hn1 t) rfl hM.k rfl rfl rfl rfl ?_
  refine e_if_neB (tgt := 15) rfl rfl (fun z => ?_) (fun z => ?_)
  · rw [if_pos z]
    obtain ⟨i, hi, rfl⟩ := inN_of (by omega) z
    rw [nI_clamp (by omega)]
    refine e_aload_n rfl rfl ?_
    refine e_iconst (v := nI 1) rfl ic_1N ?_
    refine e_iconst (v := nI 0) rfl ic_0N ?_
    refine e_callV (kd := 10) (M2 := m10_copies) rfl v10_391 ok10_copies (c10_copies (d := d + 6) (to := 1) (as := 0) hM (by omega) (by omega) (by omega)) rfl hM.k rfl rfl rfl rfl (fun r1 h1 q1 => ?_)
    obtain ⟨rfl, I1, rfl, C1⟩ := q1
    refine e_iconst (v := nI 0) rfl ic_0N ?_
    refine e_ist2 rfl rfl rfl ?_
    have g1 : FM 1 (u2 I 102 0 (nI 0)) J I1 J := FM.of_cp C1
    exact mblow_loop (sp := -1) hM p2 hn hi 99 0 I1 J S (by omega) (p1.fm g1) (p3.cp (by omega) C1) hW (by rw [g1.obj (by omega)]; exact p8) (by rw [g1.obj (by omega)]; exact p9) (fun I2 J2 g2 => ⟨rfl, hI.fin (g0.tr (g1.tr g2).fq)⟩)
  · rw [if_neg (by rw [z]; decide)]
    refine e_iconst rfl ic_m1 ?_
    refine e_ireturn rfl rfl ?_
    exact ⟨rfl, hI.fin g0⟩
theorem c10_want (hM : MK K) (hI : MI I P S im SI m T kn u Hs B) (k w : Int32) : Cw l G d m10_want [.ref 102, .int k, .int w] (I, J, K) (fun r h' => r = some (.int (a_want P S k w)) ∧ MPst I J K h' P S im SI m T kn u Hs (B + 2)) := by
  have g0 : FQm I J (u2 I 102 0 (nI 0)) J := FQm.w0
  have hI1 := hI.t0 J
  obtain ⟨p1, p2, p3, -⟩ := hI1
  have h38 := p2.1.1.2.2.2
  unfold a_want
  refine Cw.of ok10_want rfl (rfl : argL _ _ = [.ref 102, .int k, .int w]) ?_
  refine e_aload_n rfl rfl ?_
  refine e_iconst (v := nI 0) rfl ic_0N ?_
  refine e_putI rfl f10_151 hM.k rfl rfl ?_
  refine e_iload_n rfl rfl ?_
  refine e_if_lt (tgt := 19) rfl rfl (fun z => ?_) (fun z => ?_)
  · rw [if_neg (fun q => absurd z (Int32.not_lt.mpr (of_decide_eq_true q).1))]
    refine e_iconst rfl ic_m1 ?_
    refine e_ireturn rfl rfl ?_
    exact ⟨rfl, hI.fin g0⟩
  · refine e_iload_n rfl rfl ?_
    refine e_aload_n rfl rfl ?_
    refine e_getP rfl f10_13 hM.k rfl hM.p3 ?_
    refine e_iconst (v := nI 3) rfl ic_3N ?_
    first | refine e_ialoadN rfl hM.a3 (by omega) (by omega) ?_ | (refine e_iaload rfl hM.a3 ?_ ?_; rotate_left)
    rw [p1.1.2.2.2.1]
    refine e_icmp_lt (tgt := 21) rfl rfl (fun y => ?_) (fun y => ?_)
    · have hin : inN (P.1 3) k = true := decide_eq_true ⟨Int32.not_lt.mp z, y⟩
      rw [if_pos hin]
      obtain ⟨i, hi, rfl⟩ := inN_of (by omega) hin
      rw [nI_clamp (by omega)]
      obtain ⟨q1, q2, q3⟩ := p1.2.2.2.2.1 i hi
      have q6 := p3.2.1 i (by omega)
      rw [show 8 * 0 + i = i by omega] at q6
      refine e_iload_n rfl rfl ?_
      refine e_if_ne (tgt := 34) rfl rfl (fun v => ?_) (fun v => ?_)
      · have v : ¬ w = nI 0 := v
        rw [if_neg v]
        refine e_iload_n rfl rfl ?_
        refine e_iconst (v := nI 1) rfl ic_1N ?_
        refine e_icmp_ne (tgt := 48) rfl rfl (fun v1 => ?_) (fun v1 => ?_)
        · rw [if_neg v1]
          refine e_iload_n rfl rfl ?_
          refine e_iconst (v := nI 2) rfl ic_2N ?_
          refine e_icmp_ne (tgt := 62) rfl rfl (fun v2 => ?_) (fun v2 => ?_)
          · rw [if_neg v2]
            refine e_iload_n rfl rfl ?_
            refine e_iconst (v := nI 3) rfl ic_3N ?_
            refine e_icmp_ne (tgt := 76) rfl rfl (fun v3 => ?_) (fun v3 => ?_)
            · rw [if_neg v3]
              refine e_iconst rfl ic_m1 ?_
              refine e_ireturn rfl rfl ?_
              exact ⟨rfl, hI.fin g0⟩
            · rw [if_pos v3]
              refine e_aload_n rfl rfl ?_
              refine e_getP rfl f10_114 hM.k rfl hM.p49 ?_
              refine e_iload_n rfl rfl ?_
              first | refine e_ialoadN rfl hM.a49 (by omega) (by omega) ?_ | (refine e_iaload rfl hM.a49 ?_ ?_; rotate_left)
              rw [q6]
              refine e_goto (tgt := 77) rfl rfl ?_
              refine e_ireturn rfl rfl ?_
              exact ⟨rfl, hI.fin g0⟩
          · rw [if_pos v2]
            refine e_aload_n rfl rfl ?_
            refine e_getP rfl f10_52 hM.k rfl hM.p16 ?_
            refine e_iload_n rfl rfl ?_
            first | refine e_ialoadN rfl hM.a16 (by omega) (by omega) ?_ | (refine e_iaload rfl hM.a16 ?_ ?_; rotate_left)
            rw [q3]
            refine e_goto (tgt := 77) rfl rfl ?_
            refine e_ireturn rfl rfl ?_
            exact ⟨rfl, hI.fin g0⟩
        · rw [if_pos v1]
          refine e_aload_n rfl rfl ?_
          refine e_getP rfl f10_49 hM.k rfl hM.p15 ?_
          refine e_iload_n rfl rfl ?_
          first | refine e_ialoadN rfl hM.a15 (by omega) (by omega) ?_ | (refine e_iaload rfl hM.a15 ?_ ?_; rotate_left)
          rw [q2]
          refine e_goto (tgt := 77) rfl rfl ?_
          refine e_ireturn rfl rfl ?_
          exact ⟨rfl, hI.fin g0⟩
      · have v : w = nI 0 := v
        rw [if_pos v]
        refine e_aload_n rfl rfl ?_
        refine e_getP rfl f10_46 hM.k rfl hM.p14 ?_
        refine e_iload_n rfl rfl ?_
        first | refine e_ialoadN rfl hM.a14 (by omega) (by omega) ?_ | (refine e_iaload rfl hM.a14 ?_ ?_; rotate_left)
        rw [q1]
        refine e_goto (tgt := 77) rfl rfl ?_
        refine e_ireturn rfl rfl ?_
        exact ⟨rfl, hI.fin g0⟩
    · rw [if_neg (fun q => y (of_decide_eq_true q).2)]
      refine e_iconst rfl ic_m1 ?_
      refine e_ireturn rfl rfl ?_
      exact ⟨rfl, hI.fin g0⟩
end MRun
