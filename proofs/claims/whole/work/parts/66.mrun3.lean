/-! ===== the reference: tried, chance, best ===== -/
theorem bsF_be {f : Nat → Int32} {k q : Nat} {mo be be' : Int32} (h : mo < f q) : bsF f (k + 1) q mo be = bsF f (k + 1) q mo be' := by
  rw [bsF, bsF, if_pos h, if_pos h]
section MRun3
variable {l : Launch} {G : GG} {d : Nat} {I : IM} {J : JM} {K : Kt} {Q : Option Value → Hp → Prop} {P : Pl} {S : SM} {im : Bool} {SI : SM} {m : Nat} {T : SM} {kn : Int32} {u : Nat} {Hs : Nat → SM} {B n f : Nat}
theorem c10_tried (hM : MK K) (hI : MI I P S im SI m T kn u Hs B) (hn : P.1 1 = n) (hW : W1 n S) (w x y : Int32) : Cw l G (d + 8) m10_tried [.ref 102, .int w, .int x, .int y] (I, J, K) (fun r h' => r = some (.int (a_tried P n S w x y)) ∧ MPst I J K h' P S im SI m T kn u Hs (B + 2)) := by
  have g0 : FQm I J (u2 I 102 0 (nI 0)) J := FQm.w0
  have hI1 := hI.t0 J
  obtain ⟨p1, p2, p3, p4, p5, p6, p7, p8, p9⟩ := hI1
  rw [hn] at p3
  have h8 := p2.1.1.2.1
  have hn1 : (u2 I 102 0 (nI 0)) 104 1 = nI n := by rw [← hn]; exact p1.1.2.1
  unfold a_tried
  generalize hans : (if inN 6 w = true ∧ inN 100 y = true ∧ (if w = nI 2 then inN n x = true else x = 0) then rnS (fun _ S => paS P false w x n S) 0 y.toNatClampNeg (if w = nI 4 then u2 S 9 0 (nI 20) else S) 10 0 - S 10 0 else -1) = ans
  have no : ¬ (inN 6 w = true ∧ inN 100 y = true ∧ (if w = nI 2 then inN n x = true else x = 0)) → ∀ v, Gw l G (d + 8) m10_tried 53 [.ref 102, .int w, .int x, .int y, v] [] (u2 I 102 0 (nI 0), J, K) (fun r h' => r = some (.int ans) ∧ MPst I J K h' P S im SI m T kn u Hs (B + 2)) := by
    intro hno v
    rw [← hans, if_neg hno]
    refine e_iconst rfl ic_m1 ?_
    refine e_ireturn rfl rfl ?_
    exact ⟨rfl, hI.fin g0⟩
  have yes : (inN 6 w = true ∧ inN 100 y = true ∧ (if w = nI 2 then inN n x = true else x = 0)) → ∀ v, Gw l G (d + 8) m10_tried 55 [.ref 102, .int w, .int x, .int y, v] [] (u2 I 102 0 (nI 0), J, K) (fun r h' => r = some (.int ans) ∧ MPst I J K h' P S im SI m T kn u Hs (B + 2)) := by
    intro hy v
    rw [← hans, if_pos hy]
    obtain ⟨i, hi, rfl⟩ := inN_of (by omega) hy.2.1
    rw [nI_clamp (by omega), rn_it]
    refine e_aload_n rfl rfl ?_
    refine e_iconst (v := nI 1) rfl ic_1N ?_
    refine e_iconst (v := nI 0) rfl ic_0N ?_
    refine e_callV (kd := 10) (M2 := m10_copies) rfl v10_391 ok10_copies (c10_copies (d := d + 7) (to := 1) (as := 0) hM (by omega) (by omega) (by omega)) rfl hM.k rfl rfl rfl rfl (fun r1 h1 q1 => ?_)
    obtain ⟨rfl, I1, rfl, C1⟩ := q1
    have g1 : FM 1 (u2 I 102 0 (nI 0)) J I1 J := FM.of_cp C1
    have R1 := p3.cp (by omega) C1
    have run : ∀ S1 I2, FM 1 (u2 I 102 0 (nI 0)) J I2 J → RM I2 1 n S1 (B + 1) → W1 n S1 → Gw l G (d + 8) m10_tried 74 [.ref 102, .int w, .int x, .int (nI i), v] [] (I2, J, K) (fun r h' => r = some (.int (itS (fun S => paS P false w x n S) i S1 10 0 - S 10 0)) ∧ MPst I J K h' P S im SI m T kn u Hs (B + 2)) := by
      intro S1 I2 g2 R2 hW2
      refine e_aload_n rfl rfl ?_
      refine e_iload_n rfl rfl ?_
      refine e_putI rfl f10_361 hM.k rfl rfl ?_
      refine e_aload_n rfl rfl ?_
      refine e_iload_n rfl rfl ?_
      refine e_putI rfl f10_117 hM.k rfl rfl ?_
      have fr : ∀ f c k, onF f c k → u2 (u2 I2 102 52 w) 102 53 x c k = I2 c k := fun f c k o => by rw [u2_ne _ _ (by unfold onF at o; omega), u2_ne _ _ (by unfold onF at o; omega)]
      have P2 : MP (u2 (u2 I2 102 52 w) 102 53 x) P := (p1.fm g2).frame (fun c a b => by rw [u2_row _ _ (by omega), u2_row _ _ (by omega)])
      refine e_aload_n rfl rfl ?_
      refine e_iload_n rfl rfl ?_
      refine e_callV (kd := 10) (M2 := m10_goesOn) rfl v10_394 ok10_goesOn (c10_goesOn (d := d) (way := w) (sp := x) hM P2 p2 hn (R2.frame (by omega) (fr _)) hW2 (by omega) (by rw [u2_nk _ _ (by omega), u2_at]) (u2_at _ _ _ _)) rfl hM.k rfl rfl rfl rfl (fun r1 h1 q1 => ?_)
      obtain ⟨rfl, I3, J3, rfl, g3, R3⟩ := q1
      have R0 : RM I2 0 n S (B + 1) := p3.fm (by omega) g2 (by omega)
      have R03 : RM I3 0 n S (B + 1) := (R0.frame (by omega) (fr _)).fm (by omega) g3 (by omega)
      refine e_aload_n rfl rfl ?_
      refine e_iconst (v := nI 0) rfl ic_0N ?_
      refine e_putI rfl f10_361 hM.k rfl rfl ?_
      refine e_aload_n rfl rfl ?_
      refine e_iconst rfl ic_m1 ?_
      refine e_putI rfl f10_117 hM.k rfl rfl ?_
      refine e_aload_n rfl rfl ?_
      refine e_getP rfl f10_87 hM.k rfl hM.p40 ?_
      refine e_iconst (v := nI 1) rfl ic_1N ?_
      first | refine e_ialoadN rfl hM.a40 (by omega) (by omega) ?_ | (refine e_iaload rfl hM.a40 ?_ ?_; rotate_left)
      rw [u2_ne _ _ (by omega), u2_ne _ _ (by omega), R3.2.2.1.2.2.1]
      refine e_aload_n rfl rfl ?_
      refine e_getP rfl f10_87 hM.k rfl hM.p40 ?_
      refine e_iconst (v := nI 0) rfl ic_0N ?_
      first | refine e_ialoadN rfl hM.a40 (by omega) (by omega) ?_ | (refine e_iaload rfl hM.a40 ?_ ?_; rotate_left)
      rw [u2_ne _ _ (by omega), u2_ne _ _ (by omega), R03.2.2.1.2.2.1]
      refine e_isub rfl ?_
      refine e_ireturn rfl rfl ?_
      refine ⟨rfl, hI.fin (J' := J3) (g0.tr ⟨fun c k a b e1 e2 e3 e4 => ?_, fun c a b => (g3.2 c a b).trans (g2.2 c a b)⟩)⟩
      by_cases q53 : c = 102 ∧ k = 53
      · obtain ⟨rfl, rfl⟩ := q53
        rw [u2_at]; exact p9.symm
      · by_cases q52 : c = 102 ∧ k = 52
        · obtain ⟨rfl, rfl⟩ := q52
          rw [u2_nk _ _ (by omega), u2_at]; exact p8.symm
        · rw [u2, if_neg q53, u2, if_neg q52, g3.1 c k a (fun q => b ⟨q.1, Or.inr (Or.inl q.2)⟩), u2, if_neg q53, u2, if_neg q52]
          exact g2.1 c k a (fun q => b ⟨q.1, Or.inr (Or.inl q.2)⟩)
    refine e_iload_n rfl rfl ?_
    refine e_iconst (v := nI 4) rfl ic_4N ?_
    refine e_icmp_ne (tgt := 74) rfl rfl (fun z => ?_) (fun z => ?_)
    · rw [if_neg z]
      exact run S I1 g1 R1 hW
    · rw [if_pos z]
      refine e_aload_n rfl rfl ?_
      refine e_getP rfl f10_84 hM.k rfl hM.p39 ?_
      refine e_iconst (v := nI 1) rfl ic_1N ?_
      refine e_bipush (v := nI 20) rfl bp_20N ?_
      first | refine e_iastoreN rfl hM.a39 (by omega) (by omega) ?_ | (refine e_iastore rfl hM.a39 ?_ ?_; rotate_left)
      refine run _ _ (g1.tr (FM.w (on1 (by omega) (by omega)))) (R1.w9 _) ?_
      refine ⟨fun t ht => ?_, 20, by omega, u2_at _ _ _ _⟩
      have := hW.1 t ht
      simp (disch := omega) only [u2_ne]
      exact this
  have mid : ∀ b : Bool, (b = true ↔ (inN 6 w = true ∧ (if w = nI 2 then inN n x = true else x = 0))) → Gw l G (d + 8) m10_tried 36 [.ref 102, .int w, .int x, .int y, .null] [.int (bI b)] (u2 I 102 0 (nI 0), J, K) (fun r h' => r = some (.int ans) ∧ MPst I J K h' P S im SI m T kn u Hs (B + 2)) := by
    intro b hb
    refine e_ist4 rfl rfl rfl ?_
    refine e_iload rfl rfl ?_
    refine e_if_eqB (tgt := 53) rfl rfl (fun z => ?_) (fun z => ?_)
    · exact no (fun q => absurd (hb.mpr ⟨q.1, q.2.2⟩) (by rw [z]; decide)) _
    · have hb2 := hb.mp z
      refine e_iload_n rfl rfl ?_
      refine e_if_lt (tgt := 53) rfl rfl (fun v => ?_) (fun v => ?_)
      · exact no (fun q => (inN_lo (k := 99) (by omega) q.2.1).1 v) _
      · refine e_iload_n rfl rfl ?_
        refine e_bipush (v := nI 99) rfl bp_99N ?_
        refine e_icmp_le (tgt := 55) rfl rfl (fun v2 => ?_) (fun v2 => ?_)
        · exact yes ⟨hb2.1, inN_hi (k := 99) (by omega) v v2, hb2.2⟩ _
        · exact no (fun q => absurd (inN_lo (k := 99) (by omega) q.2.1).2 v2) _
  refine Cw.of ok10_tried rfl (rfl : argL _ _ = [.ref 102, .int w, .int x, .int y, .null]) ?_
  refine e_aload_n rfl rfl ?_
  refine e_iconst (v := nI 0) rfl ic_0N ?_
  refine e_putI rfl f10_151 hM.k rfl rfl ?_
  refine e_iload_n rfl rfl ?_
  refine e_iconst (v := nI 2) rfl ic_2N ?_
  refine e_icmp_ne (tgt := 18) rfl rfl (fun z => ?_) (fun z => ?_)
  · have f0 : ¬ (inN 6 w = true ∧ x = 0) → Gw l G (d + 8) m10_tried 35 [.ref 102, .int w, .int x, .int y, .null] [] (u2 I 102 0 (nI 0), J, K) (fun r h' => r = some (.int ans) ∧ MPst I J K h' P S im SI m T kn u Hs (B + 2)) := by
      intro hq
      refine e_iconst (v := nI 0) rfl ic_0N ?_
      exact mid false (by rw [if_neg z]; exact ⟨fun q => absurd q (by decide), fun q => absurd q hq⟩)
    refine e_iload_n rfl rfl ?_
    refine e_if_lt (tgt := 35) rfl rfl (fun v => ?_) (fun v => ?_)
    · exact f0 (fun q => (inN_lo (k := 5) (by omega) q.1).1 v)
    · refine e_iload_n rfl rfl ?_
      refine e_iconst (v := nI 5) rfl ic_5N ?_
      refine e_icmp_gt (tgt := 35) rfl rfl (fun v2 => ?_) (fun v2 => ?_)
      · exact f0 (fun q => absurd (inN_lo (k := 5) (by omega) q.1).2 (Int32.not_le.mpr v2))
      · refine e_iload_n rfl rfl ?_
        refine e_if_ne (tgt := 35) rfl rfl (fun v3 => ?_) (fun v3 => ?_)
        · exact f0 (fun q => v3 q.2)
        · refine e_iconst (v := nI 1) rfl ic_1N ?_
          refine e_goto (tgt := 36) rfl rfl ?_
          exact mid true (by rw [if_neg z]; exact ⟨fun _ => ⟨inN_hi (k := 5) (by omega) v (Int32.not_lt.mp v2), v3⟩, fun _ => rfl⟩)
  · refine e_aload_n rfl rfl ?_
    refine e_iload_n rfl rfl ?_
    refine e_callVp (kd := 10) (M2 := m10_isTin) rfl v10_397 ok10_isTin (c10_isTin (d := d + 7) hM hn1 x) rfl hM.k rfl rfl rfl rfl ?_
    refine e_goto (tgt := 36) rfl rfl ?_
    refine mid _ ?_
    rw [if_pos z]
    exact ⟨fun q => ⟨by rw [z]; decide, q⟩, fun q => q.2⟩
theorem mch_in (hM : MK K) (hX : wfX P) (hn : P.1 1 = n) {N : Nat} (hN : N ≤ 99) {s y x : Int32} {many r : Nat} {sp : Int32} : ∀ k i I J S, i + k = N → MP I P → RM I 1 n S B → W1 n S → I 102 52 = nI 0 → I 102 53 = sp → (∀ I' J', FM 1 I J I' J' → RM I' 1 n (itS (pa0 P true n) k S) B → ∀ v, Gw l G (d + 7) m10_chance 83 [.ref 102, .int s, .int (nI N), .int y, .int x, .int (nI many), .int (nI r), v] [] (I', J', K) Q) → Gw l G (d + 7) m10_chance 65 [.ref 102, .int s, .int (nI N), .int y, .int x, .int (nI many), .int (nI r), .int (nI i)] [] (I, J, K) Q := by
  intro k
  induction k with
  | zero =>
    intro i I J S hi hP hR hW hw hs kk
    refine e_iload rfl rfl ?_
    refine e_iload_n rfl rfl ?_
    first | refine e_icmp_geN (tgt := 83) rfl rfl (by omega) (by omega) (fun z => ?_) (fun z => ?_) | refine e_icmp_ge (tgt := 83) rfl rfl (fun z => ?_) (fun z => ?_)
    · exact kk I J FM.rf hR _
    · omega
  | succ k ih =>
    intro i I J S hi hP hR hW hw hs kk
    refine e_iload rfl rfl ?_
    refine e_iload_n rfl rfl ?_
    first | refine e_icmp_geN (tgt := 83) rfl rfl (by omega) (by omega) (fun z => ?_) (fun z => ?_) | refine e_icmp_ge (tgt := 83) rfl rfl (fun z => ?_) (fun z => ?_)
    · omega
    · refine e_aload_n rfl rfl ?_
      refine e_iconst (v := nI 1) rfl ic_1N ?_
      refine e_iconst (v := nI 1) rfl ic_1N ?_
      refine e_callV (kd := 10) (M2 := m10_passes) rfl v10_387 ok10_passes (c10_passes (d := d) (f := 1) (way := nI 0) (sp := sp) hM hP hX hn hR hW (by omega) true hw hs) rfl hM.k rfl rfl rfl rfl (fun r1 h1 q1 => ?_)
      obtain ⟨rfl, I1, J1, rfl, g1, R1⟩ := q1
      first | refine e_inc7 rfl rfl rfl (incN1 _) ?_ | refine e_inc7 rfl rfl rfl rfl ?_
      refine e_goto (tgt := 65) rfl rfl ?_
      rw [pa_0] at R1
      exact ih (i + 1) I1 J1 _ (by omega) (hP.fm g1) R1 (W1_pa hW) (by rw [g1.obj (by omega)]; exact hw) (by rw [g1.obj (by omega)]; exact hs) (fun I2 J2 g2 R2 => kk I2 J2 (g1.tr g2) R2)
theorem W1.n14 {n : Nat} {S : SM} (h : W1 n S) (x : Int32) : W1 n (u2 S 14 0 x) := h.rows (u2_row _ _ (by omega)) (u2_row _ _ (by omega)) (u2_row _ _ (by omega)) (u2_row _ _ (by omega))
theorem mch_loop (hM : MK K) (hX : wfX P) (hn : P.1 1 = n) (hW : W1 n S) {N tn : Nat} (hN : N ≤ 99) (htn : tn ≤ 8) {s : Int32} {sp : Int32} : ∀ k i many x I J v, i + k = 10 → many ≤ i → MP I P → RM I 0 n S B → I 102 52 = nI 0 → I 102 53 = sp → (∀ I' J', FM 1 I J I' J' → Q (some (.int (nI (chF P n S N tn k x many)))) (I', J', K)) → Gw l G (d + 7) m10_chance 41 [.ref 102, .int s, .int (nI N), .int (nI tn), .int x, .int (nI many), .int (nI i), v] [] (I, J, K) Q := by
  have h8 := hX.1.1.2.1
  intro k
  induction k with
  | zero =>
    intro i many x I J v hi hm hP hR hw hs kk
    refine e_iload rfl rfl ?_
    refine e_bipush (v := nI 10) rfl bp_10N ?_
    first | refine e_icmp_geN (tgt := 117) rfl rfl (by omega) (by omega) (fun z => ?_) (fun z => ?_) | refine e_icmp_ge (tgt := 117) rfl rfl (fun z => ?_) (fun z => ?_)
    · refine e_iload rfl rfl ?_
      refine e_ireturn rfl rfl ?_
      exact kk I J FM.rf
    · omega
  | succ k ih =>
    intro i many x I J v hi hm hP hR hw hs kk
    refine e_iload rfl rfl ?_
    refine e_bipush (v := nI 10) rfl bp_10N ?_
    first | refine e_icmp_geN (tgt := 117) rfl rfl (by omega) (by omega) (fun z => ?_) (fun z => ?_) | refine e_icmp_ge (tgt := 117) rfl rfl (fun z => ?_) (fun z => ?_)
    · omega
    · rw [chF] at kk
      refine e_aload_n rfl rfl ?_
      refine e_iconst (v := nI 1) rfl ic_1N ?_
      refine e_iconst (v := nI 0) rfl ic_0N ?_
      refine e_callV (kd := 10) (M2 := m10_copies) rfl v10_391 ok10_copies (c10_copies (d := d + 6) (to := 1) (as := 0) hM (by omega) (by omega) (by omega)) rfl hM.k rfl rfl rfl rfl (fun r1 h1 q1 => ?_)
      obtain ⟨rfl, I1, rfl, C1⟩ := q1
      refine e_aload_n rfl rfl ?_
      refine e_getP rfl f10_81 hM.k rfl hM.p38 ?_
      refine e_iconst (v := nI 1) rfl ic_1N ?_
      refine e_iload rfl rfl ?_
      first | refine e_iastoreN rfl hM.a38 (by omega) (by omega) ?_ | (refine e_iastore rfl hM.a38 ?_ ?_; rotate_left)
      refine e_iconst (v := nI 0) rfl ic_0N ?_
      refine e_ist7 rfl rfl rfl ?_
      have g1 : FM 1 I J (u2 I1 125 1 x) J := (FM.of_cp C1).tr (FM.w (on1 (by omega) (by omega)))
      have R1 : RM (u2 I1 125 1 x) 1 n (u2 S 14 0 x) B := (hR.cp (by omega) C1).w14 x
      refine mch_in (sp := sp) hM hX hn hN N 0 _ J _ (by omega) (hP.fm g1) R1 (hW.n14 x) (by rw [g1.obj (by omega)]; exact hw) (by rw [g1.obj (by omega)]; exact hs) (fun I2 J2 g2 R2 v => ?_)
      have g12 := g1.tr g2
      generalize itS (pa0 P true n) N (u2 S 14 0 x) = R at R2 kk
      have hn2 : I2 104 1 = nI n := by rw [g12.row (by omega) (by omega), ← hn]; exact hP.1.2.1
      have lc : cnt (fun t => decide (R 0 t = nI 3)) n ≤ n := cF_le _ n 0
      refine e_aload_n rfl rfl ?_
      refine e_getP rfl f10_81 hM.k rfl hM.p38 ?_
      refine e_iconst (v := nI 1) rfl ic_1N ?_
      first | refine e_ialoadN rfl hM.a38 (by omega) (by omega) ?_ | (refine e_iaload rfl hM.a38 ?_ ?_; rotate_left)
      rw [R2.2.2.1.2.2.2.2]
      refine e_ist4 rfl rfl rfl ?_
      refine e_iload rfl rfl ?_
      refine e_aload_n rfl rfl ?_
      refine e_iconst (v := nI 1) rfl ic_1N ?_
      refine e_iconst (v := nI 3) rfl ic_3N ?_
      refine e_callVp (kd := 10) (M2 := m10_tinsOf) rfl v10_422 ok10_tinsOf (c10_tinsOf (d := d + 6) (f := 1) hM hn2 (by omega) R2 (by omega) (nI 3)) rfl hM.k rfl rfl rfl rfl ?_
      refine e_iload_n rfl rfl ?_
      first | refine e_icmp_ltN (tgt := 107) rfl rfl (by omega) (by omega) (fun z => ?_) (fun z => ?_) | refine e_icmp_lt (tgt := 107) rfl rfl (fun z => ?_) (fun z => ?_)
      · have q : ¬ tn ≤ cnt (fun t => decide (R 0 t = nI 3)) n := by omega
        rw [if_neg q] at kk
        refine e_iconst (v := nI 0) rfl ic_0N ?_
        first | refine e_iaddN rfl ?_ | refine e_iadd rfl ?_
        refine e_ist5 rfl rfl rfl ?_
        first | refine e_inc6 rfl rfl rfl (incN1 _) ?_ | refine e_inc6 rfl rfl rfl rfl ?_
        refine e_goto (tgt := 41) rfl rfl ?_
        exact ih (i + 1) _ _ I2 J2 _ (by omega) (by omega) (hP.fm g12) (hR.fm (by omega) g12 (by omega)) (by rw [g12.obj (by omega)]; exact hw) (by rw [g12.obj (by omega)]; exact hs) (fun I3 J3 g3 => kk I3 J3 (g12.tr g3))
      · have q : tn ≤ cnt (fun t => decide (R 0 t = nI 3)) n := by omega
        rw [if_pos q] at kk
        refine e_iconst (v := nI 1) rfl ic_1N ?_
        refine e_goto (tgt := 108) rfl rfl ?_
        first | refine e_iaddN rfl ?_ | refine e_iadd rfl ?_
        refine e_ist5 rfl rfl rfl ?_
        first | refine e_inc6 rfl rfl rfl (incN1 _) ?_ | refine e_inc6 rfl rfl rfl rfl ?_
        refine e_goto (tgt := 41) rfl rfl ?_
        exact ih (i + 1) _ _ I2 J2 _ (by omega) (by omega) (hP.fm g12) (hR.fm (by omega) g12 (by omega)) (by rw [g12.obj (by omega)]; exact hw) (by rw [g12.obj (by omega)]; exact hs) (fun I3 J3 g3 => kk I3 J3 (g12.tr g3))
theorem c10_chance (hM : MK K) (hI : MI I P S im SI m T kn u Hs B) (hn : P.1 1 = n) (hW : W1 n S) (s x y : Int32) : Cw l G (d + 7) m10_chance [.ref 102, .int s, .int x, .int y] (I, J, K) (fun r h' => r = some (.int (a_chance P n S s x y)) ∧ MPst I J K h' P S im SI m T kn u Hs (B + 2)) := by
  have g0 : FQm I J (u2 I 102 0 (nI 0)) J := FQm.w0
  have hI1 := hI.t0 J
  obtain ⟨p1, p2, p3, p4, p5, p6, p7, p8, p9⟩ := hI1
  rw [hn] at p3
  unfold a_chance
  have no : ¬ (¬ s < 0 ∧ inN 100 x = true ∧ ¬ x = nI 0 ∧ inN 9 y = true) → Gw l G (d + 7) m10_chance 30 [.ref 102, .int s, .int x, .int y, .null, .null, .null, .null] [] (u2 I 102 0 (nI 0), J, K) (fun r h' => r = some (.int (if ¬ s < 0 ∧ inN 100 x = true ∧ ¬ x = nI 0 ∧ inN 9 y = true then nI (chF P n S x.toNatClampNeg y.toNatClampNeg 10 s 0) else -1)) ∧ MPst I J K h' P S im SI m T kn u Hs (B + 2)) := by
    intro hno
    rw [if_neg hno]
    refine e_iconst rfl ic_m1 ?_
    refine e_ireturn rfl rfl ?_
    exact ⟨rfl, hI.fin g0⟩
  refine Cw.of ok10_chance rfl (rfl : argL _ _ = [.ref 102, .int s, .int x, .int y, .null, .null, .null, .null]) ?_
  refine e_aload_n rfl rfl ?_
  refine e_iconst (v := nI 0) rfl ic_0N ?_
  refine e_putI rfl f10_151 hM.k rfl rfl ?_
  refine e_iload_n rfl rfl ?_
  refine e_if_lt (tgt := 30) rfl rfl (fun z => ?_) (fun z => ?_)
  · exact no (fun q => q.1 z)
  · refine e_iload_n rfl rfl ?_
    refine e_iconst (v := nI 1) rfl ic_1N ?_
    refine e_icmp_lt (tgt := 30) rfl rfl (fun v => ?_) (fun v => ?_)
    · refine no (fun q => ?_)
      obtain ⟨i, hi, rfl⟩ := inN_of (by omega) q.2.1
      have := (nI_ltI (by omega) (by omega)).mp v
      exact q.2.2.1 (by rw [show i = 0 by omega])
    · refine e_iload_n rfl rfl ?_
      refine e_bipush (v := nI 99) rfl bp_99N ?_
      refine e_icmp_gt (tgt := 30) rfl rfl (fun v2 => ?_) (fun v2 => ?_)
      · exact no (fun q => absurd (inN_lo (k := 99) (by omega) q.2.1).2 (Int32.not_le.mpr v2))
      · have x1 : nI 1 ≤ x := Int32.not_lt.mp v
        have hx : inN 100 x = true := inN_hi (k := 99) (by omega) (Int32.not_lt.mpr (Int32.le_trans (by decide) x1)) (Int32.not_lt.mp v2)
        have hx0 : ¬ x = nI 0 := fun q => absurd x1 (by rw [q]; decide)
        refine e_iload_n rfl rfl ?_
        refine e_if_lt (tgt := 30) rfl rfl (fun w => ?_) (fun w => ?_)
        · exact no (fun q => (inN_lo (k := 8) (by omega) q.2.2.2).1 w)
        · refine e_iload_n rfl rfl ?_
          refine e_bipush (v := nI 8) rfl bp_8N ?_
          refine e_icmp_le (tgt := 32) rfl rfl (fun w2 => ?_) (fun w2 => ?_)
          · have hy : inN 9 y = true := inN_hi (k := 8) (by omega) w w2
            rw [if_pos ⟨z, hx, hx0, hy⟩]
            obtain ⟨i, hi, rfl⟩ := inN_of (by omega) hx
            obtain ⟨j, hj, rfl⟩ := inN_of (by omega) hy
            rw [nI_clamp (by omega), nI_clamp (by omega)]
            refine e_iload_n rfl rfl ?_
            refine e_ist4 rfl rfl rfl ?_
            refine e_iconst (v := nI 0) rfl ic_0N ?_
            refine e_ist5 rfl rfl rfl ?_
            refine e_iconst (v := nI 0) rfl ic_0N ?_
            refine e_ist6 rfl rfl rfl ?_
            exact mch_loop hM p2 hn hW (by omega) (by omega) 10 0 0 s _ J _ (by omega) (by omega) p1 p3 p8 p9 (fun I1 J1 g1 => ⟨rfl, hI.fin (g0.tr g1.fq)⟩)
          · exact no (fun q => absurd (inN_lo (k := 8) (by omega) q.2.2.2).2 w2)
theorem mbest_loop (hM : MK K) (hX : wfX P) (hn : P.1 1 = n) (hW : W1 n S) {t w : Nat} (ht : t < n) (hw2 : w < 2) {sp : Int32} : ∀ k q I J mo be v, q + k = 21 → MP I P → RM I 0 n S B → I 102 52 = nI 0 → I 102 53 = sp → (∀ I' J', FM 1 I J I' J' → Q (some (.int (if nI w = nI 0 then (bsF (gbF P n S t) k q mo be).2 else (bsF (gbF P n S t) k q mo be).1))) (I', J', K)) → Gw l G (d + 8) m10_best 44 [.ref 102, .int (nI t), .int (nI w), .int be, .int mo, .int (nI q), v] [] (I, J, K) Q := by
  have h8 := hX.1.1.2.1
  intro k
  induction k with
  | zero =>
    intro q I J mo be v hq hP hR hw hs kk
    refine e_iload rfl rfl ?_
    refine e_bipush (v := nI 20) rfl bp_20N ?_
    first | refine e_icmp_gtN (tgt := 116) rfl rfl (by omega) (by omega) (fun z => ?_) (fun z => ?_) | refine e_icmp_gt (tgt := 116) rfl rfl (fun z => ?_) (fun z => ?_)
    · refine e_iload_n rfl rfl ?_
      first | refine e_if_neB (tgt := 124) rfl rfl (fun z => ?_) (fun z => ?_) | refine e_if_neN (tgt := 124) rfl rfl (by omega) (fun z => ?_) (fun z => ?_) | refine e_if_ne (tgt := 124) rfl rfl (fun z => ?_) (fun z => ?_)
      · have y : w ≠ 0 := by assumption
        rw [if_neg (ne42 y (by omega) (by omega))] at kk
        refine e_iload rfl rfl ?_
        refine e_ireturn rfl rfl ?_
        exact kk I J FM.rf
      · have y : w = 0 := by assumption
        rw [if_pos (by rw [y])] at kk
        refine e_iload_n rfl rfl ?_
        refine e_goto (tgt := 126) rfl rfl ?_
        refine e_ireturn rfl rfl ?_
        exact kk I J FM.rf
    · omega
  | succ k ih =>
    intro q I J mo be v hq hP hR hw hs kk
    refine e_iload rfl rfl ?_
    refine e_bipush (v := nI 20) rfl bp_20N ?_
    first | refine e_icmp_gtN (tgt := 116) rfl rfl (by omega) (by omega) (fun z => ?_) (fun z => ?_) | refine e_icmp_gt (tgt := 116) rfl rfl (fun z => ?_) (fun z => ?_)
    · omega
    · rw [bsF] at kk
      refine e_aload_n rfl rfl ?_
      refine e_iconst (v := nI 1) rfl ic_1N ?_
      refine e_iconst (v := nI 0) rfl ic_0N ?_
      refine e_callV (kd := 10) (M2 := m10_copies) rfl v10_391 ok10_copies (c10_copies (d := d + 7) (to := 1) (as := 0) hM (by omega) (by omega) (by omega)) rfl hM.k rfl rfl rfl rfl (fun r1 h1 q1 => ?_)
      obtain ⟨rfl, I1, rfl, C1⟩ := q1
      have g1 : FM 1 I J I1 J := FM.of_cp C1
      refine e_aload_n rfl rfl ?_
      refine e_iload rfl rfl ?_
      refine e_callV (kd := 10) (M2 := m10_goesOn) rfl v10_394 ok10_goesOn (c10_goesOn (d := d) (way := nI 0) (sp := sp) hM (hP.fm g1) hX hn (hR.cp (by omega) C1) hW (by omega) (by rw [g1.obj (by omega)]; exact hw) (by rw [g1.obj (by omega)]; exact hs)) rfl hM.k rfl rfl rfl rfl (fun r1 h1 q1 => ?_)
      obtain ⟨rfl, I2, J2, rfl, g2, R2⟩ := q1
      have W2' : W1 n (itS (paS P false (nI 0) sp n) q S) := by
        have : ∀ k S, W1 n S → W1 n (itS (paS P false (nI 0) sp n) k S) := fun k => by
          induction k with
          | zero => exact fun S h => h
          | succ k ih => exact fun S h => ih _ (W1_pa h)
        exact this q S hW
      have g12 := g1.tr g2
      obtain ⟨ky, k1, k2⟩ := W2'.2
      refine e_aload_n rfl rfl ?_
      refine e_iconst (v := nI 1) rfl ic_1N ?_
      refine e_iload_n rfl rfl ?_
      refine e_callV (kd := 10) (M2 := m10_opens) rfl v10_367 ok10_opens (c10_opens (d := d + 3) (f := 1) hM (hP.fm g12) hX hn R2 (by omega) ht k1 k2) rfl hM.k rfl rfl rfl rfl (fun r1 h1 q1 => ?_)
      obtain ⟨rfl, I3, J3, rfl, g3, R3⟩ := q1
      have g13 := g12.tr g3
      refine e_aload_n rfl rfl ?_
      refine e_bipush (v := nI 30) rfl bp_30N ?_
      refine e_iload rfl rfl ?_
      first | refine e_isubN rfl (by omega) ?_ | refine e_isub rfl ?_
      refine e_callV (kd := 10) (M2 := m10_goesOn) rfl v10_394 ok10_goesOn (c10_goesOn (d := d) (way := nI 0) (sp := sp) hM (hP.fm g13) hX hn R3 W2'.uA (by omega) (by rw [g13.obj (by omega)]; exact hw) (by rw [g13.obj (by omega)]; exact hs)) rfl hM.k rfl rfl rfl rfl (fun r1 h1 q1 => ?_)
      obtain ⟨rfl, I4, J4, rfl, g4, R4⟩ := q1
      have g14 := g13.tr g4
      have R0 : RM I4 0 n S B := hR.fm (by omega) g14 (by omega)
      rw [pa_0, ← gb_it (by omega)] at R4
      refine e_aload_n rfl rfl ?_
      refine e_getP rfl f10_87 hM.k rfl hM.p40 ?_
      refine e_iconst (v := nI 1) rfl ic_1N ?_
      first | refine e_ialoadN rfl hM.a40 (by omega) (by omega) ?_ | (refine e_iaload rfl hM.a40 ?_ ?_; rotate_left)
      rw [R4.2.2.1.2.2.1]
      refine e_aload_n rfl rfl ?_
      refine e_getP rfl f10_87 hM.k rfl hM.p40 ?_
      refine e_iconst (v := nI 0) rfl ic_0N ?_
      first | refine e_ialoadN rfl hM.a40 (by omega) (by omega) ?_ | (refine e_iaload rfl hM.a40 ?_ ?_; rotate_left)
      rw [R0.2.2.1.2.2.1]
      refine e_isub rfl ?_
      refine e_ist6 rfl rfl rfl ?_
      refine e_iload rfl rfl ?_
      refine e_iload rfl rfl ?_
      show Gw l G (d + 8) m10_best 97 [.ref 102, .int (nI t), .int (nI w), .int be, .int mo, .int (nI q), .int (gbF P n S t q)] [.int mo, .int (gbF P n S t q)] (I4, J4, K) Q
      have nx : ∀ mo' be', (∀ I' J', FM 1 I J I' J' → Q (some (.int (if nI w = nI 0 then (bsF (gbF P n S t) k (q + 1) mo' be').2 else (bsF (gbF P n S t) k (q + 1) mo' be').1))) (I', J', K)) → ∀ v, Gw l G (d + 8) m10_best 110 [.ref 102, .int (nI t), .int (nI w), .int be', .int mo', .int (nI q), v] [] (I4, J4, K) Q := by
        intro mo' be' k2 v
        first | refine e_inc5 rfl rfl rfl (incN1 _) ?_ | refine e_inc5 rfl rfl rfl rfl ?_
        refine e_goto (tgt := 44) rfl rfl ?_
        exact ih (q + 1) I4 J4 mo' be' _ (by omega) (hP.fm g14) R0 (by rw [g14.obj (by omega)]; exact hw) (by rw [g14.obj (by omega)]; exact hs) (fun I5 J5 g5 => k2 I5 J5 (g14.tr g5))
      refine e_icmp_gt (tgt := 103) rfl rfl (fun z => ?_) (fun z => ?_)
      · rw [if_pos z] at kk
        refine e_iload rfl rfl ?_
        refine e_ist3 rfl rfl rfl ?_
        refine e_iload rfl rfl ?_
        refine e_ist4 rfl rfl rfl ?_
        exact nx _ _ kk _
      · rw [if_neg z] at kk
        refine e_goto (tgt := 110) rfl rfl ?_
        exact nx _ _ kk _
theorem gb_pos {t q : Nat} (hQ : wfQ P) : -1 < gbF P n S t q := by
  obtain ⟨g, hg, eg⟩ := rn_gain (g := dayB P n t q) (fun i S => by
    obtain ⟨g, hg, eg⟩ := pa_gain (P := P) (dr := false) (way := nI 0) (sp := nI 0) (n := n) (S := if i = q then unsA P S t else S) hQ
    refine ⟨g, hg, ?_⟩
    have : dayB P n t q i S 10 0 = (if i = q then unsA P S t else S) 10 0 + nI g := eg
    rw [this, ite_app (v := S 10 0) (unsA_row (by omega)) rfl]) 30 0 S
  unfold gbF
  rw [eg]
  have : S 10 0 + nI g - S 10 0 = nI g := by rw [Int32.add_comm, Int32.add_sub_cancel]
  rw [this]
  exact Int32.lt_of_lt_of_le (by decide : (-1 : Int32) < 0) (nI_pos' (by omega))
theorem c10_best (hM : MK K) (hI : MI I P S im SI m T kn u Hs B) (hn : P.1 1 = n) (hW : W1 n S) (t w : Int32) : Cw l G (d + 8) m10_best [.ref 102, .int t, .int w] (I, J, K) (fun r h' => r = some (.int (a_best P n S t w)) ∧ MPst I J K h' P S im SI m T kn u Hs (B + 2)) := by
  have g0 : FQm I J (u2 I 102 0 (nI 0)) J := FQm.w0
  have hI1 := hI.t0 J
  obtain ⟨p1, p2, p3, p4, p5, p6, p7, p8, p9⟩ := hI1
  rw [hn] at p3
  have h8 := p2.1.1.2.1
  have hn1 : (u2 I 102 0 (nI 0)) 104 1 = nI n := by rw [← hn]; exact p1.1.2.1
  unfold a_best
  generalize hans : (if inN n t = true ∧ inN 2 w = true then (if S 0 t.toNatClampNeg = 0 then (if w = nI 0 then (bsF (gbF P n S t.toNatClampNeg) 21 0 (-1) (nI 0)).2 else (bsF (gbF P n S t.toNatClampNeg) 21 0 (-1) (nI 0)).1) else -2) else -1) = ans
  have no : ¬ (inN n t = true ∧ inN 2 w = true) → Gw l G (d + 8) m10_best 22 [.ref 102, .int t, .int w, .null, .null, .null, .null] [] (u2 I 102 0 (nI 0), J, K) (fun r h' => r = some (.int ans) ∧ MPst I J K h' P S im SI m T kn u Hs (B + 2)) := by
    intro hno
    rw [← hans, if_neg hno]
    refine e_iconst rfl ic_m1 ?_
    refine e_ireturn rfl rfl ?_
    exact ⟨rfl, hI.fin g0⟩
  refine Cw.of ok10_best rfl (rfl : argL _ _ = [.ref 102, .int t, .int w, .null, .null, .null, .null]) ?_
  refine e_aload_n rfl rfl ?_
  refine e_iconst (v := nI 0) rfl ic_0N ?_
  refine e_putI rfl f10_151 hM.k rfl rfl ?_
  refine e_aload_n rfl rfl ?_
  refine e_iload_n rfl rfl ?_
  refine e_callVp (kd := 10) (M2 := m10_isTin) rfl v10_397 ok10_isTin (c10_isTin (d := d + 7) hM hn1 t) rfl hM.k rfl rfl rfl rfl ?_
  refine e_if_eqB (tgt := 22) rfl rfl (fun z => ?_) (fun z => ?_)
  · exact no (fun q => absurd q.1 (by rw [z]; decide))
  · refine e_iload_n rfl rfl ?_
    refine e_if_lt (tgt := 22) rfl rfl (fun v => ?_) (fun v => ?_)
    · exact no (fun q => (inN_lo (k := 1) (by omega) q.2).1 v)
    · refine e_iload_n rfl rfl ?_
      refine e_iconst (v := nI 1) rfl ic_1N ?_
      refine e_icmp_le (tgt := 24) rfl rfl (fun v2 => ?_) (fun v2 => ?_)
      · have hw : inN 2 w = true := inN_hi (k := 1) (by omega) v v2
        rw [if_pos ⟨z, hw⟩] at hans
        obtain ⟨i, hi, rfl⟩ := inN_of (by omega) z
        obtain ⟨j, hj, rfl⟩ := inN_of (by omega) hw
        rw [nI_clamp (by omega)] at hans
        refine e_aload_n rfl rfl ?_
        refine e_iconst (v := nI 0) rfl ic_0N ?_
        refine e_iload_n rfl rfl ?_
        refine e_callVp (kd := 10) (M2 := m10_isClosed) rfl v10_333 ok10_isClosed (c10_isClosed (d := d + 7) (f := 0) hM (by omega) (by omega)) rfl hM.k rfl rfl rfl rfl ?_
        rw [(p3.1 i hi).1]
        refine e_if_neB (tgt := 36) rfl rfl (fun y => ?_) (fun y => ?_)
        · rw [if_pos (of_decide_eq_true y)] at hans
          refine e_iconst rfl ic_m1 ?_
          refine e_ist3 rfl rfl rfl ?_
          refine e_iconst rfl ic_m1 ?_
          refine e_ist4 rfl rfl rfl ?_
          refine e_iconst (v := nI 0) rfl ic_0N ?_
          refine e_ist5 rfl rfl rfl ?_
          refine mbest_loop hM p2 hn hW hi hj 21 0 _ J (-1) (-1) _ (by omega) p1 p3 p8 p9 (fun I1 J1 g1 => ⟨?_, hI.fin (g0.tr g1.fq)⟩)
          have e : bsF (gbF P n S i) 21 0 (-1) (-1) = bsF (gbF P n S i) 21 0 (-1) (nI 0) := bsF_be (gb_pos (WF_wfQ p2.1))
          rw [e, hans]
        · rw [if_neg (of_decide_eq_false y)] at hans
          refine e_bipush rfl bp_m2 ?_
          refine e_ireturn rfl rfl ?_
          rw [← hans]
          exact ⟨rfl, hI.fin g0⟩
      · exact no (fun q => absurd (inN_lo (k := 1) (by omega) q.2).2 v2)
end MRun3
