/-! ===== Days: what goes off, rusts, blows; a DAY ===== -/
section MDays2
variable {l : Launch} {G : GG} {d : Nat} {I : IM} {J : JM} {K : Kt} {Q : Option Value → Hp → Prop} {D p s n : Nat} {P : Pl} {S : SM} {h : Hp}
theorem u2_u2 {α : Type} (I : Nat → Nat → α) (a k : Nat) (v w : α) : u2 (u2 I a k v) a k w = u2 I a k w := by
  funext a' k'
  simp only [u2]
  split <;> rfl
theorem goOff_loop (hS : isState K s) : ∀ k i I S, i + k = n → RC I J s n S → (∀ I', (∀ c, (c < s ∨ s + 7 < c) → I' c = I c) → I' (s + 3) = I (s + 3) → I' (s + 4) = I (s + 4) → RC I' J s n (goS i k S) → Q none (I', J, K)) → Gw l G d m0_goOff 2 [.ref D, .ref s, .int (nI i)] [] (I, J, K) Q := by
  obtain ⟨h6, p0, p1, p2, p3, p4, p5, p6, a1, a2, a3, a4, a5, a6, a7⟩ := hS
  intro k
  induction k with
  | zero =>
    intro i I S hi hC hq
    have hn7 := hC.1
    have hn8 := hC.2.1
    refine e_iload_n rfl rfl ?_
    refine e_aload_n rfl rfl ?_
    refine e_getI rfl f0_144 (by assumption) rfl ?_
    rw [hn7]
    first | refine e_icmp_geN (tgt := 59) rfl rfl (by omega) (by omega) (fun z => ?_) (fun z => ?_) | refine e_icmp_ge (tgt := 59) rfl rfl (fun z => ?_) (fun z => ?_)
    · refine e_return rfl rfl ?_
      exact hq I (fun _ _ => rfl) rfl rfl hC
    · omega
  | succ k ih =>
    intro i I S hi hC hq
    have hn7 := hC.1
    have hn8 := hC.2.1
    have e0 : I (s + 1) i = S 0 i := (hC.2.2.1 i (by omega)).1
    have e4 : I (s + 5) i = S 4 i := (hC.2.2.1 i (by omega)).2.2.2.1
    have goon : ∀ I1, (∀ c, (c < s ∨ s + 7 < c) → I1 c = I c) → I1 (s + 3) = I (s + 3) → I1 (s + 4) = I (s + 4) → RC I1 J s n (go1 S i) → Gw l G d m0_goOff 53 [.ref D, .ref s, .int (nI i)] [] (I1, J, K) Q := by
      intro I1 f1 f2 f3 hC1
      rw [goS] at hq
      first | refine e_inc2 rfl rfl rfl (incN1 _) ?_ | refine e_inc2 rfl rfl rfl rfl ?_
      refine e_goto (tgt := 2) rfl rfl ?_
      exact ih (i + 1) I1 _ (by omega) hC1 (fun I' g1 g2 g3 c => hq I' (fun c' hc => (g1 c' hc).trans (f1 c' hc)) (g2.trans f2) (g3.trans f3) c)
    refine e_iload_n rfl rfl ?_
    refine e_aload_n rfl rfl ?_
    refine e_getI rfl f0_144 (by assumption) rfl ?_
    rw [hn7]
    first | refine e_icmp_geN (tgt := 59) rfl rfl (by omega) (by omega) (fun z => ?_) (fun z => ?_) | refine e_icmp_ge (tgt := 59) rfl rfl (fun z => ?_) (fun z => ?_)
    · omega
    · refine e_aload_n rfl rfl ?_
      refine e_getP rfl f0_96 (by assumption) rfl (by assumption) ?_
      refine e_iload_n rfl rfl ?_
      first | refine e_ialoadN rfl (by assumption) (by omega) (by omega) ?_ | (refine e_iaload rfl (by assumption) ?_ ?_; rotate_left)
      rw [e0]
      refine e_iconst (v := nI 1) rfl ic_1N ?_
      first | refine e_icmp_neN (tgt := 53) rfl rfl (by omega) (by omega) (fun z => ?_) (fun z => ?_) | refine e_icmp_ne (tgt := 53) rfl rfl (fun z => ?_) (fun z => ?_)
      · have hno : ¬ S 0 i = nI 1 := by assumption
        exact goon I (fun _ _ => rfl) rfl rfl (by rw [go1, if_neg hno]; exact hC)
      · have hyes : S 0 i = nI 1 := by assumption
        refine e_aload_n rfl rfl ?_
        refine e_getP rfl f0_99 (by assumption) rfl (by assumption) ?_
        refine e_iload_n rfl rfl ?_
        refine e_dup2 rfl rfl rfl ?_
        first | refine e_ialoadN rfl (by assumption) (by omega) (by omega) ?_ | (refine e_iaload rfl (by assumption) ?_ ?_; rotate_left)
        rw [e4]
        refine e_iconst (v := nI 1) rfl ic_1N ?_
        refine e_isub rfl ?_
        first | refine e_iastoreN rfl (by assumption) (by omega) (by omega) ?_ | (refine e_iastore rfl (by assumption) ?_ ?_; rotate_left)
        refine e_aload_n rfl rfl ?_
        refine e_getP rfl f0_99 (by assumption) rfl (by assumption) ?_
        refine e_iload_n rfl rfl ?_
        first | refine e_ialoadN rfl (by assumption) (by omega) (by omega) ?_ | (refine e_iaload rfl (by assumption) ?_ ?_; rotate_left)
        rw [u2_at]
        first | refine e_if_gtN (tgt := 53) rfl rfl (by omega) (fun z => ?_) (fun z => ?_) | refine e_if_gt (tgt := 53) rfl rfl (fun z => ?_) (fun z => ?_)
        · have hpos : 0 < S 4 i - nI 1 := by assumption
          refine goon _ (fun c hc => u2_row _ _ (by omega)) (u2_row _ _ (by omega)) (u2_row _ _ (by omega)) ?_
          rw [go1, if_pos hyes, if_pos hpos]
          exact hC.up4 (by omega) _
        · have hpos : ¬ 0 < S 4 i - nI 1 := by assumption
          refine e_aload_n rfl rfl ?_
          refine e_getP rfl f0_99 (by assumption) rfl (by assumption) ?_
          refine e_iload_n rfl rfl ?_
          refine e_iconst (v := nI 0) rfl ic_0N ?_
          first | refine e_iastoreN rfl (by assumption) (by omega) (by omega) ?_ | (refine e_iastore rfl (by assumption) ?_ ?_; rotate_left)
          refine e_aload_n rfl rfl ?_
          refine e_getP rfl f0_96 (by assumption) rfl (by assumption) ?_
          refine e_iload_n rfl rfl ?_
          refine e_iconst (v := nI 2) rfl ic_2N ?_
          first | refine e_iastoreN rfl (by assumption) (by omega) (by omega) ?_ | (refine e_iastore rfl (by assumption) ?_ ?_; rotate_left)
          rw [u2_u2]
          refine goon _ (fun c hc => by funext y; simp (disch := omega) only [u2_ne]) (by funext y; simp (disch := omega) only [u2_ne]) (by funext y; simp (disch := omega) only [u2_ne]) ?_
          rw [go1, if_pos hyes, if_neg hpos]
          exact (hC.up4 (by omega) _).up0 (by omega) _
theorem c0_goOff (hS : isState K s) (hC : RC I J s n S) : Cw l G d m0_goOff [.ref D, .ref s] (I, J, K) (fun r h' => r = none ∧ ∃ I', h' = (I', J, K) ∧ FD I J I' J D p s ∧ RC I' J s n (goS 0 n S)) := by
  refine Cw.of ok0_goOff rfl (rfl : argL _ _ = [.ref D, .ref s, .null]) ?_
  refine e_iconst (v := nI 0) rfl ic_0N ?_
  refine e_ist2 rfl rfl rfl ?_
  exact goOff_loop hS n 0 I S (by omega) hC (fun I' f1 f2 f3 c => ⟨rfl, I', rfl, ⟨fun c' _ hc => f1 c' hc, fun _ _ _ => rfl, f2, f3⟩, c⟩)
theorem blow_loop (hS : isState K s) (a11 : K.2.1 (p + 11) = (20, 8)) (hps : p + 27 ≤ s) (hn : P.1 1 = n) : ∀ k i I S, i + k = n → RP I p P → RC I J s n S → (∀ I', (∀ c, (c < s ∨ s + 7 < c) → I' c = I c) → I' (s + 3) = I (s + 3) → I' (s + 4) = I (s + 4) → RC I' J s n (blS P i k S) → Q none (I', J, K)) → Gw l G d m0_blow 14 [.ref D, .ref s, .ref (p + 11), .int (nI i)] [] (I, J, K) Q := by
  obtain ⟨h6, p0, p1, p2, p3, p4, p5, p6, a1, a2, a3, a4, a5, a6, a7⟩ := hS
  intro k
  induction k with
  | zero =>
    intro i I S hi hR hC hq
    have hn7 := hC.1
    have hn8 := hC.2.1
    refine e_iload_n rfl rfl ?_
    refine e_aload_n rfl rfl ?_
    refine e_getI rfl f0_144 (by assumption) rfl ?_
    rw [hn7]
    first | refine e_icmp_geN (tgt := 65) rfl rfl (by omega) (by omega) (fun z => ?_) (fun z => ?_) | refine e_icmp_ge (tgt := 65) rfl rfl (fun z => ?_) (fun z => ?_)
    · refine e_return rfl rfl ?_
      exact hq I (fun _ _ => rfl) rfl rfl hC
    · omega
  | succ k ih =>
    intro i I S hi hR hC hq
    have hn7 := hC.1
    have hn8 := hC.2.1
    have e0 : I (s + 1) i = S 0 i := (hC.2.2.1 i (by omega)).1
    have e1 : I (s + 2) i = S 1 i := (hC.2.2.1 i (by omega)).2.1
    have k8 : I s 8 = S 8 0 := hC.2.2.2.2.2.1.1
    have e6 : I (p + 11) i = P.2 6 i := hR.2.2.2.2.2.2.1 3 (by omega) i (by omega)
    have goon : ∀ I1, (∀ c, (c < s ∨ s + 7 < c) → I1 c = I c) → I1 (s + 3) = I (s + 3) → I1 (s + 4) = I (s + 4) → RC I1 J s n (bl1 P S i) → Gw l G d m0_blow 59 [.ref D, .ref s, .ref (p + 11), .int (nI i)] [] (I1, J, K) Q := by
      intro I1 f1 f2 f3 hC1
      rw [blS] at hq
      first | refine e_inc3 rfl rfl rfl (incN1 _) ?_ | refine e_inc3 rfl rfl rfl rfl ?_
      refine e_goto (tgt := 14) rfl rfl ?_
      exact ih (i + 1) I1 _ (by omega) (hR.frame (fun c h1 h2 => f1 c (by omega))) hC1 (fun I' g1 g2 g3 c => hq I' (fun c' hc => (g1 c' hc).trans (f1 c' hc)) (g2.trans f2) (g3.trans f3) c)
    have hit : S 0 i = 0 ∧ (P.2 6 i ≤ S 8 0 ∨ nI 10 ≤ S 1 i) → Gw l G d m0_blow 52 [.ref D, .ref s, .ref (p + 11), .int (nI i)] [] (I, J, K) Q := by
      intro hy
      refine e_aload_n rfl rfl ?_
      refine e_getP rfl f0_96 (by assumption) rfl (by assumption) ?_
      refine e_iload_n rfl rfl ?_
      refine e_iconst (v := nI 3) rfl ic_3N ?_
      first | refine e_iastoreN rfl (by assumption) (by omega) (by omega) ?_ | (refine e_iastore rfl (by assumption) ?_ ?_; rotate_left)
      refine goon _ (fun c hc => u2_row _ _ (by omega)) (u2_row _ _ (by omega)) (u2_row _ _ (by omega)) ?_
      rw [bl1, if_pos hy]
      exact hC.up0 (by omega) _
    have mis : ¬ (S 0 i = 0 ∧ (P.2 6 i ≤ S 8 0 ∨ nI 10 ≤ S 1 i)) → Gw l G d m0_blow 59 [.ref D, .ref s, .ref (p + 11), .int (nI i)] [] (I, J, K) Q := fun hno => goon I (fun _ _ => rfl) rfl rfl (by rw [bl1, if_neg hno]; exact hC)
    refine e_iload_n rfl rfl ?_
    refine e_aload_n rfl rfl ?_
    refine e_getI rfl f0_144 (by assumption) rfl ?_
    rw [hn7]
    first | refine e_icmp_geN (tgt := 65) rfl rfl (by omega) (by omega) (fun z => ?_) (fun z => ?_) | refine e_icmp_ge (tgt := 65) rfl rfl (fun z => ?_) (fun z => ?_)
    · omega
    · refine e_aload_n rfl rfl ?_
      refine e_getP rfl f0_96 (by assumption) rfl (by assumption) ?_
      refine e_iload_n rfl rfl ?_
      first | refine e_ialoadN rfl (by assumption) (by omega) (by omega) ?_ | (refine e_iaload rfl (by assumption) ?_ ?_; rotate_left)
      rw [e0]
      first | refine e_if_neB (tgt := 59) rfl rfl (fun z => ?_) (fun z => ?_) | refine e_if_neN (tgt := 59) rfl rfl (by omega) (fun z => ?_) (fun z => ?_) | refine e_if_ne (tgt := 59) rfl rfl (fun z => ?_) (fun z => ?_)
      · exact mis (fun q => absurd q.1 (by assumption))
      · have y0 : S 0 i = 0 := by assumption
        refine e_aload_n rfl rfl ?_
        refine e_iload_n rfl rfl ?_
        first | refine e_ialoadN rfl (by assumption) (by omega) (by omega) ?_ | (refine e_iaload rfl (by assumption) ?_ ?_; rotate_left)
        refine e_aload_n rfl rfl ?_
        refine e_getI rfl f0_30 (by assumption) rfl ?_
        rw [e6, k8]
        first | refine e_icmp_leN (tgt := 52) rfl rfl (by omega) (by omega) (fun z => ?_) (fun z => ?_) | refine e_icmp_le (tgt := 52) rfl rfl (fun z => ?_) (fun z => ?_)
        · exact hit ⟨y0, Or.inl (by assumption)⟩
        · have y1 : ¬ P.2 6 i ≤ S 8 0 := by assumption
          refine e_aload_n rfl rfl ?_
          refine e_getP rfl f0_159 (by assumption) rfl (by assumption) ?_
          refine e_iload_n rfl rfl ?_
          first | refine e_ialoadN rfl (by assumption) (by omega) (by omega) ?_ | (refine e_iaload rfl (by assumption) ?_ ?_; rotate_left)
          rw [e1]
          refine e_bipush (v := nI 10) rfl bp_10N ?_
          first | refine e_icmp_ltN (tgt := 59) rfl rfl (by omega) (by omega) (fun z => ?_) (fun z => ?_) | refine e_icmp_lt (tgt := 59) rfl rfl (fun z => ?_) (fun z => ?_)
          · exact mis (fun q => q.2.elim y1 (fun q => absurd q (Int32.not_le.mpr (by assumption))))
          · exact hit ⟨y0, Or.inr (Int32.not_lt.mp (by assumption))⟩
theorem c0_blow (hH : HD K D p s) (hR : RP I p P) (hC : RC I J s n S) (hn : P.1 1 = n) : Cw l G (d + 1) m0_blow [.ref D, .ref s] (I, J, K) (fun r h' => r = none ∧ ∃ I', h' = (I', J, K) ∧ FD I J I' J D p s ∧ RC I' J s n (blS P 0 n S)) := by
  have h0 := hH.1.1
  have d0 := hH.1.2.1
  have hdp := hH.2.2.2.1
  have hds := hH.2.2.2.2
  have hP2 := hH.2.1
  obtain ⟨h3, q0, q1, q2, q3, q4, r1, r2, r3, r4, r5⟩ := hP2
  have g2 := r2.1
  refine Cw.of ok0_blow rfl (rfl : argL _ _ = [.ref D, .ref s, .null, .null]) ?_
  refine e_aload_n rfl rfl ?_
  refine e_getP rfl f0_15 (by assumption) rfl (by assumption) ?_
  refine e_getP rfl f0_141 (by assumption) rfl (by assumption) ?_
  refine e_iconst (v := nI 3) rfl ic_3N ?_
  refine e_callVp (kd := 4) (M2 := m4_column) rfl v0_63 ok4_column (c4_column r2 (by omega)) rfl (by assumption) rfl rfl rfl rfl ?_
  refine e_ast2 rfl rfl rfl ?_
  refine e_iconst (v := nI 0) rfl ic_0N ?_
  refine e_ist3 rfl rfl rfl ?_
  exact blow_loop hH.2.2.1 (r2.2.2.2.2.1 3 (by omega)) (by omega) hn n 0 I S (by omega) hR hC (fun I' f1 f2 f3 c => ⟨rfl, I', rfl, ⟨fun c' _ hc => f1 c' hc, fun _ _ _ => rfl, f2, f3⟩, c⟩)
theorem c0_rusts (h0 : (K.2.1 D).1 = 0) (h6 : (K.2.1 s).1 = 6) {dr : Bool} (hdr : I D 2 = bI dr) (hJ : J s 14 = (S 14 0).toInt64) (o : Int32) : Cw l G (d + 1) m0_rusts [.ref D, .ref s, .int o] (I, J, K) (fun r h' => r = some (.int (bI (rsB dr S o).1)) ∧ h' = (I, if dr = false ∨ (o = 0 ∨ o = nI 100) then J else u2 J s 14 (nxt (S 14 0).toInt64), K)) := by
  refine Cw.of ok0_rusts rfl (rfl : argL _ _ = [.ref D, .ref s, .int o]) ?_
  refine e_aload_n rfl rfl ?_
  refine e_getI rfl f0_19 (by assumption) rfl ?_
  rw [hdr]
  first | refine e_if_neB (tgt := 19) rfl rfl (fun z => ?_) (fun z => ?_) | refine e_if_neN (tgt := 19) rfl rfl (by omega) (fun z => ?_) (fun z => ?_) | refine e_if_ne (tgt := 19) rfl rfl (fun z => ?_) (fun z => ?_)
  · have yd : dr = true := by assumption
    subst yd
    have big : (o = 0 ∨ o = nI 100) → Gw l G (d + 1) m0_rusts 29 [.ref D, .ref s, .int o] [] (I, J, K) (fun r h' => r = some (.int (bI (rsB true S o).1)) ∧ h' = (I, if true = false ∨ (o = 0 ∨ o = nI 100) then J else u2 J s 14 (nxt (S 14 0).toInt64), K)) := by
      intro ho
      have e : rsB true S o = (decide (o = nI 100), S) := by rw [rsB, if_neg (by decide), if_pos ho]
      rw [e, if_pos (Or.inr ho)]
      refine e_iload_n rfl rfl ?_
      refine e_bipush (v := nI 100) rfl bp_100N ?_
      first | refine e_icmp_neN (tgt := 39) rfl rfl (by omega) (by omega) (fun z => ?_) (fun z => ?_) | refine e_icmp_ne (tgt := 39) rfl rfl (fun z => ?_) (fun z => ?_)
      · refine e_iconst (v := nI 0) rfl ic_0N ?_
        refine e_zreturn rfl rfl ?_ ?_
        · exact Or.inl rfl
        · rw [decide_eq_false (by assumption)]; exact ⟨rfl, rfl⟩
      · refine e_iconst (v := nI 1) rfl ic_1N ?_
        refine e_goto (tgt := 40) rfl rfl ?_
        refine e_zreturn rfl rfl ?_ ?_
        · exact Or.inr rfl
        · rw [decide_eq_true (by assumption)]; exact ⟨rfl, rfl⟩
    refine e_iload_n rfl rfl ?_
    first | refine e_if_eqB (tgt := 29) rfl rfl (fun z => ?_) (fun z => ?_) | refine e_if_eqN (tgt := 29) rfl rfl (by omega) (fun z => ?_) (fun z => ?_) | refine e_if_eq (tgt := 29) rfl rfl (fun z => ?_) (fun z => ?_)
    · exact big (Or.inl (by assumption))
    · have y0 : ¬ o = 0 := by assumption
      refine e_iload_n rfl rfl ?_
      refine e_bipush (v := nI 100) rfl bp_100N ?_
      first | refine e_icmp_neN (tgt := 41) rfl rfl (by omega) (by omega) (fun z => ?_) (fun z => ?_) | refine e_icmp_ne (tgt := 41) rfl rfl (fun z => ?_) (fun z => ?_)
      · have y1 : ¬ o = nI 100 := by assumption
        have ho : ¬ (o = 0 ∨ o = nI 100) := fun q => q.elim y0 y1
        have e : rsB true S o = (decide ((nxt (S 14 0).toInt64 / 65536).toInt32 - (nxt (S 14 0).toInt64 / 65536).toInt32 / nI 100 * nI 100 < o), u2 S 14 0 (nx32 (S 14 0))) := by rw [rsB, if_neg (by decide), if_neg ho]
        rw [e, if_neg (fun q => q.elim (by decide) ho)]
        refine e_aload_n rfl rfl ?_
        refine e_callV (kd := 6) (M2 := m6_drawn) rfl v0_167 ok6_drawn (c6_drawn h6) rfl (by assumption) rfl rfl rfl rfl (fun r1 h1 q1 => ?_)
        obtain ⟨rfl, rfl⟩ := q1
        rw [hJ]
        refine e_bipush (v := nI 100) rfl bp_100N ?_
        refine e_irem rfl (by first | assumption | decide) ?_
        refine e_iload_n rfl rfl ?_
        first | refine e_icmp_geN (tgt := 56) rfl rfl (by omega) (by omega) (fun z => ?_) (fun z => ?_) | refine e_icmp_ge (tgt := 56) rfl rfl (fun z => ?_) (fun z => ?_)
        · refine e_iconst (v := nI 0) rfl ic_0N ?_
          refine e_zreturn rfl rfl ?_ ?_
          · exact Or.inl rfl
          · rw [decide_eq_false (Int32.not_lt.mpr (by assumption))]; exact ⟨rfl, rfl⟩
        · refine e_iconst (v := nI 1) rfl ic_1N ?_
          refine e_goto (tgt := 57) rfl rfl ?_
          refine e_zreturn rfl rfl ?_ ?_
          · exact Or.inr rfl
          · rw [decide_eq_true (Int32.not_le.mp (by assumption))]; exact ⟨rfl, rfl⟩
      · exact big (Or.inr (by assumption))
  · have yd : dr = false := by assumption
    subst yd
    have e : rsB false S o = (decide (nI 50 ≤ o), S) := by rw [rsB, if_pos rfl]
    rw [e, if_pos (Or.inl rfl)]
    refine e_iload_n rfl rfl ?_
    refine e_bipush (v := nI 50) rfl bp_50N ?_
    first | refine e_icmp_ltN (tgt := 17) rfl rfl (by omega) (by omega) (fun z => ?_) (fun z => ?_) | refine e_icmp_lt (tgt := 17) rfl rfl (fun z => ?_) (fun z => ?_)
    · refine e_iconst (v := nI 0) rfl ic_0N ?_
      refine e_zreturn rfl rfl ?_ ?_
      · exact Or.inl rfl
      · rw [decide_eq_false (Int32.not_le.mpr (by assumption))]; exact ⟨rfl, rfl⟩
    · refine e_iconst (v := nI 1) rfl ic_1N ?_
      refine e_goto (tgt := 18) rfl rfl ?_
      refine e_zreturn rfl rfl ?_ ?_
      · exact Or.inr rfl
      · rw [decide_eq_true (Int32.not_lt.mp (by assumption))]; exact ⟨rfl, rfl⟩
end MDays2
