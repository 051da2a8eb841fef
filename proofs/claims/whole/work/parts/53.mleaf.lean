/-! ===== the reference: small questions ===== -/
section MLeaf
variable {l : Launch} {G : GG} {d : Nat} {I : IM} {J : JM} {K : Kt} {Q : Option Value → Hp → Prop} {f n B : Nat} {S : SM} {P : Pl}
theorem c10_isTin (hM : MK K) (hn : I 104 1 = nI n) (t : Int32) : Cp l G d m10_isTin [.ref 102, .int t] (I, J, K) (.int (bI (inN n t))) := by
  refine Cp.of ok10_isTin rfl (rfl : argL _ _ = [.ref 102, .int t]) ?_
  refine e_iload_n rfl rfl ?_
  refine e_if_lt (tgt := 18) rfl rfl (fun z => ?_) (fun z => ?_)
  · refine e_iconst (v := nI 0) rfl ic_0N ?_
    refine e_zreturn rfl rfl ?_ ?_
    · exact Or.inl rfl
    · rw [inN, decide_eq_false (fun q => absurd z (Int32.not_lt.mpr q.1))]; exact ⟨rfl, rfl⟩
  · refine e_iload_n rfl rfl ?_
    refine e_aload_n rfl rfl ?_
    refine e_getP rfl f10_13 hM.k rfl hM.p3 ?_
    refine e_iconst (v := nI 1) rfl ic_1N ?_
    first | refine e_ialoadN rfl hM.a3 (by omega) (by omega) ?_ | (refine e_iaload rfl hM.a3 ?_ ?_; rotate_left)
    rw [hn]
    refine e_icmp_ge (tgt := 18) rfl rfl (fun y => ?_) (fun y => ?_)
    · refine e_iconst (v := nI 0) rfl ic_0N ?_
      refine e_zreturn rfl rfl ?_ ?_
      · exact Or.inl rfl
      · rw [inN, decide_eq_false (fun q => absurd q.2 (Int32.not_lt.mpr y))]; exact ⟨rfl, rfl⟩
    · refine e_iconst (v := nI 1) rfl ic_1N ?_
      refine e_goto (tgt := 19) rfl rfl ?_
      refine e_zreturn rfl rfl ?_ ?_
      · exact Or.inr rfl
      · rw [inN, decide_eq_true ⟨Int32.not_lt.mp z, Int32.not_le.mp y⟩]; exact ⟨rfl, rfl⟩
theorem c10_isKind (hM : MK K) (hn : I 104 0 = nI n) (t : Int32) : Cp l G d m10_isKind [.ref 102, .int t] (I, J, K) (.int (bI (inN n t))) := by
  refine Cp.of ok10_isKind rfl (rfl : argL _ _ = [.ref 102, .int t]) ?_
  refine e_iload_n rfl rfl ?_
  refine e_if_lt (tgt := 18) rfl rfl (fun z => ?_) (fun z => ?_)
  · refine e_iconst (v := nI 0) rfl ic_0N ?_
    refine e_zreturn rfl rfl ?_ ?_
    · exact Or.inl rfl
    · rw [inN, decide_eq_false (fun q => absurd z (Int32.not_lt.mpr q.1))]; exact ⟨rfl, rfl⟩
  · refine e_iload_n rfl rfl ?_
    refine e_aload_n rfl rfl ?_
    refine e_getP rfl f10_13 hM.k rfl hM.p3 ?_
    refine e_iconst (v := nI 0) rfl ic_0N ?_
    first | refine e_ialoadN rfl hM.a3 (by omega) (by omega) ?_ | (refine e_iaload rfl hM.a3 ?_ ?_; rotate_left)
    rw [hn]
    refine e_icmp_ge (tgt := 18) rfl rfl (fun y => ?_) (fun y => ?_)
    · refine e_iconst (v := nI 0) rfl ic_0N ?_
      refine e_zreturn rfl rfl ?_ ?_
      · exact Or.inl rfl
      · rw [inN, decide_eq_false (fun q => absurd q.2 (Int32.not_lt.mpr y))]; exact ⟨rfl, rfl⟩
    · refine e_iconst (v := nI 1) rfl ic_1N ?_
      refine e_goto (tgt := 19) rfl rfl ?_
      refine e_zreturn rfl rfl ?_ ?_
      · exact Or.inr rfl
      · rw [inN, decide_eq_true ⟨Int32.not_lt.mp z, Int32.not_le.mp y⟩]; exact ⟨rfl, rfl⟩
theorem c10_isStack (t : Int32) : Cp l G d m10_isStack [.int t] (I, J, K) (.int (bI (inN 4 t))) := by
  refine Cp.of ok10_isStack rfl (rfl : argL _ _ = [.int t]) ?_
  refine e_iload_n rfl rfl ?_
  refine e_if_lt (tgt := 13) rfl rfl (fun z => ?_) (fun z => ?_)
  · refine e_iconst (v := nI 0) rfl ic_0N ?_
    refine e_zreturn rfl rfl ?_ ?_
    · exact Or.inl rfl
    · rw [inN, decide_eq_false (fun q => absurd z (Int32.not_lt.mpr q.1))]; exact ⟨rfl, rfl⟩
  · refine e_iload_n rfl rfl ?_
    refine e_iconst (v := nI 3) rfl ic_3N ?_
    refine e_icmp_gt (tgt := 13) rfl rfl (fun y => ?_) (fun y => ?_)
    · refine e_iconst (v := nI 0) rfl ic_0N ?_
      refine e_zreturn rfl rfl ?_ ?_
      · exact Or.inl rfl
      · rw [Bool.eq_false_iff.mpr (fun q => absurd (inN_lo (k := 3) (by omega) q).2 (Int32.not_le.mpr y))]; exact ⟨rfl, rfl⟩
    · refine e_iconst (v := nI 1) rfl ic_1N ?_
      refine e_goto (tgt := 14) rfl rfl ?_
      refine e_zreturn rfl rfl ?_ ?_
      · exact Or.inr rfl
      · rw [inN_hi (k := 3) (by omega) z (Int32.not_lt.mp y)]; exact ⟨rfl, rfl⟩
theorem c10_isClosed (hM : MK K) {t : Nat} (hf : f < 23) (ht : t < 8) : Cp l G d m10_isClosed [.ref 102, .int (nI f), .int (nI t)] (I, J, K) (.int (bI (decide (I 133 (8 * f + t) = 0)))) := by
  refine Cp.of ok10_isClosed rfl (rfl : argL _ _ = [.ref 102, .int (nI f), .int (nI t)]) ?_
  refine e_aload_n rfl rfl ?_
  refine e_getP rfl f10_105 hM.k rfl hM.p46 ?_
  refine e_bipush (v := nI 8) rfl bp_8N ?_
  refine e_iload_n rfl rfl ?_
  first | refine e_imulN rfl ?_ | refine e_imul rfl ?_
  refine e_iload_n rfl rfl ?_
  first | refine e_iaddN rfl ?_ | refine e_iadd rfl ?_
  first | refine e_ialoadN rfl hM.a46 (by omega) (by omega) ?_ | (refine e_iaload rfl hM.a46 ?_ ?_; rotate_left)
  refine e_if_ne (tgt := 18) rfl rfl (fun z => ?_) (fun z => ?_)
  · refine e_iconst (v := nI 0) rfl ic_0N ?_
    refine e_zreturn rfl rfl ?_ ?_
    · exact Or.inl rfl
    · rw [decide_eq_false z]; exact ⟨rfl, rfl⟩
  · refine e_iconst (v := nI 1) rfl ic_1N ?_
    refine e_goto (tgt := 19) rfl rfl ?_
    refine e_zreturn rfl rfl ?_ ?_
    · exact Or.inr rfl
    · rw [decide_eq_true z]; exact ⟨rfl, rfl⟩
theorem mabove_loop (hM : MK K) (hn : I 104 1 = nI n) (h8 : n ≤ 8) (hR : RM I f n S B) (hf : f < 23) {t : Nat} (ht : t < n) : ∀ k i many, i + k = n → many ≤ i → Q (some (.int (nI (many + cF (abS S t) i k)))) (I, J, K) → ∀ v5, Gw l G (d + 1) m10_aboveOf 5 [.ref 102, .int (nI f), .int (nI t), .int (nI many), .int (nI i), v5] [] (I, J, K) Q := by
  intro k
  induction k with
  | zero =>
    intro i many hi hm hq v5
    refine e_iload rfl rfl ?_
    refine e_aload_n rfl rfl ?_
    refine e_getP rfl f10_13 hM.k rfl hM.p3 ?_
    refine e_iconst (v := nI 1) rfl ic_1N ?_
    first | refine e_ialoadN rfl hM.a3 (by omega) (by omega) ?_ | (refine e_iaload rfl hM.a3 ?_ ?_; rotate_left)
    rw [hn]
    first | refine e_icmp_geN (tgt := 104) rfl rfl (by omega) (by omega) (fun z => ?_) (fun z => ?_) | refine e_icmp_ge (tgt := 104) rfl rfl (fun z => ?_) (fun z => ?_)
    · refine e_iload_n rfl rfl ?_
      refine e_ireturn rfl rfl ?_
      exact hq
    · omega
  | succ k ih =>
    intro i many hi hm hq v5
    obtain ⟨e0, -, e2, -⟩ := hR.1 i (by omega)
    have e4 := hR.2.2.2.1 t ht i (by omega)
    refine e_iload rfl rfl ?_
    refine e_aload_n rfl rfl ?_
    refine e_getP rfl f10_13 hM.k rfl hM.p3 ?_
    refine e_iconst (v := nI 1) rfl ic_1N ?_
    first | refine e_ialoadN rfl hM.a3 (by omega) (by omega) ?_ | (refine e_iaload rfl hM.a3 ?_ ?_; rotate_left)
    rw [hn]
    first | refine e_icmp_geN (tgt := 104) rfl rfl (by omega) (by omega) (fun z => ?_) (fun z => ?_) | refine e_icmp_ge (tgt := 104) rfl rfl (fun z => ?_) (fun z => ?_)
    · omega
    · have no : abS S t i = false → ∀ v5, Gw l G (d + 1) m10_aboveOf 95 [.ref 102, .int (nI f), .int (nI t), .int (nI many), .int (nI i), v5] [.int (nI many)] (I, J, K) Q := by
        intro hno v5
        refine e_iconst (v := nI 0) rfl ic_0N ?_
        first | refine e_iaddN rfl ?_ | refine e_iadd rfl ?_
        refine e_ist3 rfl rfl rfl ?_
        first | refine e_inc4 rfl rfl rfl (incN1 _) ?_ | refine e_inc4 rfl rfl rfl rfl ?_
        refine e_goto (tgt := 5) rfl rfl ?_
        refine ih (i + 1) _ (by omega) (by omega) ?_ _
        rw [cF, if_neg (by rw [hno]; decide), ← Nat.add_assoc] at hq
        exact hq
      have tail : ∀ b : Bool, b = (decide (S 0 i = 0) && decide (I 131 (8 * f + i) = I 131 (8 * f + t))) → ∀ v5, Gw l G (d + 1) m10_aboveOf 57 [.ref 102, .int (nI f), .int (nI t), .int (nI many), .int (nI i), v5] [.int (bI b)] (I, J, K) Q := by
        intro b hb v5
        refine e_ist5 rfl rfl rfl ?_
        refine e_iload_n rfl rfl ?_
        refine e_iload rfl rfl ?_
        refine e_if_eqB (tgt := 95) rfl rfl (fun z => ?_) (fun z => ?_)
        · refine no ?_ _
          rw [z] at hb
          unfold abS
          rw [e4]
          cases h0 : decide (S 0 i = 0) with
          | false => rfl
          | true =>
            rw [h0, Bool.true_and] at hb
            rw [decide_eq_false (p := _ ∧ _) (fun q => absurd (decide_eq_true q.1) (by rw [← hb]; decide))]
            rfl
        · rw [z] at hb
          have hb2 := (Bool.and_eq_true _ _).mp hb.symm
          refine e_aload_n rfl rfl ?_
          refine e_getP rfl f10_96 hM.k rfl hM.p43 ?_
          refine e_bipush (v := nI 8) rfl bp_8N ?_
          refine e_iload_n rfl rfl ?_
          first | refine e_imulN rfl ?_ | refine e_imul rfl ?_
          refine e_iload rfl rfl ?_
          first | refine e_iaddN rfl ?_ | refine e_iadd rfl ?_
          first | refine e_ialoadN rfl hM.a43 (by omega) (by omega) ?_ | (refine e_iaload rfl hM.a43 ?_ ?_; rotate_left)
          refine e_aload_n rfl rfl ?_
          refine e_getP rfl f10_96 hM.k rfl hM.p43 ?_
          refine e_bipush (v := nI 8) rfl bp_8N ?_
          refine e_iload_n rfl rfl ?_
          first | refine e_imulN rfl ?_ | refine e_imul rfl ?_
          refine e_iload_n rfl rfl ?_
          first | refine e_iaddN rfl ?_ | refine e_iadd rfl ?_
          first | refine e_ialoadN rfl hM.a43 (by omega) (by omega) ?_ | (refine e_iaload rfl hM.a43 ?_ ?_; rotate_left)
          refine e_icmp_le (tgt := 95) rfl rfl (fun y => ?_) (fun y => ?_)
          · refine no ?_ _
            unfold abS
            rw [e4, hb2.1, decide_eq_false (p := _ ∧ _) (fun q => absurd y (Int32.not_le.mpr q.2))]
            rfl
          · have yes : abS S t i = true := by
              unfold abS
              rw [e4, hb2.1, decide_eq_true (p := _ ∧ _) ⟨of_decide_eq_true hb2.2, Int32.not_le.mp y⟩]
              rfl
            refine e_iconst (v := nI 1) rfl ic_1N ?_
            refine e_goto (tgt := 96) rfl rfl ?_
            first | refine e_iaddN rfl ?_ | refine e_iadd rfl ?_
            refine e_ist3 rfl rfl rfl ?_
            first | refine e_inc4 rfl rfl rfl (incN1 _) ?_ | refine e_inc4 rfl rfl rfl rfl ?_
            refine e_goto (tgt := 5) rfl rfl ?_
            refine ih (i + 1) _ (by omega) (by omega) ?_ _
            rw [cF, if_pos yes, ← Nat.add_assoc] at hq
            exact hq
      refine e_aload_n rfl rfl ?_
      refine e_iload_n rfl rfl ?_
      refine e_iload rfl rfl ?_
      refine e_callVp (kd := 10) (M2 := m10_isClosed) rfl v10_333 ok10_isClosed (c10_isClosed (d := d) hM hf (by omega)) rfl hM.k rfl rfl rfl rfl ?_
      rw [e0]
      refine e_if_eqB (tgt := 56) rfl rfl (fun z => ?_) (fun z => ?_)
      · refine e_iconst (v := nI 0) rfl ic_0N ?_
        exact tail false (by rw [z]; rfl) _
      · refine e_aload_n rfl rfl ?_
        refine e_getP rfl f10_99 hM.k rfl hM.p44 ?_
        refine e_bipush (v := nI 8) rfl bp_8N ?_
        refine e_iload_n rfl rfl ?_
        first | refine e_imulN rfl ?_ | refine e_imul rfl ?_
        refine e_iload rfl rfl ?_
        first | refine e_iaddN rfl ?_ | refine e_iadd rfl ?_
        first | refine e_ialoadN rfl hM.a44 (by omega) (by omega) ?_ | (refine e_iaload rfl hM.a44 ?_ ?_; rotate_left)
        refine e_aload_n rfl rfl ?_
        refine e_getP rfl f10_99 hM.k rfl hM.p44 ?_
        refine e_bipush (v := nI 8) rfl bp_8N ?_
        refine e_iload_n rfl rfl ?_
        first | refine e_imulN rfl ?_ | refine e_imul rfl ?_
        refine e_iload_n rfl rfl ?_
        first | refine e_iaddN rfl ?_ | refine e_iadd rfl ?_
        first | refine e_ialoadN rfl hM.a44 (by omega) (by omega) ?_ | (refine e_iaload rfl hM.a44 ?_ ?_; rotate_left)
        refine e_icmp_ne (tgt := 56) rfl rfl (fun y => ?_) (fun y => ?_)
        · refine e_iconst (v := nI 0) rfl ic_0N ?_
          exact tail false (by rw [z, decide_eq_false y]; rfl) _
        · refine e_iconst (v := nI 1) rfl ic_1N ?_
          refine e_goto (tgt := 57) rfl rfl ?_
          exact tail true (by rw [z, decide_eq_true y]; rfl) _
theorem c10_aboveOf (hM : MK K) (hn : I 104 1 = nI n) (h8 : n ≤ 8) (hR : RM I f n S B) (hf : f < 23) {t : Nat} (ht : t < n) : Cp l G (d + 1) m10_aboveOf [.ref 102, .int (nI f), .int (nI t)] (I, J, K) (.int (nI (cnt (abS S t) n))) := by
  refine Cp.of ok10_aboveOf rfl (rfl : argL _ _ = [.ref 102, .int (nI f), .int (nI t), .null, .null, .null]) ?_
  refine e_iconst (v := nI 0) rfl ic_0N ?_
  refine e_ist3 rfl rfl rfl ?_
  refine e_iconst (v := nI 0) rfl ic_0N ?_
  refine e_ist4 rfl rfl rfl ?_
  refine mabove_loop hM hn h8 hR hf ht n 0 0 (by omega) (by omega) ?_ _
  rw [Nat.zero_add]
  exact ⟨rfl, rfl⟩
theorem c10_isOnTop (hM : MK K) (hn : I 104 1 = nI n) (h8 : n ≤ 8) (hR : RM I f n S B) (hf : f < 23) {t : Nat} (ht : t < n) : Cp l G (d + 2) m10_isOnTop [.ref 102, .int (nI f), .int (nI t)] (I, J, K) (.int (bI (topS S n t))) := by
  have e0 := (hR.1 t ht).1
  have hc := cF_le (abS S t) n 0
  have hc2 : cnt (abS S t) n ≤ n := hc
  unfold topS
  refine Cp.of ok10_isOnTop rfl (rfl : argL _ _ = [.ref 102, .int (nI f), .int (nI t)]) ?_
  refine e_aload_n rfl rfl ?_
  refine e_iload_n rfl rfl ?_
  refine e_iload_n rfl rfl ?_
  refine e_callVp (kd := 10) (M2 := m10_isClosed) rfl v10_333 ok10_isClosed (c10_isClosed (d := d + 1) hM hf (by omega)) rfl hM.k rfl rfl rfl rfl ?_
  rw [e0]
  refine e_if_eqB (tgt := 22) rfl rfl (fun z => ?_) (fun z => ?_)
  · refine e_iconst (v := nI 0) rfl ic_0N ?_
    refine e_zreturn rfl rfl ?_ ?_
    · exact Or.inl rfl
    · rw [z]; exact ⟨rfl, rfl⟩
  · rw [z, Bool.true_and]
    refine e_aload_n rfl rfl ?_
    refine e_iload_n rfl rfl ?_
    refine e_iload_n rfl rfl ?_
    refine e_callVp (kd := 10) (M2 := m10_aboveOf) rfl v10_337 ok10_aboveOf (c10_aboveOf (d := d) hM hn h8 hR hf ht) rfl hM.k rfl rfl rfl rfl ?_
    first | refine e_if_neB (tgt := 22) rfl rfl (fun z => ?_) (fun z => ?_) | refine e_if_neN (tgt := 22) rfl rfl (by omega) (fun z => ?_) (fun z => ?_) | refine e_if_ne (tgt := 22) rfl rfl (fun z => ?_) (fun z => ?_)
    · refine e_iconst (v := nI 0) rfl ic_0N ?_
      refine e_zreturn rfl rfl ?_ ?_
      · exact Or.inl rfl
      · rw [decide_eq_false (by assumption)]; exact ⟨rfl, rfl⟩
    · refine e_iconst (v := nI 1) rfl ic_1N ?_
      refine e_goto (tgt := 23) rfl rfl ?_
      refine e_zreturn rfl rfl ?_ ?_
      · exact Or.inr rfl
      · rw [decide_eq_true (by assumption)]; exact ⟨rfl, rfl⟩
theorem mtinsOf_loop (hM : MK K) (hn : I 104 1 = nI n) (h8 : n ≤ 8) (hR : RM I f n S B) (hf : f < 23) {x : Int32} : ∀ k i many, i + k = n → many ≤ i → Q (some (.int (nI (many + cF (fun u => decide (S 0 u = x)) i k)))) (I, J, K) → Gw l G d m10_tinsOf 5 [.ref 102, .int (nI f), .int x, .int (nI many), .int (nI i)] [] (I, J, K) Q := by
  intro k
  induction k with
  | zero =>
    intro i many hi hm hq
    refine e_iload rfl rfl ?_
    refine e_aload_n rfl rfl ?_
    refine e_getP rfl f10_13 hM.k rfl hM.p3 ?_
    refine e_iconst (v := nI 1) rfl ic_1N ?_
    first | refine e_ialoadN rfl hM.a3 (by omega) (by omega) ?_ | (refine e_iaload rfl hM.a3 ?_ ?_; rotate_left)
    rw [hn]
    first | refine e_icmp_geN (tgt := 46) rfl rfl (by omega) (by omega) (fun z => ?_) (fun z => ?_) | refine e_icmp_ge (tgt := 46) rfl rfl (fun z => ?_) (fun z => ?_)
    · refine e_iload_n rfl rfl ?_
      refine e_ireturn rfl rfl ?_
      exact hq
    · omega
  | succ k ih =>
    intro i many hi hm hq
    have e0 := (hR.1 i (by omega)).1
    refine e_iload rfl rfl ?_
    refine e_aload_n rfl rfl ?_
    refine e_getP rfl f10_13 hM.k rfl hM.p3 ?_
    refine e_iconst (v := nI 1) rfl ic_1N ?_
    first | refine e_ialoadN rfl hM.a3 (by omega) (by omega) ?_ | (refine e_iaload rfl hM.a3 ?_ ?_; rotate_left)
    rw [hn]
    first | refine e_icmp_geN (tgt := 46) rfl rfl (by omega) (by omega) (fun z => ?_) (fun z => ?_) | refine e_icmp_ge (tgt := 46) rfl rfl (fun z => ?_) (fun z => ?_)
    · omega
    · refine e_iload_n rfl rfl ?_
      refine e_aload_n rfl rfl ?_
      refine e_getP rfl f10_105 hM.k rfl hM.p46 ?_
      refine e_bipush (v := nI 8) rfl bp_8N ?_
      refine e_iload_n rfl rfl ?_
      first | refine e_imulN rfl ?_ | refine e_imul rfl ?_
      refine e_iload rfl rfl ?_
      first | refine e_iaddN rfl ?_ | refine e_iadd rfl ?_
      first | refine e_ialoadN rfl hM.a46 (by omega) (by omega) ?_ | (refine e_iaload rfl hM.a46 ?_ ?_; rotate_left)
      rw [e0]
      refine e_iload_n rfl rfl ?_
      rw [cF] at hq
      refine e_icmp_ne (tgt := 37) rfl rfl (fun z => ?_) (fun z => ?_)
      · rw [if_neg (by rw [decide_eq_false z]; decide), ← Nat.add_assoc] at hq
        refine e_iconst (v := nI 0) rfl ic_0N ?_
        first | refine e_iaddN rfl ?_ | refine e_iadd rfl ?_
        refine e_ist3 rfl rfl rfl ?_
        first | refine e_inc4 rfl rfl rfl (incN1 _) ?_ | refine e_inc4 rfl rfl rfl rfl ?_
        refine e_goto (tgt := 5) rfl rfl ?_
        exact ih (i + 1) _ (by omega) (by omega) hq
      · rw [if_pos (by rw [decide_eq_true z]), ← Nat.add_assoc] at hq
        refine e_iconst (v := nI 1) rfl ic_1N ?_
        refine e_goto (tgt := 38) rfl rfl ?_
        first | refine e_iaddN rfl ?_ | refine e_iadd rfl ?_
        refine e_ist3 rfl rfl rfl ?_
        first | refine e_inc4 rfl rfl rfl (incN1 _) ?_ | refine e_inc4 rfl rfl rfl rfl ?_
        refine e_goto (tgt := 5) rfl rfl ?_
        exact ih (i + 1) _ (by omega) (by omega) hq
theorem c10_tinsOf (hM : MK K) (hn : I 104 1 = nI n) (h8 : n ≤ 8) (hR : RM I f n S B) (hf : f < 23) (x : Int32) : Cp l G d m10_tinsOf [.ref 102, .int (nI f), .int x] (I, J, K) (.int (nI (cnt (fun u => decide (S 0 u = x)) n))) := by
  refine Cp.of ok10_tinsOf rfl (rfl : argL _ _ = [.ref 102, .int (nI f), .int x, .null, .null]) ?_
  refine e_iconst (v := nI 0) rfl ic_0N ?_
  refine e_ist3 rfl rfl rfl ?_
  refine e_iconst (v := nI 0) rfl ic_0N ?_
  refine e_ist4 rfl rfl rfl ?_
  refine mtinsOf_loop hM hn h8 hR hf n 0 0 (by omega) (by omega) ?_
  rw [Nat.zero_add]
  exact ⟨rfl, rfl⟩
theorem or_0 (v : Int32) : v ||| nI 0 = v := by
  rw [← Int32.toBitVec_inj, Int32.toBitVec_or]
  show v.toBitVec ||| 0#32 = v.toBitVec
  simp
theorem msetOf_loop (hM : MK K) (hP : MP I P) (hn : P.1 1 = n) (h8 : n ≤ 8) (hR : RM I 0 n S B) {kd x : Int32} : ∀ k i v, i + k = n → Q (some (.int (bitF (fun t => decide (S 0 t = x) && decide (P.2 4 t = kd)) i k v))) (I, J, K) → Gw l G d m10_setOf 5 [.ref 102, .int kd, .int x, .int v, .int (nI i)] [] (I, J, K) Q := by
  have hn1 : I 104 1 = nI n := by rw [← hn]; exact hP.1.2.1
  intro k
  induction k with
  | zero =>
    intro i v hi hq
    refine e_iload rfl rfl ?_
    refine e_aload_n rfl rfl ?_
    refine e_getP rfl f10_13 hM.k rfl hM.p3 ?_
    refine e_iconst (v := nI 1) rfl ic_1N ?_
    first | refine e_ialoadN rfl hM.a3 (by omega) (by omega) ?_ | (refine e_iaload rfl hM.a3 ?_ ?_; rotate_left)
    rw [hn1]
    first | refine e_icmp_geN (tgt := 55) rfl rfl (by omega) (by omega) (fun z => ?_) (fun z => ?_) | refine e_icmp_ge (tgt := 55) rfl rfl (fun z => ?_) (fun z => ?_)
    · refine e_iload_n rfl rfl ?_
      refine e_ireturn rfl rfl ?_
      exact hq
    · omega
  | succ k ih =>
    intro i v hi hq
    have e0 := (hR.1 i (by omega)).1
    rw [Nat.mul_zero, Nat.zero_add] at e0
    have e4 := (hP.2.2.1 i (by omega)).2.1
    rw [bitF] at hq
    have no : (decide (S 0 i = x) && decide (P.2 4 i = kd)) = false → Gw l G d m10_setOf 46 [.ref 102, .int kd, .int x, .int v, .int (nI i)] [.int v] (I, J, K) Q := by
      intro hno
      rw [if_neg (by rw [hno]; decide)] at hq
      refine e_iconst (v := nI 0) rfl ic_0N ?_
      refine e_ior rfl ?_
      rw [or_0]
      refine e_ist3 rfl rfl rfl ?_
      first | refine e_inc4 rfl rfl rfl (incN1 _) ?_ | refine e_inc4 rfl rfl rfl rfl ?_
      refine e_goto (tgt := 5) rfl rfl ?_
      exact ih (i + 1) _ (by omega) hq
    refine e_iload rfl rfl ?_
    refine e_aload_n rfl rfl ?_
    refine e_getP rfl f10_13 hM.k rfl hM.p3 ?_
    refine e_iconst (v := nI 1) rfl ic_1N ?_
    first | refine e_ialoadN rfl hM.a3 (by omega) (by omega) ?_ | (refine e_iaload rfl hM.a3 ?_ ?_; rotate_left)
    rw [hn1]
    first | refine e_icmp_geN (tgt := 55) rfl rfl (by omega) (by omega) (fun z => ?_) (fun z => ?_) | refine e_icmp_ge (tgt := 55) rfl rfl (fun z => ?_) (fun z => ?_)
    · omega
    · refine e_iload_n rfl rfl ?_
      refine e_aload_n rfl rfl ?_
      refine e_getP rfl f10_28 hM.k rfl hM.p8 ?_
      refine e_iload rfl rfl ?_
      first | refine e_ialoadN rfl hM.a8 (by omega) (by omega) ?_ | (refine e_iaload rfl hM.a8 ?_ ?_; rotate_left)
      rw [e4]
      refine e_iload_n rfl rfl ?_
      refine e_icmp_ne (tgt := 46) rfl rfl (fun z => ?_) (fun z => ?_)
      · exact no (by rw [decide_eq_false z, Bool.and_false])
      · refine e_aload_n rfl rfl ?_
        refine e_getP rfl f10_105 hM.k rfl hM.p46 ?_
        refine e_iload rfl rfl ?_
        first | refine e_ialoadN rfl hM.a46 (by omega) (by omega) ?_ | (refine e_iaload rfl hM.a46 ?_ ?_; rotate_left)
        rw [e0]
        refine e_iload_n rfl rfl ?_
        refine e_icmp_ne (tgt := 46) rfl rfl (fun y => ?_) (fun y => ?_)
        · exact no (by rw [decide_eq_false y, Bool.false_and])
        · rw [if_pos (by rw [decide_eq_true y, decide_eq_true z]; rfl)] at hq
          refine e_iconst (v := nI 1) rfl ic_1N ?_
          refine e_iload rfl rfl ?_
          refine e_ishl rfl ?_
          refine e_goto (tgt := 47) rfl rfl ?_
          refine e_ior rfl ?_
          refine e_ist3 rfl rfl rfl ?_
          first | refine e_inc4 rfl rfl rfl (incN1 _) ?_ | refine e_inc4 rfl rfl rfl rfl ?_
          refine e_goto (tgt := 5) rfl rfl ?_
          exact ih (i + 1) _ (by omega) hq
theorem c10_setOf (hM : MK K) (hP : MP I P) (hn : P.1 1 = n) (h8 : n ≤ 8) (hR : RM I 0 n S B) (kd x : Int32) : Cp l G d m10_setOf [.ref 102, .int kd, .int x] (I, J, K) (.int (tinsB P S n kd x)) := by
  refine Cp.of ok10_setOf rfl (rfl : argL _ _ = [.ref 102, .int kd, .int x, .null, .null]) ?_
  refine e_iconst (v := nI 0) rfl ic_0N ?_
  refine e_ist3 rfl rfl rfl ?_
  refine e_iconst (v := nI 0) rfl ic_0N ?_
  refine e_ist4 rfl rfl rfl ?_
  exact msetOf_loop hM hP hn h8 hR n 0 (nI 0) (by omega) ⟨rfl, rfl⟩
theorem mfound_loop {a m o : Nat} {x : Int32} (ha : K.2.1 a = (20, m)) {c : Nat} (hm : o + c ≤ m) (hm2 : m ≤ 200) : ∀ k i, i + k = c → Q (some (.int (fnd (fun j => I a (o + j)) x k i))) (I, J, K) → Gw l G d m10_found 3 [.ref a, .int (nI o), .int (nI c), .int x, .int (nI i)] [] (I, J, K) Q := by
  intro k
  induction k with
  | zero =>
    intro i hi hq
    refine e_iload rfl rfl ?_
    refine e_iload_n rfl rfl ?_
    first | refine e_icmp_geN (tgt := 28) rfl rfl (by omega) (by omega) (fun z => ?_) (fun z => ?_) | refine e_icmp_ge (tgt := 28) rfl rfl (fun z => ?_) (fun z => ?_)
    · refine e_iconst rfl ic_m1 ?_
      refine e_ireturn rfl rfl ?_
      exact hq
    · omega
  | succ k ih =>
    intro i hi hq
    refine e_iload rfl rfl ?_
    refine e_iload_n rfl rfl ?_
    first | refine e_icmp_geN (tgt := 28) rfl rfl (by omega) (by omega) (fun z => ?_) (fun z => ?_) | refine e_icmp_ge (tgt := 28) rfl rfl (fun z => ?_) (fun z => ?_)
    · omega
    · rw [fnd] at hq
      refine e_aload_n rfl rfl ?_
      refine e_iload_n rfl rfl ?_
      refine e_iload rfl rfl ?_
      first | refine e_iaddN rfl ?_ | refine e_iadd rfl ?_
      first | refine e_ialoadN rfl (by assumption) (by omega) (by omega) ?_ | (refine e_iaload rfl (by assumption) ?_ ?_; rotate_left)
      refine e_iload_n rfl rfl ?_
      refine e_icmp_ne (tgt := 22) rfl rfl (fun z => ?_) (fun z => ?_)
      · rw [if_neg z] at hq
        first | refine e_inc4 rfl rfl rfl (incN1 _) ?_ | refine e_inc4 rfl rfl rfl rfl ?_
        refine e_goto (tgt := 3) rfl rfl ?_
        exact ih (i + 1) (by omega) hq
      · rw [if_pos z] at hq
        refine e_iload rfl rfl ?_
        refine e_ireturn rfl rfl ?_
        exact hq
theorem c10_found {a m o : Nat} (x : Int32) (ha : K.2.1 a = (20, m)) {c : Nat} (hm : o + c ≤ m) (hm2 : m ≤ 200) : Cp l G d m10_found [.ref a, .int (nI o), .int (nI c), .int x] (I, J, K) (.int (fnd (fun j => I a (o + j)) x c 0)) := by
  refine Cp.of ok10_found rfl (rfl : argL _ _ = [.ref a, .int (nI o), .int (nI c), .int x, .null]) ?_
  refine e_iconst (v := nI 0) rfl ic_0N ?_
  refine e_ist4 rfl rfl rfl ?_
  exact mfound_loop ha hm hm2 c 0 (by omega) ⟨rfl, rfl⟩
end MLeaf
