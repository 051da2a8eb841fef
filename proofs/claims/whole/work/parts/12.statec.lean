/-! ===== State: how the nation stands ===== -/
/-- how many of k from i on are so -/
def cF (f : Nat → Bool) : Nat → Nat → Nat
  | _, 0 => 0
  | i, k + 1 => (if f i = true then 1 else 0) + cF f (i + 1) k
def cnt (f : Nat → Bool) (n : Nat) : Nat := cF f 0 n
theorem cF_le (f : Nat → Bool) : ∀ k i, cF f i k ≤ k
  | 0, _ => Nat.le_refl 0
  | k + 1, i => by
    have := cF_le f k (i + 1)
    unfold cF
    split <;> omega
def isState (K : Kt) (s : Nat) : Prop := (K.2.1 s).1 = 6 ∧ K.1 s 0 = some (s + 1) ∧ K.1 s 1 = some (s + 2) ∧ K.1 s 2 = some (s + 3) ∧ K.1 s 3 = some (s + 4) ∧ K.1 s 4 = some (s + 5) ∧ K.1 s 5 = some (s + 6) ∧ K.1 s 6 = some (s + 7) ∧
  K.2.1 (s + 1) = (20, 8) ∧ K.2.1 (s + 2) = (20, 8) ∧ K.2.1 (s + 3) = (20, 8) ∧ K.2.1 (s + 4) = (20, 8) ∧ K.2.1 (s + 5) = (20, 8) ∧ K.2.1 (s + 6) = (20, 8) ∧ K.2.1 (s + 7) = (20, 8)
/-- t is one of n -/
def inN (n : Nat) (t : Int32) : Bool := decide (0 ≤ t ∧ t < nI n)
theorem inN_nI {n j : Nat} (hn : n < 2 ^ 31) (hj : j < 2 ^ 31) : inN n (nI j) = decide (j < n) := by
  unfold inN
  congr 1
  exact propext ⟨fun q => (nI_ltI hj hn).mp q.2, fun q => ⟨nI_pos' hj, (nI_ltI hj hn).mpr q⟩⟩
theorem inN_of {n : Nat} {t : Int32} (hn : n < 2 ^ 31) (h : inN n t = true) : ∃ j, j < n ∧ t = nI j := by
  obtain ⟨h1, h2⟩ := of_decide_eq_true h
  obtain ⟨j, hj, rfl⟩ := nI_of (Int32.not_lt.mpr h1)
  exact ⟨j, (nI_ltI hj hn).mp h2, rfl⟩
/-- u is CLOSED and lies above t in its STACK -/
def abv (I : IM) (s t u : Nat) : Bool := decide (I (s + 1) u = 0) && (decide (I (s + 3) u = I (s + 3) t) && decide (I (s + 4) t < I (s + 4) u))
section MState
variable {l : Launch} {G : GG} {d : Nat} {I : IM} {J : JM} {K : Kt} {Q : Option Value → Hp → Prop} {s n : Nat}
theorem c6_has (h6 : (K.2.1 s).1 = 6) (hn : I s 7 = nI n) (t : Int32) : Cp l G d m6_has [.ref s, .int t] (I, J, K) (.int (bI (inN n t))) := by
  refine Cp.of ok6_has rfl (rfl : argL _ _ = [.ref s, .int t]) ?_
  refine e_iload_n rfl rfl ?_
  first | refine e_if_ltN (tgt := 16) rfl rfl (by omega) ?_ | refine e_if_lt (tgt := 16) rfl rfl (fun z => ?_) (fun z => ?_)
  · refine e_iconst (v := nI 0) rfl ic_0N ?_
    refine e_zreturn rfl rfl ?_ ?_
    · exact Or.inl rfl
    · rw [inN, decide_eq_false (fun q => absurd z (Int32.not_lt.mpr q.1))]; exact ⟨rfl, rfl⟩
  · refine e_iload_n rfl rfl ?_
    refine e_aload_n rfl rfl ?_
    refine e_getI rfl f6_51 (by assumption) rfl ?_
    rw [hn]
    first | refine e_icmp_geN (tgt := 16) rfl rfl (by omega) (by omega) (fun z => ?_) (fun z => ?_) | refine e_icmp_ge (tgt := 16) rfl rfl (fun z => ?_) (fun z => ?_)
    · refine e_iconst (v := nI 0) rfl ic_0N ?_
      refine e_zreturn rfl rfl ?_ ?_
      · exact Or.inl rfl
      · rw [inN, decide_eq_false (fun q => absurd q.2 (Int32.not_lt.mpr (by assumption)))]; exact ⟨rfl, rfl⟩
    · refine e_iconst (v := nI 1) rfl ic_1N ?_
      refine e_goto (tgt := 17) rfl rfl ?_
      refine e_zreturn rfl rfl ?_ ?_
      · exact Or.inr rfl
      · rw [inN, decide_eq_true ⟨Int32.not_lt.mp (by assumption), Int32.not_le.mp (by assumption)⟩]; exact ⟨rfl, rfl⟩
theorem c6_isClosed (hS : isState K s) (hn : I s 7 = nI n) (h8 : n ≤ 8) (t : Int32) : Cp l G (d + 1) m6_isClosed [.ref s, .int t] (I, J, K) (.int (bI (inN n t && decide (I (s + 1) t.toNatClampNeg = 0)))) := by
  obtain ⟨h6, p0, p1, p2, p3, p4, p5, p6, a1, a2, a3, a4, a5, a6, a7⟩ := hS
  refine Cp.of ok6_isClosed rfl (rfl : argL _ _ = [.ref s, .int t]) ?_
  refine e_aload_n rfl rfl ?_
  refine e_iload_n rfl rfl ?_
  refine e_callVp (kd := 6) (M2 := m6_has) rfl v6_88 ok6_has (c6_has h6 hn t) rfl (by assumption) rfl rfl rfl rfl ?_
  first | refine e_if_eqB (tgt := 21) rfl rfl (fun z => ?_) (fun z => ?_) | refine e_if_eqN (tgt := 21) rfl rfl (by omega) (fun z => ?_) (fun z => ?_) | refine e_if_eq (tgt := 21) rfl rfl (fun z => ?_) (fun z => ?_)
  · refine e_iconst (v := nI 0) rfl ic_0N ?_
    refine e_zreturn rfl rfl ?_ ?_
    · exact Or.inl rfl
    · rw [z]; exact ⟨rfl, rfl⟩
  · obtain ⟨j, hj, rfl⟩ := inN_of (by omega) z
    rw [nI_clamp (by omega), z]
    refine e_aload_n rfl rfl ?_
    refine e_getP rfl f6_9 (by assumption) rfl (by assumption) ?_
    refine e_iload_n rfl rfl ?_
    first | refine e_ialoadN rfl (by assumption) (by omega) (by omega) ?_ | (refine e_iaload rfl (by assumption) ?_ ?_; rotate_left)
    first | refine e_if_neB (tgt := 21) rfl rfl (fun z => ?_) (fun z => ?_) | refine e_if_neN (tgt := 21) rfl rfl (by omega) (fun z => ?_) (fun z => ?_) | refine e_if_ne (tgt := 21) rfl rfl (fun z => ?_) (fun z => ?_)
    · refine e_iconst (v := nI 0) rfl ic_0N ?_
      refine e_zreturn rfl rfl ?_ ?_
      · exact Or.inl rfl
      · rw [decide_eq_false (by assumption)]; exact ⟨rfl, rfl⟩
    · refine e_iconst (v := nI 1) rfl ic_1N ?_
      refine e_goto (tgt := 22) rfl rfl ?_
      refine e_zreturn rfl rfl ?_ ?_
      · exact Or.inr rfl
      · rw [decide_eq_true (by assumption)]; exact ⟨rfl, rfl⟩
theorem closedAbove_loop (hS : isState K s) (hn : I s 7 = nI n) (h8 : n ≤ 8) {t : Nat} (ht : t < n) : ∀ k i many, i + k = n → many ≤ i → Q (some (.int (nI (many + cF (abv I s t) i k)))) (I, J, K) → Gw l G d m6_closedAbove 14 [.ref s, .int (nI t), .int (nI many), .int (nI i)] [] (I, J, K) Q := by
  obtain ⟨h6, p0, p1, p2, p3, p4, p5, p6, a1, a2, a3, a4, a5, a6, a7⟩ := hS
  intro k
  induction k with
  | zero =>
    intro i many hi hm hq
    refine e_iload_n rfl rfl ?_
    refine e_aload_n rfl rfl ?_
    refine e_getI rfl f6_51 (by assumption) rfl ?_
    rw [hn]
    first | refine e_icmp_geN (tgt := 70) rfl rfl (by omega) (by omega) (fun z => ?_) (fun z => ?_) | refine e_icmp_ge (tgt := 70) rfl rfl (fun z => ?_) (fun z => ?_)
    · refine e_iload_n rfl rfl ?_
      refine e_ireturn rfl rfl ?_
      exact hq
    · omega
  | succ k ih =>
    intro i many hi hm hq
    refine e_iload_n rfl rfl ?_
    refine e_aload_n rfl rfl ?_
    refine e_getI rfl f6_51 (by assumption) rfl ?_
    rw [hn]
    first | refine e_icmp_geN (tgt := 70) rfl rfl (by omega) (by omega) (fun z => ?_) (fun z => ?_) | refine e_icmp_ge (tgt := 70) rfl rfl (fun z => ?_) (fun z => ?_)
    · omega
    · refine e_aload_n rfl rfl ?_
      refine e_getP rfl f6_9 (by assumption) rfl (by assumption) ?_
      refine e_iload_n rfl rfl ?_
      first | refine e_ialoadN rfl (by assumption) (by omega) (by omega) ?_ | (refine e_iaload rfl (by assumption) ?_ ?_; rotate_left)
      first | refine e_if_neB (tgt := 64) rfl rfl (fun z => ?_) (fun z => ?_) | refine e_if_neN (tgt := 64) rfl rfl (by omega) (fun z => ?_) (fun z => ?_) | refine e_if_ne (tgt := 64) rfl rfl (fun z => ?_) (fun z => ?_)
      · first | refine e_inc3 rfl rfl rfl (incN1 _) ?_ | refine e_inc3 rfl rfl rfl rfl ?_
        refine e_goto (tgt := 14) rfl rfl ?_
        refine ih (i + 1) many (by omega) (by omega) ?_
        rw [cF, abv, decide_eq_false (by assumption)] at hq
        simpa using hq
      · refine e_aload_n rfl rfl ?_
        refine e_getP rfl f6_18 (by assumption) rfl (by assumption) ?_
        refine e_iload_n rfl rfl ?_
        first | refine e_ialoadN rfl (by assumption) (by omega) (by omega) ?_ | (refine e_iaload rfl (by assumption) ?_ ?_; rotate_left)
        refine e_aload_n rfl rfl ?_
        refine e_getP rfl f6_18 (by assumption) rfl (by assumption) ?_
        refine e_iload_n rfl rfl ?_
        first | refine e_ialoadN rfl (by assumption) (by omega) (by omega) ?_ | (refine e_iaload rfl (by assumption) ?_ ?_; rotate_left)
        first | refine e_icmp_neN (tgt := 64) rfl rfl (by omega) (by omega) (fun z => ?_) (fun z => ?_) | refine e_icmp_ne (tgt := 64) rfl rfl (fun z => ?_) (fun z => ?_)
        · first | refine e_inc3 rfl rfl rfl (incN1 _) ?_ | refine e_inc3 rfl rfl rfl rfl ?_
          refine e_goto (tgt := 14) rfl rfl ?_
          refine ih (i + 1) many (by omega) (by omega) ?_
          rw [cF, abv, decide_eq_false (p := I (s + 3) i = _) (by assumption)] at hq
          simpa using hq
        · refine e_aload_n rfl rfl ?_
          refine e_getP rfl f6_21 (by assumption) rfl (by assumption) ?_
          refine e_iload_n rfl rfl ?_
          first | refine e_ialoadN rfl (by assumption) (by omega) (by omega) ?_ | (refine e_iaload rfl (by assumption) ?_ ?_; rotate_left)
          refine e_aload_n rfl rfl ?_
          refine e_getP rfl f6_21 (by assumption) rfl (by assumption) ?_
          refine e_iload_n rfl rfl ?_
          first | refine e_ialoadN rfl (by assumption) (by omega) (by omega) ?_ | (refine e_iaload rfl (by assumption) ?_ ?_; rotate_left)
          first | refine e_icmp_leN (tgt := 64) rfl rfl (by omega) (by omega) (fun z => ?_) (fun z => ?_) | refine e_icmp_le (tgt := 64) rfl rfl (fun z => ?_) (fun z => ?_)
          · first | refine e_inc3 rfl rfl rfl (incN1 _) ?_ | refine e_inc3 rfl rfl rfl rfl ?_
            refine e_goto (tgt := 14) rfl rfl ?_
            refine ih (i + 1) many (by omega) (by omega) ?_
            rw [cF, abv, decide_eq_false (p := I (s + 4) t < _) (Int32.not_lt.mpr (by assumption))] at hq
            simpa using hq
          · first | refine e_inc2 rfl rfl rfl (incN1 _) ?_ | refine e_inc2 rfl rfl rfl rfl ?_
            first | refine e_inc3 rfl rfl rfl (incN1 _) ?_ | refine e_inc3 rfl rfl rfl rfl ?_
            refine e_goto (tgt := 14) rfl rfl ?_
            refine ih (i + 1) (many + 1) (by omega) (by omega) ?_
            rw [cF, abv, decide_eq_true (p := I (s + 1) i = 0) (by assumption), decide_eq_true (p := I (s + 3) i = _) (by assumption), decide_eq_true (p := I (s + 4) t < _) (Int32.not_le.mp (by assumption))] at hq
            simpa [Nat.add_assoc] using hq
theorem c6_closedAbove (hS : isState K s) (hn : I s 7 = nI n) (h8 : n ≤ 8) {t : Nat} (ht : t < n) : Cp l G (d + 1) m6_closedAbove [.ref s, .int (nI t)] (I, J, K) (.int (nI (cnt (abv I s t) n))) := by
  have h6 := hS.1
  refine Cp.of ok6_closedAbove rfl (rfl : argL _ _ = [.ref s, .int (nI t), .null, .null]) ?_
  refine e_aload_n rfl rfl ?_
  refine e_iload_n rfl rfl ?_
  refine e_callVp (kd := 6) (M2 := m6_has) rfl v6_88 ok6_has (c6_has h6 hn (nI t)) rfl (by assumption) rfl rfl rfl rfl ?_
  first | refine e_if_neB (tgt := 10) rfl rfl (fun z => ?_) (fun z => ?_) | refine e_if_neN (tgt := 10) rfl rfl (by omega) (fun z => ?_) (fun z => ?_) | refine e_if_ne (tgt := 10) rfl rfl (fun z => ?_) (fun z => ?_)
  · refine e_iconst (v := nI 0) rfl ic_0N ?_
    refine e_ist2 rfl rfl rfl ?_
    refine e_iconst (v := nI 0) rfl ic_0N ?_
    refine e_ist3 rfl rfl rfl ?_
    exact closedAbove_loop hS hn h8 ht n 0 0 (by omega) (by omega) ⟨by rw [Nat.zero_add]; rfl, rfl⟩
  · rw [inN_nI (by omega) (by omega), decide_eq_true ht] at z
    cases z
theorem c6_isOnTop (hS : isState K s) (hn : I s 7 = nI n) (h8 : n ≤ 8) (t : Int32) : Cp l G (d + 2) m6_isOnTop [.ref s, .int t] (I, J, K) (.int (bI (inN n t && (decide (I (s + 1) t.toNatClampNeg = 0) && decide (cnt (abv I s t.toNatClampNeg) n = 0))))) := by
  have h6 := hS.1
  refine Cp.of ok6_isOnTop rfl (rfl : argL _ _ = [.ref s, .int t]) ?_
  refine e_aload_n rfl rfl ?_
  refine e_iload_n rfl rfl ?_
  refine e_callVp (kd := 6) (M2 := m6_isClosed) rfl v6_92 ok6_isClosed (c6_isClosed hS hn h8 t) rfl (by assumption) rfl rfl rfl rfl ?_
  first | refine e_if_eqB (tgt := 20) rfl rfl (fun z => ?_) (fun z => ?_) | refine e_if_eqN (tgt := 20) rfl rfl (by omega) (fun z => ?_) (fun z => ?_) | refine e_if_eq (tgt := 20) rfl rfl (fun z => ?_) (fun z => ?_)
  · refine e_iconst (v := nI 0) rfl ic_0N ?_
    refine e_zreturn rfl rfl ?_ ?_
    · exact Or.inl rfl
    · rw [← Bool.and_assoc, z]; exact ⟨rfl, rfl⟩
  · rw [← Bool.and_assoc, z]
    obtain ⟨j, hj, rfl⟩ := inN_of (by omega) ((Bool.and_eq_true _ _).mp z).1
    rw [nI_clamp (by omega)]
    have hc : cnt (abv I s j) n ≤ n := cF_le _ _ _
    refine e_aload_n rfl rfl ?_
    refine e_iload_n rfl rfl ?_
    refine e_callVp (kd := 6) (M2 := m6_closedAbove) rfl v6_95 ok6_closedAbove (c6_closedAbove hS hn h8 hj) rfl (by assumption) rfl rfl rfl rfl ?_
    first | refine e_if_neB (tgt := 20) rfl rfl (fun z => ?_) (fun z => ?_) | refine e_if_neN (tgt := 20) rfl rfl (by omega) (fun z => ?_) (fun z => ?_) | refine e_if_ne (tgt := 20) rfl rfl (fun z => ?_) (fun z => ?_)
    · have z2 : cnt (abv I s j) n ≠ 0 := by assumption
      refine e_iconst (v := nI 0) rfl ic_0N ?_
      refine e_zreturn rfl rfl ?_ ?_
      · exact Or.inl rfl
      · rw [decide_eq_false z2]; exact ⟨rfl, rfl⟩
    · have z2 : cnt (abv I s j) n = 0 := by assumption
      refine e_iconst (v := nI 1) rfl ic_1N ?_
      refine e_goto (tgt := 21) rfl rfl ?_
      refine e_zreturn rfl rfl ?_ ?_
      · exact Or.inr rfl
      · rw [decide_eq_true z2]; exact ⟨rfl, rfl⟩
/-- one more than the highest of a STACK -/
def hvF (I : IM) (s : Nat) (x : Int32) : Nat → Nat → Int32 → Int32
  | _, 0, v => v
  | i, k + 1, v => hvF I s x (i + 1) k (if I (s + 3) i = x then (if v < I (s + 4) i + nI 1 then I (s + 4) i + nI 1 else v) else v)
theorem heightOver_loop (hS : isState K s) (hn : I s 7 = nI n) (h8 : n ≤ 8) (x : Int32) : ∀ k i v, i + k = n → Q (some (.int (hvF I s x i k v))) (I, J, K) → Gw l G (d + 1) m6_heightOver 4 [.ref s, .int x, .int v, .int (nI i)] [] (I, J, K) Q := by
  obtain ⟨h6, p0, p1, p2, p3, p4, p5, p6, a1, a2, a3, a4, a5, a6, a7⟩ := hS
  intro k
  induction k with
  | zero =>
    intro i v hi hq
    refine e_iload_n rfl rfl ?_
    refine e_aload_n rfl rfl ?_
    refine e_getI rfl f6_51 (by assumption) rfl ?_
    rw [hn]
    first | refine e_icmp_geN (tgt := 41) rfl rfl (by omega) (by omega) (fun z => ?_) (fun z => ?_) | refine e_icmp_ge (tgt := 41) rfl rfl (fun z => ?_) (fun z => ?_)
    · refine e_iload_n rfl rfl ?_
      refine e_ireturn rfl rfl ?_
      exact hq
    · omega
  | succ k ih =>
    intro i v hi hq
    refine e_iload_n rfl rfl ?_
    refine e_aload_n rfl rfl ?_
    refine e_getI rfl f6_51 (by assumption) rfl ?_
    rw [hn]
    first | refine e_icmp_geN (tgt := 41) rfl rfl (by omega) (by omega) (fun z => ?_) (fun z => ?_) | refine e_icmp_ge (tgt := 41) rfl rfl (fun z => ?_) (fun z => ?_)
    · omega
    · refine e_aload_n rfl rfl ?_
      refine e_getP rfl f6_18 (by assumption) rfl (by assumption) ?_
      refine e_iload_n rfl rfl ?_
      first | refine e_ialoadN rfl (by assumption) (by omega) (by omega) ?_ | (refine e_iaload rfl (by assumption) ?_ ?_; rotate_left)
      refine e_iload_n rfl rfl ?_
      first | refine e_icmp_neN (tgt := 35) rfl rfl (by omega) (by omega) (fun z => ?_) (fun z => ?_) | refine e_icmp_ne (tgt := 35) rfl rfl (fun z => ?_) (fun z => ?_)
      · first | refine e_inc3 rfl rfl rfl (incN1 _) ?_ | refine e_inc3 rfl rfl rfl rfl ?_
        refine e_goto (tgt := 4) rfl rfl ?_
        refine ih (i + 1) _ (by omega) ?_
        rw [hvF, if_neg (by assumption)] at hq
        exact hq
      · refine e_iload_n rfl rfl ?_
        refine e_aload_n rfl rfl ?_
        refine e_getP rfl f6_21 (by assumption) rfl (by assumption) ?_
        refine e_iload_n rfl rfl ?_
        first | refine e_ialoadN rfl (by assumption) (by omega) (by omega) ?_ | (refine e_iaload rfl (by assumption) ?_ ?_; rotate_left)
        refine e_iconst (v := nI 1) rfl ic_1N ?_
        first | refine e_iaddN rfl ?_ | refine e_iadd rfl ?_
        refine e_max rfl v6_99 rfl ?_
        refine e_ist2 rfl rfl rfl ?_
        first | refine e_inc3 rfl rfl rfl (incN1 _) ?_ | refine e_inc3 rfl rfl rfl rfl ?_
        refine e_goto (tgt := 4) rfl rfl ?_
        refine ih (i + 1) _ (by omega) ?_
        rw [hvF, if_pos (by assumption)] at hq
        exact hq
theorem c6_heightOver (hS : isState K s) (hn : I s 7 = nI n) (h8 : n ≤ 8) (x : Int32) : Cp l G (d + 1) m6_heightOver [.ref s, .int x] (I, J, K) (.int (hvF I s x 0 n (nI 0))) := by
  refine Cp.of ok6_heightOver rfl (rfl : argL _ _ = [.ref s, .int x, .null, .null]) ?_
  refine e_iconst (v := nI 0) rfl ic_0N ?_
  refine e_ist2 rfl rfl rfl ?_
  refine e_iconst (v := nI 0) rfl ic_0N ?_
  refine e_ist3 rfl rfl rfl ?_
  exact heightOver_loop hS hn h8 x n 0 _ (by omega) ⟨rfl, rfl⟩
theorem howMany_loop (hS : isState K s) (hn : I s 7 = nI n) (h8 : n ≤ 8) (x : Int32) : ∀ k i many, i + k = n → many ≤ i → Q (some (.int (nI (many + cF (fun u => decide (I (s + 1) u = x)) i k)))) (I, J, K) → Gw l G d m6_howMany 4 [.ref s, .int x, .int (nI many), .int (nI i)] [] (I, J, K) Q := by
  obtain ⟨h6, p0, p1, p2, p3, p4, p5, p6, a1, a2, a3, a4, a5, a6, a7⟩ := hS
  intro k
  induction k with
  | zero =>
    intro i many hi hm hq
    refine e_iload_n rfl rfl ?_
    refine e_aload_n rfl rfl ?_
    refine e_getI rfl f6_51 (by assumption) rfl ?_
    rw [hn]
    first | refine e_icmp_geN (tgt := 31) rfl rfl (by omega) (by omega) (fun z => ?_) (fun z => ?_) | refine e_icmp_ge (tgt := 31) rfl rfl (fun z => ?_) (fun z => ?_)
    · refine e_iload_n rfl rfl ?_
      refine e_ireturn rfl rfl ?_
      exact hq
    · omega
  | succ k ih =>
    intro i many hi hm hq
    refine e_iload_n rfl rfl ?_
    refine e_aload_n rfl rfl ?_
    refine e_getI rfl f6_51 (by assumption) rfl ?_
    rw [hn]
    first | refine e_icmp_geN (tgt := 31) rfl rfl (by omega) (by omega) (fun z => ?_) (fun z => ?_) | refine e_icmp_ge (tgt := 31) rfl rfl (fun z => ?_) (fun z => ?_)
    · omega
    · refine e_aload_n rfl rfl ?_
      refine e_getP rfl f6_9 (by assumption) rfl (by assumption) ?_
      refine e_iload_n rfl rfl ?_
      first | refine e_ialoadN rfl (by assumption) (by omega) (by omega) ?_ | (refine e_iaload rfl (by assumption) ?_ ?_; rotate_left)
      refine e_iload_n rfl rfl ?_
      first | refine e_icmp_neN (tgt := 25) rfl rfl (by omega) (by omega) (fun z => ?_) (fun z => ?_) | refine e_icmp_ne (tgt := 25) rfl rfl (fun z => ?_) (fun z => ?_)
      · first | refine e_inc3 rfl rfl rfl (incN1 _) ?_ | refine e_inc3 rfl rfl rfl rfl ?_
        refine e_goto (tgt := 4) rfl rfl ?_
        refine ih (i + 1) many (by omega) (by omega) ?_
        rw [cF, decide_eq_false (by assumption)] at hq
        simpa using hq
      · first | refine e_inc2 rfl rfl rfl (incN1 _) ?_ | refine e_inc2 rfl rfl rfl rfl ?_
        first | refine e_inc3 rfl rfl rfl (incN1 _) ?_ | refine e_inc3 rfl rfl rfl rfl ?_
        refine e_goto (tgt := 4) rfl rfl ?_
        refine ih (i + 1) (many + 1) (by omega) (by omega) ?_
        rw [cF, decide_eq_true (by assumption)] at hq
        simpa [Nat.add_assoc] using hq
theorem c6_howMany (hS : isState K s) (hn : I s 7 = nI n) (h8 : n ≤ 8) (x : Int32) : Cp l G d m6_howMany [.ref s, .int x] (I, J, K) (.int (nI (cnt (fun u => decide (I (s + 1) u = x)) n))) := by
  refine Cp.of ok6_howMany rfl (rfl : argL _ _ = [.ref s, .int x, .null, .null]) ?_
  refine e_iconst (v := nI 0) rfl ic_0N ?_
  refine e_ist2 rfl rfl rfl ?_
  refine e_iconst (v := nI 0) rfl ic_0N ?_
  refine e_ist3 rfl rfl rfl ?_
  exact howMany_loop hS hn h8 x n 0 0 (by omega) (by omega) ⟨by rw [Nat.zero_add]; rfl, rfl⟩
/-- the next of the numbers -/
def nxt (x : Int64) : Int64 := (x * 1103515245 + 12345) &&& 2147483647
theorem c6_drawn (h6 : (K.2.1 s).1 = 6) : Cw l G d m6_drawn [.ref s] (I, J, K) (fun r h' => r = some (.int (nxt (J s 14) / 65536).toInt32) ∧ h' = (I, u2 J s 14 (nxt (J s 14)), K)) := by
  refine Cw.of ok6_drawn rfl (rfl : argL _ _ = [.ref s]) ?_
  refine e_aload_n rfl rfl ?_
  refine e_aload_n rfl rfl ?_
  refine e_getJ rfl f6_78 (by assumption) rfl ?_
  refine e_ldc2 rfl k6_102 ?_
  refine e_lmul rfl ?_
  refine e_ldc2 rfl k6_104 ?_
  refine e_ladd rfl ?_
  refine e_ldc2 rfl k6_106 ?_
  refine e_land rfl ?_
  refine e_putJ rfl f6_78 (by assumption) rfl rfl ?_
  refine e_aload_n rfl rfl ?_
  refine e_getJ rfl f6_78 (by assumption) rfl ?_
  refine e_ldc2 rfl k6_108 ?_
  refine e_ldiv rfl (by first | assumption | decide) ?_
  refine e_l2i rfl ?_
  refine e_ireturn rfl rfl ?_
  rw [u2_at]
  exact ⟨rfl, rfl⟩
/-- what take leaves behind -/
def tookS (I : IM) (J : JM) (s o : Nat) (I' : IM) (J' : JM) : Prop := (∀ a, (a < s ∨ s + 7 < a) → I' a = I a) ∧ (∀ k, 1 ≤ k → k ≤ 7 → ∀ i, i < 8 → I' (s + k) i = I (o + k) i) ∧ (∀ k, 7 ≤ k → k ≤ 13 → I' s k = I o k) ∧ J' s 14 = J o 14 ∧ ∀ a, a ≠ s → J' a = J a
theorem cpy8 {f g : Nat → Int32} {i : Nat} (h : i < 8) : va_cpy f g (nI 0).toNatClampNeg (nI 0).toNatClampNeg (nI 8).toNatClampNeg i = f i := by
  rw [nI_clamp (by omega), nI_clamp (by omega), pk_cpy_in (by omega) (by omega)]
  simp
theorem c6_take {o : Nat} (hS : isState K s) (hO : isState K o) (hd : s + 8 ≤ o ∨ o + 8 ≤ s) : Cw l G (d + 1) m6_take [.ref s, .ref o] (I, J, K) (fun r h' => r = none ∧ ∃ I' J', h' = (I', J', K) ∧ tookS I J s o I' J') := by
  obtain ⟨h6, p0, p1, p2, p3, p4, p5, p6, a1, a2, a3, a4, a5, a6, a7⟩ := hS
  obtain ⟨h6o, p0o, p1o, p2o, p3o, p4o, p5o, p6o, a1o, a2o, a3o, a4o, a5o, a6o, a7o⟩ := hO
  have cl0 : (nI 0).toNatClampNeg = 0 := nI_clamp (by omega)
  have cl8 : (nI 8).toNatClampNeg = 8 := nI_clamp (by omega)
  have hb : (nI 0).toNatClampNeg + (nI 8).toNatClampNeg ≤ 8 := by rw [cl0, cl8]; omega
  refine Cw.of ok6_take rfl (rfl : argL _ _ = [.ref s, .ref o]) ?_
  refine e_aload_n rfl rfl ?_
  refine e_getP rfl f6_9 (by assumption) rfl (by assumption) ?_
  refine e_iconst (v := nI 0) rfl ic_0N ?_
  refine e_aload_n rfl rfl ?_
  refine e_getP rfl f6_9 (by assumption) rfl (by assumption) ?_
  refine e_iconst (v := nI 0) rfl ic_0N ?_
  refine e_bipush (v := nI 8) rfl bp_8N ?_
  refine e_copy rfl v6_82 (by assumption) (by assumption) (nI_pos (by omega)) (nI_pos (by omega)) (nI_pos (by omega)) hb hb rfl ?_
  refine e_aload_n rfl rfl ?_
  refine e_getP rfl f6_15 (by assumption) rfl (by assumption) ?_
  refine e_iconst (v := nI 0) rfl ic_0N ?_
  refine e_aload_n rfl rfl ?_
  refine e_getP rfl f6_15 (by assumption) rfl (by assumption) ?_
  refine e_iconst (v := nI 0) rfl ic_0N ?_
  refine e_bipush (v := nI 8) rfl bp_8N ?_
  refine e_copy rfl v6_82 (by assumption) (by assumption) (nI_pos (by omega)) (nI_pos (by omega)) (nI_pos (by omega)) hb hb rfl ?_
  refine e_aload_n rfl rfl ?_
  refine e_getP rfl f6_18 (by assumption) rfl (by assumption) ?_
  refine e_iconst (v := nI 0) rfl ic_0N ?_
  refine e_aload_n rfl rfl ?_
  refine e_getP rfl f6_18 (by assumption) rfl (by assumption) ?_
  refine e_iconst (v := nI 0) rfl ic_0N ?_
  refine e_bipush (v := nI 8) rfl bp_8N ?_
  refine e_copy rfl v6_82 (by assumption) (by assumption) (nI_pos (by omega)) (nI_pos (by omega)) (nI_pos (by omega)) hb hb rfl ?_
  refine e_aload_n rfl rfl ?_
  refine e_getP rfl f6_21 (by assumption) rfl (by assumption) ?_
  refine e_iconst (v := nI 0) rfl ic_0N ?_
  refine e_aload_n rfl rfl ?_
  refine e_getP rfl f6_21 (by assumption) rfl (by assumption) ?_
  refine e_iconst (v := nI 0) rfl ic_0N ?_
  refine e_bipush (v := nI 8) rfl bp_8N ?_
  refine e_copy rfl v6_82 (by assumption) (by assumption) (nI_pos (by omega)) (nI_pos (by omega)) (nI_pos (by omega)) hb hb rfl ?_
  refine e_aload_n rfl rfl ?_
  refine e_getP rfl f6_24 (by assumption) rfl (by assumption) ?_
  refine e_iconst (v := nI 0) rfl ic_0N ?_
  refine e_aload_n rfl rfl ?_
  refine e_getP rfl f6_24 (by assumption) rfl (by assumption) ?_
  refine e_iconst (v := nI 0) rfl ic_0N ?_
  refine e_bipush (v := nI 8) rfl bp_8N ?_
  refine e_copy rfl v6_82 (by assumption) (by assumption) (nI_pos (by omega)) (nI_pos (by omega)) (nI_pos (by omega)) hb hb rfl ?_
  refine e_aload_n rfl rfl ?_
  refine e_getP rfl f6_27 (by assumption) rfl (by assumption) ?_
  refine e_iconst (v := nI 0) rfl ic_0N ?_
  refine e_aload_n rfl rfl ?_
  refine e_getP rfl f6_27 (by assumption) rfl (by assumption) ?_
  refine e_iconst (v := nI 0) rfl ic_0N ?_
  refine e_bipush (v := nI 8) rfl bp_8N ?_
  refine e_copy rfl v6_82 (by assumption) (by assumption) (nI_pos (by omega)) (nI_pos (by omega)) (nI_pos (by omega)) hb hb rfl ?_
  refine e_aload_n rfl rfl ?_
  refine e_getP rfl f6_30 (by assumption) rfl (by assumption) ?_
  refine e_iconst (v := nI 0) rfl ic_0N ?_
  refine e_aload_n rfl rfl ?_
  refine e_getP rfl f6_30 (by assumption) rfl (by assumption) ?_
  refine e_iconst (v := nI 0) rfl ic_0N ?_
  refine e_bipush (v := nI 8) rfl bp_8N ?_
  refine e_copy rfl v6_82 (by assumption) (by assumption) (nI_pos (by omega)) (nI_pos (by omega)) (nI_pos (by omega)) hb hb rfl ?_
  refine e_aload_n rfl rfl ?_
  refine e_aload_n rfl rfl ?_
  refine e_getI rfl f6_51 (by assumption) rfl ?_
  refine e_putI rfl f6_51 (by assumption) rfl rfl ?_
  refine e_aload_n rfl rfl ?_
  refine e_aload_n rfl rfl ?_
  refine e_getI rfl f6_56 (by assumption) rfl ?_
  refine e_putI rfl f6_56 (by assumption) rfl rfl ?_
  refine e_aload_n rfl rfl ?_
  refine e_aload_n rfl rfl ?_
  refine e_getI rfl f6_62 (by assumption) rfl ?_
  refine e_putI rfl f6_62 (by assumption) rfl rfl ?_
  refine e_aload_n rfl rfl ?_
  refine e_aload_n rfl rfl ?_
  refine e_getI rfl f6_63 (by assumption) rfl ?_
  refine e_putI rfl f6_63 (by assumption) rfl rfl ?_
  refine e_aload_n rfl rfl ?_
  refine e_aload_n rfl rfl ?_
  refine e_getI rfl f6_66 (by assumption) rfl ?_
  refine e_putI rfl f6_66 (by assumption) rfl rfl ?_
  refine e_aload_n rfl rfl ?_
  refine e_aload_n rfl rfl ?_
  refine e_getI rfl f6_69 (by assumption) rfl ?_
  refine e_putI rfl f6_69 (by assumption) rfl rfl ?_
  refine e_aload_n rfl rfl ?_
  refine e_aload_n rfl rfl ?_
  refine e_getI rfl f6_72 (by assumption) rfl ?_
  refine e_putI rfl f6_72 (by assumption) rfl rfl ?_
  refine e_aload_n rfl rfl ?_
  refine e_aload_n rfl rfl ?_
  refine e_getJ rfl f6_78 (by assumption) rfl ?_
  refine e_putJ rfl f6_78 (by assumption) rfl rfl ?_
  refine e_return rfl rfl ?_
  refine ⟨rfl, _, _, rfl, ?_, ?_, ?_, ?_, ?_⟩
  · intro a ha
    funext k
    simp (disch := omega) only [u2_ne, uR_ne]
  · intro k h1 h7 i hi
    rcases (show k = 1 ∨ k = 2 ∨ k = 3 ∨ k = 4 ∨ k = 5 ∨ k = 6 ∨ k = 7 by omega) with rfl | rfl | rfl | rfl | rfl | rfl | rfl <;> simp (disch := omega) only [u2_ne, uR_ne, uR_at, cpy8]
  · intro k h1 h7
    rcases (show k = 7 ∨ k = 8 ∨ k = 9 ∨ k = 10 ∨ k = 11 ∨ k = 12 ∨ k = 13 by omega) with rfl | rfl | rfl | rfl | rfl | rfl | rfl <;> simp (disch := omega) only [u2_at, u2_nk, u2_ne, uR_ne, uR_at]
  · exact u2_at _ _ _ _
  · intro a ha
    funext k
    exact u2_ne _ _ ha
end MState
