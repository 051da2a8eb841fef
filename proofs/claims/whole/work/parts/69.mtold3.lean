/-! ===== the reference: ask, dented ===== -/
theorem beg_W1 {P : Pl} (hX : WFk P) {n t q : Nat} (hn : P.1 1 = n) (hq : q ≤ 10) : W1 n (u2 (beg P) 1 t (nI q)) := by
  subst hn
  refine ⟨fun t' ht' => ?_, ?_⟩
  · obtain ⟨-, ⟨j, j1, j2⟩, -⟩ := hX.2.2.1 t' ht'
    have e0 : u2 (beg P) 1 t (nI q) 0 t' = nI 0 := by rw [u2_ne _ _ (by omega)]; rfl
    have e4 : u2 (beg P) 1 t (nI q) 4 t' = nI 0 := by rw [u2_ne _ _ (by omega)]; rfl
    by_cases c : t' = t
    · subst c
      exact ⟨0, q, 0, by omega, hq, by omega, e0, u2_at _ _ _ _, e4, fun _ => rfl, fun z => absurd z (by omega)⟩
    · exact ⟨0, j, 0, by omega, by omega, by omega, e0, by rw [u2_nk _ _ c]; exact j2, e4, fun _ => rfl, fun z => absurd z (by omega)⟩
  · obtain ⟨j, j1, j2⟩ := hX.2.2.2.2.2.1
    exact ⟨j, by omega, by rw [u2_ne _ _ (by omega)]; exact j2⟩
theorem wrs_6 {P : Pl} {g : Nat → Bool} {w : Nat} (h6 : P.1 0 ≤ 6) : hvy P g w ≤ cnt g (P.1 0) ∧ cnt g (P.1 0) ≤ 6 ∧ wrs P g w ≤ 6 := by
  have hle : hvy P g w ≤ cnt g (P.1 0) := cF_mono (fun i h => by rw [Bool.and_eq_true] at h; exact h.1) _ _
  have hc6 : cnt g (P.1 0) ≤ P.1 0 := cF_le _ _ _
  refine ⟨hle, by omega, ?_⟩
  unfold wrs
  split <;> omega
theorem cF_nil {h : Nat → Bool} {n : Nat} (h0 : ∀ j, n ≤ j → h j = false) : ∀ k i, n ≤ i → cF h i k = 0
  | 0, _, _ => rfl
  | k + 1, i, hi => by rw [cF, h0 i hi, if_neg (by decide), cF_nil h0 k (i + 1) (by omega)]
theorem cF_cut {h g : Nat → Bool} {n : Nat} (h0 : ∀ j, n ≤ j → h j = false) (h1 : ∀ j, j < n → h j = g j) : ∀ k i, i ≤ n → n ≤ i + k → cF h i k = cF g i (n - i)
  | 0, i, a, b => by rw [show n - i = 0 by omega]; rfl
  | k + 1, i, a, b => by
    by_cases c : i = n
    · subst c
      rw [Nat.sub_self, cF_nil h0 _ _ (Nat.le_refl _)]; rfl
    · rw [show n - i = (n - (i + 1)) + 1 by omega, cF, cF, h1 i (by omega), cF_cut h0 h1 k (i + 1) (by omega) (by omega)]
theorem bits_cnt {g : Nat → Bool} {n : Nat} (hn : n ≤ 8) : cF (fun j => decide (j < 8) && bitOf (bitF g 0 n (nI 0)) (nI j)) 0 8 = cnt g n := by
  unfold cnt
  have e : ∀ j, j < 8 → bitOf (bitF g 0 n (nI 0)) (nI j) = (decide (j < n) && g j) := fun j hj => by
    rw [bitF_bit n 0 _ j (by omega) (by omega), bit_0 (by omega), Bool.false_or]
    congr 1
    exact decide_eq_decide.mpr (by omega)
  exact cF_cut (fun j hj => by
    by_cases c : j < 8
    · rw [decide_eq_true c, Bool.true_and, e j c, decide_eq_false (by omega)]; rfl
    · rw [decide_eq_false c]; rfl) (fun j hj => by
    rw [decide_eq_true (by omega : j < 8), Bool.true_and, e j (by omega), decide_eq_true hj]; rfl) 8 0 (by omega) (by omega)
theorem bit_n (b : Int32) (t : Nat) : (b >>> (nI t &&& 31)) &&& nI 1 = nI (if bitOf b (nI t) = true then 1 else 0) := by
  by_cases c : bitOf b (nI t) = true
  · rw [if_pos c]; exact (bit_1 b t).mpr c
  · rw [if_neg c]
    exact Decidable.byContradiction (fun q => c (decide_eq_true q))
section MTold4
variable {l : Launch} {G : GG} {d : Nat} {I : IM} {J : JM} {K : Kt} {Q : Option Value → Hp → Prop} {P : Pl} {S : SM} {im : Bool} {SI : SM} {m : Nat} {T : SM} {kn : Int32} {u : Nat} {Hs : Nat → SM} {B n : Nat}
theorem bitsOf_loop {b : Int32} : ∀ k i v, i + k = 8 → v ≤ i → Q (some (.int (nI (v + cF (fun j => decide (j < 8) && bitOf b (nI j)) i k)))) (I, J, K) → Gw l G d m10_bitsOf 4 [.int b, .int (nI v), .int (nI i)] [] (I, J, K) Q := by
  intro k
  induction k with
  | zero =>
    intro i v hi hv hq
    refine e_iload_n rfl rfl ?_
    refine e_bipush (v := nI 8) rfl bp_8N ?_
    first | refine e_icmp_geN (tgt := 24) rfl rfl (by omega) (by omega) (fun z => ?_) (fun z => ?_) | refine e_icmp_ge (tgt := 24) rfl rfl (fun z => ?_) (fun z => ?_)
    · refine e_iload_n rfl rfl ?_
      refine e_ireturn rfl rfl ?_
      exact hq
    · omega
  | succ k ih =>
    intro i v hi hv hq
    rw [cF, decide_eq_true (by omega : i < 8), Bool.true_and, ← Nat.add_assoc] at hq
    refine e_iload_n rfl rfl ?_
    refine e_bipush (v := nI 8) rfl bp_8N ?_
    first | refine e_icmp_geN (tgt := 24) rfl rfl (by omega) (by omega) (fun z => ?_) (fun z => ?_) | refine e_icmp_ge (tgt := 24) rfl rfl (fun z => ?_) (fun z => ?_)
    · omega
    · refine e_iload_n rfl rfl ?_
      refine e_iload_n rfl rfl ?_
      refine e_iload_n rfl rfl ?_
      refine e_ishr rfl ?_
      refine e_iconst (v := nI 1) rfl ic_1N ?_
      refine e_iand rfl ?_
      rw [bit_n]
      have h1 : (if bitOf b (nI i) = true then 1 else 0) ≤ 1 := by split <;> omega
      generalize (if bitOf b (nI i) = true then 1 else 0) = q at hq h1
      first | refine e_iaddN rfl ?_ | refine e_iadd rfl ?_
      refine e_ist1 rfl rfl rfl ?_
      first | refine e_inc2 rfl rfl rfl (incN1 _) ?_ | refine e_inc2 rfl rfl rfl rfl ?_
      refine e_goto (tgt := 4) rfl rfl ?_
      exact ih (i + 1) (v + q) (by omega) (by omega) hq
theorem c10_bitsOf (b : Int32) : Cp l G d m10_bitsOf [.int b] (I, J, K) (.int (nI (cF (fun j => decide (j < 8) && bitOf b (nI j)) 0 8))) := by
  refine Cp.of ok10_bitsOf rfl (rfl : argL _ _ = [.int b, .null, .null]) ?_
  refine e_iconst (v := nI 0) rfl ic_0N ?_
  refine e_ist1 rfl rfl rfl ?_
  refine e_iconst (v := nI 0) rfl ic_0N ?_
  refine e_ist2 rfl rfl rfl ?_
  refine bitsOf_loop 8 0 0 (by omega) (by omega) ?_
  rw [Nat.zero_add]
  exact ⟨rfl, rfl⟩
theorem mask_in (hM : MK K) (hP : MP I P) (h6 : P.1 0 ≤ 6) {g : Nat → Bool} {w : Nat} (hw : w ≤ 99) {x fe be : Int32} : ∀ k i hv, i + k = P.1 0 → hv ≤ i → Gw l G (d + 1) m10_ask 91 [.ref 102, .int x, .int (bitF g 0 (P.1 0) (nI 0)), .int be, .int fe, .int (nI w), .int (nI (hv + cF (fun k => g k && decide (nI w ≤ P.2 1 k)) i k)), .int (nI (P.1 0))] [] (I, J, K) Q → Gw l G (d + 1) m10_ask 42 [.ref 102, .int x, .int (bitF g 0 (P.1 0) (nI 0)), .int be, .int fe, .int (nI w), .int (nI hv), .int (nI i)] [] (I, J, K) Q := by
  have e0 := hP.1.1
  intro k
  induction k with
  | zero =>
    intro i hv hi hh kk
    obtain rfl : i = P.1 0 := by omega
    refine e_iload rfl rfl ?_
    refine e_aload_n rfl rfl ?_
    refine e_getP rfl f10_13 hM.k rfl hM.p3 ?_
    refine e_iconst (v := nI 0) rfl ic_0N ?_
    first | refine e_ialoadN rfl hM.a3 (by omega) (by omega) ?_ | (refine e_iaload rfl hM.a3 ?_ ?_; rotate_left)
    rw [e0]
    first | refine e_icmp_geN (tgt := 91) rfl rfl (by omega) (by omega) (fun z => ?_) (fun z => ?_) | refine e_icmp_ge (tgt := 91) rfl rfl (fun z => ?_) (fun z => ?_)
    · exact kk
    · omega
  | succ k ih =>
    intro i hv hi hh kk
    obtain ⟨-, q1, -⟩ := hP.2.1 i (by omega)
    rw [cF, ← Nat.add_assoc] at kk
    have tail : ∀ q, q ≤ 1 → (if (g i && decide (nI w ≤ P.2 1 i)) = true then 1 else 0) = q → Gw l G (d + 1) m10_ask 82 [.ref 102, .int x, .int (bitF g 0 (P.1 0) (nI 0)), .int be, .int fe, .int (nI w), .int (nI hv), .int (nI i)] [.int (nI q), .int (nI hv)] (I, J, K) Q := by
      intro q hq e
      rw [e] at kk
      first | refine e_iaddN rfl ?_ | refine e_iadd rfl ?_
      refine e_ist6 rfl rfl rfl ?_
      first | refine e_inc7 rfl rfl rfl (incN1 _) ?_ | refine e_inc7 rfl rfl rfl rfl ?_
      refine e_goto (tgt := 42) rfl rfl ?_
      exact ih (i + 1) (hv + q) (by omega) (by omega) kk
    refine e_iload rfl rfl ?_
    refine e_aload_n rfl rfl ?_
    refine e_getP rfl f10_13 hM.k rfl hM.p3 ?_
    refine e_iconst (v := nI 0) rfl ic_0N ?_
    first | refine e_ialoadN rfl hM.a3 (by omega) (by omega) ?_ | (refine e_iaload rfl hM.a3 ?_ ?_; rotate_left)
    rw [e0]
    first | refine e_icmp_geN (tgt := 91) rfl rfl (by omega) (by omega) (fun z => ?_) (fun z => ?_) | refine e_icmp_ge (tgt := 91) rfl rfl (fun z => ?_) (fun z => ?_)
    · omega
    · refine e_iload rfl rfl ?_
      refine e_iload_n rfl rfl ?_
      refine e_iload rfl rfl ?_
      refine e_ishr rfl ?_
      refine e_iconst (v := nI 1) rfl ic_1N ?_
      refine e_iand rfl ?_
      refine e_iconst (v := nI 1) rfl ic_1N ?_
      refine e_icmp_ne (tgt := 81) rfl rfl (fun z => ?_) (fun z => ?_)
      · rw [bit_1, bitF_0 (by omega) (by omega)] at z
        refine e_iconst (v := nI 0) rfl ic_0N ?_
        exact tail 0 (by omega) (if_neg (fun q => z ((Bool.and_eq_true _ _).mp q).1))
      · rw [bit_1, bitF_0 (by omega) (by omega)] at z
        refine e_aload_n rfl rfl ?_
        refine e_getP rfl f10_19 hM.k rfl hM.p5 ?_
        refine e_iload rfl rfl ?_
        first | refine e_ialoadN rfl hM.a5 (by omega) (by omega) ?_ | (refine e_iaload rfl hM.a5 ?_ ?_; rotate_left)
        rw [q1]
        refine e_iload rfl rfl ?_
        refine e_icmp_lt (tgt := 81) rfl rfl (fun y => ?_) (fun y => ?_)
        · refine e_iconst (v := nI 0) rfl ic_0N ?_
          exact tail 0 (by omega) (if_neg (fun q => absurd y (Int32.not_lt.mpr (of_decide_eq_true ((Bool.and_eq_true _ _).mp q).2))))
        · refine e_iconst (v := nI 1) rfl ic_1N ?_
          refine e_goto (tgt := 82) rfl rfl ?_
          exact tail 1 (by omega) (if_pos (by rw [z, decide_eq_true (Int32.not_lt.mp y)]; rfl))
theorem mask_w (hM : MK K) (h6 : P.1 0 ≤ 6) {g : Nat → Bool} {w : Nat} {x fe be : Int32} {v : Value} (kk : Gw l G (d + 1) m10_ask 105 [.ref 102, .int x, .int (bitF g 0 (P.1 0) (nI 0)), .int be, .int fe, .int (nI w), .int (nI (hvy P g w)), .int (nI (wrs P g w))] [] (I, J, K) Q) : Gw l G (d + 1) m10_ask 91 [.ref 102, .int x, .int (bitF g 0 (P.1 0) (nI 0)), .int be, .int fe, .int (nI w), .int (nI (hvy P g w)), v] [] (I, J, K) Q := by
  obtain ⟨h1, h2, h3⟩ := wrs_6 (g := g) (w := w) h6
  refine e_iload rfl rfl ?_
  refine e_iload_n rfl rfl ?_
  refine e_callSp (M2 := m10_bitsOf) rfl v10_434 ok10_bitsOf (c10_bitsOf (d := d) _) rfl rfl rfl ?_
  rw [bits_cnt (by omega)]
  refine e_iload rfl rfl ?_
  first | refine e_isubN rfl (by omega) ?_ | refine e_isub rfl ?_
  refine e_max rfl v10_476 rfl ?_
  have ew : (if nI (hvy P g w) < nI (cnt g (P.1 0) - hvy P g w) then nI (cnt g (P.1 0) - hvy P g w) else nI (hvy P g w)) = nI (wrs P g w) := by
    unfold wrs
    by_cases c : hvy P g w < cnt g (P.1 0) - hvy P g w
    · rw [if_pos c, if_pos ((nI_ltI (by omega) (by omega)).mpr c)]
    · rw [if_neg c, if_neg (fun q => c ((nI_ltI (by omega) (by omega)).mp q))]
  rw [ew]
  refine e_ist7 rfl rfl rfl ?_
  exact kk
theorem mask_loop (hM : MK K) (hP : MP I P) (h6 : P.1 0 ≤ 6) {g : Nat → Bool} {i : Nat} (hi : i < 2) : ∀ k w fe be v6 v7, w + k = 100 → fe ≤ 6 → be ≤ 99 → Q (some (.int (nI (if i = 0 then (akF (wrs P g) k w fe be).2 else (akF (wrs P g) k w fe be).1)))) (I, J, K) → Gw l G (d + 1) m10_ask 29 [.ref 102, .int (nI i), .int (bitF g 0 (P.1 0) (nI 0)), .int (nI be), .int (nI fe), .int (nI w), v6, v7] [] (I, J, K) Q := by
  intro k
  induction k with
  | zero =>
    intro w fe be v6 v7 hw hf hb hq
    refine e_iload rfl rfl ?_
    refine e_bipush (v := nI 99) rfl bp_99N ?_
    first | refine e_icmp_gtN (tgt := 133) rfl rfl (by omega) (by omega) (fun z => ?_) (fun z => ?_) | refine e_icmp_gt (tgt := 133) rfl rfl (fun z => ?_) (fun z => ?_)
    · refine e_iload_n rfl rfl ?_
      first | refine e_if_neB (tgt := 141) rfl rfl (fun z => ?_) (fun z => ?_) | refine e_if_neN (tgt := 141) rfl rfl (by omega) (fun z => ?_) (fun z => ?_) | refine e_if_ne (tgt := 141) rfl rfl (fun z => ?_) (fun z => ?_)
      · have y : i ≠ 0 := by assumption
        rw [if_neg y] at hq
        refine e_iload rfl rfl ?_
        refine e_ireturn rfl rfl ?_
        exact hq
      · have y : i = 0 := by assumption
        rw [if_pos y] at hq
        refine e_iload_n rfl rfl ?_
        refine e_goto (tgt := 143) rfl rfl ?_
        refine e_ireturn rfl rfl ?_
        exact hq
    · omega
  | succ k ih =>
    intro w fe be v6 v7 hw hf hb hq
    obtain ⟨h1, h2, h3⟩ := wrs_6 (g := g) (w := w) h6
    rw [akF] at hq
    refine e_iload rfl rfl ?_
    refine e_bipush (v := nI 99) rfl bp_99N ?_
    first | refine e_icmp_gtN (tgt := 133) rfl rfl (by omega) (by omega) (fun z => ?_) (fun z => ?_) | refine e_icmp_gt (tgt := 133) rfl rfl (fun z => ?_) (fun z => ?_)
    · omega
    · refine e_iconst (v := nI 0) rfl ic_0N ?_
      refine e_ist6 rfl rfl rfl ?_
      refine e_iconst (v := nI 0) rfl ic_0N ?_
      refine e_ist7 rfl rfl rfl ?_
      refine mask_in hM hP h6 (by omega) (P.1 0) 0 0 (by omega) (by omega) ?_
      rw [Nat.zero_add]
      refine mask_w hM h6 ?_
      refine e_iload_n rfl rfl ?_
      refine e_iconst rfl ic_m1 ?_
      refine e_icmp_eq (tgt := 120) rfl rfl (fun z => absurd z (nI_m1 (by omega))) (fun z => ?_)
      refine e_iload rfl rfl ?_
      refine e_iload rfl rfl ?_
      first | refine e_icmp_ltN (tgt := 120) rfl rfl (by omega) (by omega) (fun z => ?_) (fun z => ?_) | refine e_icmp_lt (tgt := 120) rfl rfl (fun z => ?_) (fun z => ?_)
      · have y : wrs P g w < fe := by assumption
        rw [if_pos y] at hq
        refine e_iload rfl rfl ?_
        refine e_ist3 rfl rfl rfl ?_
        refine e_iload rfl rfl ?_
        refine e_ist4 rfl rfl rfl ?_
        first | refine e_inc5 rfl rfl rfl (incN1 _) ?_ | refine e_inc5 rfl rfl rfl rfl ?_
        refine e_goto (tgt := 29) rfl rfl ?_
        exact ih (w + 1) _ w _ _ (by omega) h3 (by omega) hq
      · have y : ¬ wrs P g w < fe := by omega
        rw [if_neg y] at hq
        refine e_goto (tgt := 127) rfl rfl ?_
        first | refine e_inc5 rfl rfl rfl (incN1 _) ?_ | refine e_inc5 rfl rfl rfl rfl ?_
        refine e_goto (tgt := 29) rfl rfl ?_
        exact ih (w + 1) _ _ _ _ (by omega) hf hb hq
theorem c10_ask (hM : MK K) (hI : MI I P S im SI m T kn u Hs B) (hwT : wfT n m T kn) (hB : wfB m T) (x : Int32) : Cw l G (d + 3) m10_ask [.ref 102, .int x] (I, J, K) (fun r h' => r = some (.int (a_ask P m T kn x)) ∧ MPst I J K h' P S im SI m T kn u Hs (B + 2)) := by
  have g0 : FQm I J (u2 I 102 0 (nI 0)) J := FQm.w0
  have hI1 := hI.t0 J
  have h6 := hI.2.1.1.1.1
  have no : ¬ inN 2 x = true → ∀ v2 v3 v4 v5 v6 v7, Gw l G (d + 3) m10_ask 14 [.ref 102, .int x, v2, v3, v4, v5, v6, v7] [] (u2 I 102 0 (nI 0), J, K) (fun r h' => r = some (.int (a_ask P m T kn x)) ∧ MPst I J K h' P S im SI m T kn u Hs (B + 2)) := by
    intro hno v2 v3 v4 v5 v6 v7
    rw [a_ask, if_neg hno]
    refine e_iconst rfl ic_m1 ?_
    refine e_ireturn rfl rfl ?_
    exact ⟨rfl, hI.fin g0⟩
  refine Cw.of ok10_ask rfl (rfl : argL _ _ = [.ref 102, .int x, .null, .null, .null, .null, .null, .null]) ?_
  refine e_aload_n rfl rfl ?_
  refine e_iconst (v := nI 0) rfl ic_0N ?_
  refine e_putI rfl f10_151 hM.k rfl rfl ?_
  refine e_iload_n rfl rfl ?_
  refine e_if_lt (tgt := 14) rfl rfl (fun y => ?_) (fun y0 => ?_)
  · exact no (fun q => (inN_lo (k := 1) (by omega) q).1 y) _ _ _ _ _ _
  · refine e_iload_n rfl rfl ?_
    refine e_iconst (v := nI 1) rfl ic_1N ?_
    refine e_icmp_le (tgt := 16) rfl rfl (fun y1 => ?_) (fun y1 => ?_)
    · have hx : inN 2 x = true := inN_hi (k := 1) (by omega) y0 y1
      rw [a_ask, if_pos hx]
      obtain ⟨i, hi, rfl⟩ := inN_of (by omega) hx
      refine e_aload_n rfl rfl ?_
      refine e_callV (kd := 10) (M2 := m10_whichOnes) rfl v10_473 ok10_whichOnes (c10_whichOnes (d := d) hM hI1.2.2.2.2.2.1 hwT hB hI1.1 hI1.2.1.1.1.1) rfl hM.k rfl rfl rfl rfl (fun r1 h1 q1 => ?_)
      obtain ⟨rfl, I1, rfl, g1⟩ := q1
      have P1 : MP I1 P := hI1.1.frame (fun c a b => g1 c (by omega))
      obtain ⟨h1, h2, h3⟩ := wrs_6 (g := kdF P m T kn) (w := 1) h6
      refine e_ist2 rfl rfl rfl ?_
      refine e_iconst rfl ic_m1 ?_
      refine e_ist3 rfl rfl rfl ?_
      refine e_iconst (v := nI 0) rfl ic_0N ?_
      refine e_ist4 rfl rfl rfl ?_
      refine e_iconst (v := nI 1) rfl ic_1N ?_
      refine e_ist5 rfl rfl rfl ?_
      unfold a_which
      refine e_iload rfl rfl ?_
      refine e_bipush (v := nI 99) rfl bp_99N ?_
      refine e_icmp_gtN (tgt := 133) rfl rfl (by omega) (by omega) (fun z => absurd z (by omega)) (fun z => ?_)
      refine e_iconst (v := nI 0) rfl ic_0N ?_
      refine e_ist6 rfl rfl rfl ?_
      refine e_iconst (v := nI 0) rfl ic_0N ?_
      refine e_ist7 rfl rfl rfl ?_
      refine mask_in hM P1 h6 (by omega) (P.1 0) 0 0 (by omega) (by omega) ?_
      rw [Nat.zero_add]
      refine mask_w hM h6 ?_
      refine e_iload_n rfl rfl ?_
      refine e_iconst rfl ic_m1 ?_
      refine e_icmp_eq (tgt := 120) rfl rfl (fun z => ?_) (fun z => absurd rfl z)
      refine e_iload rfl rfl ?_
      refine e_ist3 rfl rfl rfl ?_
      refine e_iload rfl rfl ?_
      refine e_ist4 rfl rfl rfl ?_
      first | refine e_inc5 rfl rfl rfl (incN1 _) ?_ | refine e_inc5 rfl rfl rfl rfl ?_
      refine e_goto (tgt := 29) rfl rfl ?_
      refine mask_loop hM P1 h6 hi 98 2 _ 1 _ _ (by omega) h3 (by omega) ?_
      refine ⟨?_, hI.fin (g0.tr (FQm.o g1))⟩
      by_cases e : i = 0
      · subst e
        rw [if_pos rfl, if_pos rfl]
      · rw [if_neg e, if_neg (ne42 e (by omega) (by omega))]
    · exact no (fun q => absurd (inN_lo (k := 1) (by omega) q).2 y1) _ _ _ _ _ _
theorem mso_loop (hM : MK K) (hT : MT I m T kn) (hwT : wfT n m T kn) (hB : wfB m T) (hR : RM I 1 n S B) (h8 : n ≤ 8) (hO : OT I T kn m) {day : Int32} : ∀ r i, i + r = kwn kn m → Q (some (.int (bI (ssF T (ctd T kn m) day n (S 0) i r)))) (I, J, K) → Gw l G (d + 1) m10_isSo 2 [.ref 102, .int day, .int (nI i)] [] (I, J, K) Q := by
  have hkm := (hmk_kwn hwT).2
  have hm := hT.2.1
  intro r
  induction r with
  | zero =>
    intro i hi hq
    refine e_iload_n rfl rfl ?_
    refine e_aload_n rfl rfl ?_
    refine e_callVp (kd := 10) (M2 := m10_knownMany) rfl v10_464 ok10_knownMany (c10_kM (d := d) hM hT hwT) rfl hM.k rfl rfl rfl rfl ?_
    first | refine e_icmp_geN (tgt := 82) rfl rfl (by omega) (by omega) (fun z => ?_) (fun z => ?_) | refine e_icmp_ge (tgt := 82) rfl rfl (fun z => ?_) (fun z => ?_)
    · refine e_iconst (v := nI 1) rfl ic_1N ?_
      refine e_zreturn rfl rfl ?_ ?_
      · exact Or.inr rfl
      · exact hq
    · omega
  | succ r ih =>
    intro i hi hq
    obtain ⟨e0, e1, e2, e3⟩ := hT.2.2.2 i (by omega)
    obtain ⟨b, hb3⟩ := hB i (by omega)
    have skip : ssF T (ctd T kn m) day n (S 0) i (r + 1) = ssF T (ctd T kn m) day n (S 0) (i + 1) r → Gw l G (d + 1) m10_isSo 76 [.ref 102, .int day, .int (nI i)] [] (I, J, K) Q := by
      intro e
      rw [e] at hq
      first | refine e_inc2 rfl rfl rfl (incN1 _) ?_ | refine e_inc2 rfl rfl rfl rfl ?_
      refine e_goto (tgt := 2) rfl rfl ?_
      exact ih (i + 1) (by omega) hq
    refine e_iload_n rfl rfl ?_
    refine e_aload_n rfl rfl ?_
    refine e_callVp (kd := 10) (M2 := m10_knownMany) rfl v10_464 ok10_knownMany (c10_kM (d := d) hM hT hwT) rfl hM.k rfl rfl rfl rfl ?_
    first | refine e_icmp_geN (tgt := 82) rfl rfl (by omega) (by omega) (fun z => ?_) (fun z => ?_) | refine e_icmp_ge (tgt := 82) rfl rfl (fun z => ?_) (fun z => ?_)
    · omega
    · refine e_aload_n rfl rfl ?_
      refine e_getP rfl f10_145 hM.k rfl hM.p65 ?_
      refine e_iload_n rfl rfl ?_
      first | refine e_zaloadN rfl hM.a65 (by omega) (by omega) ?_ | (refine e_zaload rfl hM.a65 ?_ ?_; rotate_left)
      rw [hO i (by omega)]
      refine e_if_neB (tgt := 76) rfl rfl (fun z => ?_) (fun z => ?_)
      · have z' : bitOf (ctd T kn m) (nI i) = false := by revert z; cases bitOf (ctd T kn m) (nI i) <;> decide
        exact skip (by rw [ssF, if_neg (fun q => absurd q.1 (by rw [z']; decide))])
      · have z' : bitOf (ctd T kn m) (nI i) = true := by revert z; cases bitOf (ctd T kn m) (nI i) <;> decide
        refine e_aload_n rfl rfl ?_
        refine e_getP rfl f10_132 hM.k rfl hM.p61 ?_
        refine e_iload_n rfl rfl ?_
        first | refine e_ialoadN rfl hM.a61 (by omega) (by omega) ?_ | (refine e_iaload rfl hM.a61 ?_ ?_; rotate_left)
        rw [e0]
        refine e_iconst (v := nI 2) rfl ic_2N ?_
        refine e_icmp_ne (tgt := 76) rfl rfl (fun y => ?_) (fun y => ?_)
        · exact skip (by rw [ssF, if_neg (fun q => y q.2.1)])
        · obtain ⟨j, hj, ej⟩ := hwT.2.1 i (by omega) y
          have hz : I 133 (8 + j) = S 0 j := (hR.1 j hj).1
          have hin : inN n (T 2 i) = true := by rw [ej]; rw [inN_nI (by omega) (by omega)]; exact decide_eq_true hj
          have e2' := (e2 y).trans ej
          have e3' := (e3 (by rw [y]; decide)).trans hb3
          refine e_aload_n rfl rfl ?_
          refine e_getP rfl f10_135 hM.k rfl hM.p62 ?_
          refine e_iload_n rfl rfl ?_
          first | refine e_ialoadN rfl hM.a62 (by omega) (by omega) ?_ | (refine e_iaload rfl hM.a62 ?_ ?_; rotate_left)
          rw [e1]
          refine e_iload_n rfl rfl ?_
          refine e_icmp_eq (tgt := 42) rfl rfl (fun x => ?_) (fun x => ?_)
          · have fin : ∀ (q : Bool), (q = true ↔ S 0 j = nI 3) → Gw l G (d + 1) m10_isSo 65 [.ref 102, .int day, .int (nI i)] [.int (bI q)] (I, J, K) Q := by
              intro q hqq
              have hs : (inN n (T 2 i) = true ∧ S 0 (T 2 i).toNatClampNeg = nI 3) ↔ q = true := by rw [hqq, ej, nI_clamp (by omega)]; exact ⟨fun q => q.2, fun q => ⟨by rw [← ej]; exact hin, q⟩⟩
              refine e_aload_n rfl rfl ?_
              refine e_getP rfl f10_141 hM.k rfl hM.p64 ?_
              refine e_iload_n rfl rfl ?_
              first | refine e_zaloadN rfl hM.a64 (by omega) (by omega) ?_ | (refine e_zaload rfl hM.a64 ?_ ?_; rotate_left)
              rw [e3']
              refine e_icmp_eq (tgt := 76) rfl rfl (fun z => ?_) (fun z => ?_)
              · have e : q = b := bI_in z
                refine skip ?_
                rw [ssF, if_neg]
                rintro ⟨-, -, -, y⟩
                exact y (by rw [hs, hb3, bI_1, ← e])
              · have e : ¬ q = b := fun e => z (by rw [e])
                rw [ssF, if_pos ⟨z', y, x, fun y => e (Bool.eq_iff_iff.mpr (by rw [hs, hb3, bI_1] at y; exact y))⟩] at hq
                refine e_iconst (v := nI 0) rfl ic_0N ?_
                refine e_zreturn rfl rfl ?_ ?_
                · exact Or.inl rfl
                · exact hq
            refine e_aload_n rfl rfl ?_
            refine e_getP rfl f10_105 hM.k rfl hM.p46 ?_
            refine e_bipush (v := nI 8) rfl bp_8N ?_
            refine e_aload_n rfl rfl ?_
            refine e_getP rfl f10_138 hM.k rfl hM.p63 ?_
            refine e_iload_n rfl rfl ?_
            first | refine e_ialoadN rfl hM.a63 (by omega) (by omega) ?_ | (refine e_iaload rfl hM.a63 ?_ ?_; rotate_left)
            rw [e2']
            first | refine e_iaddN rfl ?_ | refine e_iadd rfl ?_
            first | refine e_ialoadN rfl hM.a46 (by omega) (by omega) ?_ | (refine e_iaload rfl hM.a46 ?_ ?_; rotate_left)
            rw [hz]
            refine e_iconst (v := nI 3) rfl ic_3N ?_
            refine e_icmp_ne (tgt := 64) rfl rfl (fun z => ?_) (fun z => ?_)
            · refine e_iconst (v := nI 0) rfl ic_0N ?_
              exact fin false ⟨fun q => absurd q (by decide), fun q => absurd q z⟩
            · refine e_iconst (v := nI 1) rfl ic_1N ?_
              refine e_goto (tgt := 65) rfl rfl ?_
              exact fin true ⟨fun _ => z, fun _ => rfl⟩
          · refine e_goto (tgt := 76) rfl rfl ?_
            exact skip (by rw [ssF, if_neg (fun q => x q.2.2.1)])
theorem c10_isSo (hM : MK K) (hT : MT I m T kn) (hwT : wfT n m T kn) (hB : wfB m T) (hR : RM I 1 n S B) (h8 : n ≤ 8) (hO : OT I T kn m) (day : Int32) : Cp l G (d + 1) m10_isSo [.ref 102, .int day] (I, J, K) (.int (bI (ssF T (ctd T kn m) day n (S 0) 0 m))) := by
  refine Cp.of ok10_isSo rfl (rfl : argL _ _ = [.ref 102, .int day, .null]) ?_
  refine e_iconst (v := nI 0) rfl ic_0N ?_
  refine e_ist2 rfl rfl rfl ?_
  refine mso_loop hM hT hwT hB hR h8 hO (kwn kn m) 0 (by omega) ?_
  rw [ss_k hwT]
  exact ⟨rfl, rfl⟩
theorem MT.fm {f : Nat} {I' : IM} {J' : JM} (h : MT I m T kn) (g : FM f I J I' J') : MT I' m T kn := by
  obtain ⟨h1, h2, h3, h4⟩ := h
  refine ⟨by rw [g.obj (by omega)]; exact h1, h2, by rw [g.obj (by omega)]; exact h3, fun i hi => ?_⟩
  rw [g.row (by omega) (by omega), g.row (by omega) (by omega), g.row (by omega) (by omega), g.row (by omega) (by omega)]
  exact h4 i hi
theorem OT.fm {f : Nat} {I' : IM} {J' : JM} (h : OT I T kn m) (g : FM f I J I' J') : OT I' T kn m := fun j hj => by
  rw [g.row (by omega) (by omega)]
  exact h j hj
theorem mseen_loop (hM : MK K) (hX : wfX P) (hn : P.1 1 = n) (hwT : wfT n m T kn) (hB : wfB m T) {t q : Int32} {N : Nat} (hN : N ≤ 60) : ∀ k i I J S, i + k = N → MP I P → RM I 1 n S B → W1 n S → I 102 52 = nI 0 → I 102 53 = -1 → MT I m T kn → OT I T kn m → (∀ I' J', FM 1 I J I' J' → Q (some (.int (bI (seF P n m T (ctd T kn m) k (i + 1) S)))) (I', J', K)) → Gw l G (d + 7) m10_fitsDents 18 [.ref 102, .int t, .int q, .int (nI N), .int (nI (i + 1))] [] (I, J, K) Q := by
  have h8 := hX.1.1.2.1
  intro k
  induction k with
  | zero =>
    intro i I J S hi hP hR hW hw hs hT hO kk
    refine e_iload rfl rfl ?_
    refine e_iload_n rfl rfl ?_
    first | refine e_icmp_gtN (tgt := 47) rfl rfl (by omega) (by omega) (fun z => ?_) (fun z => ?_) | refine e_icmp_gt (tgt := 47) rfl rfl (fun z => ?_) (fun z => ?_)
    · refine e_iconst (v := nI 1) rfl ic_1N ?_
      refine e_zreturn rfl rfl ?_ ?_
      · exact Or.inr rfl
      · exact kk I J FM.rf
    · omega
  | succ k ih =>
    intro i I J S hi hP hR hW hw hs hT hO kk
    refine e_iload rfl rfl ?_
    refine e_iload_n rfl rfl ?_
    first | refine e_icmp_gtN (tgt := 47) rfl rfl (by omega) (by omega) (fun z => ?_) (fun z => ?_) | refine e_icmp_gt (tgt := 47) rfl rfl (fun z => ?_) (fun z => ?_)
    · omega
    · refine e_aload_n rfl rfl ?_
      refine e_iconst (v := nI 1) rfl ic_1N ?_
      refine e_iconst (v := nI 0) rfl ic_0N ?_
      refine e_callV (kd := 10) (M2 := m10_passes) rfl v10_387 ok10_passes (c10_passes (d := d) (f := 1) (way := nI 0) (sp := -1) hM hP hX hn hR hW (by omega) false hw hs) rfl hM.k rfl rfl rfl rfl (fun r1 h1 q1 => ?_)
      obtain ⟨rfl, I1, J1, rfl, g1, R1⟩ := q1
      rw [pa_0] at R1
      refine e_aload_n rfl rfl ?_
      refine e_iload rfl rfl ?_
      refine e_callVp (kd := 10) (M2 := m10_isSo) rfl v10_478 ok10_isSo (c10_isSo (d := d + 5) hM (hT.fm g1) hwT hB R1 (by omega) (hO.fm g1) (nI (i + 1))) rfl hM.k rfl rfl rfl rfl ?_
      refine e_if_neB (tgt := 41) rfl rfl (fun z => ?_) (fun z => ?_)
      · first | refine e_inc4 rfl rfl rfl (incN1 _) ?_ | refine e_inc4 rfl rfl rfl rfl ?_
        refine e_goto (tgt := 18) rfl rfl ?_
        refine ih (i + 1) I1 J1 _ (by omega) (hP.fm g1) R1 (W1_pa hW) (by rw [g1.obj (by omega)]; exact hw) (by rw [g1.obj (by omega)]; exact hs) (hT.fm g1) (hO.fm g1) (fun I2 J2 g2 => ?_)
        have := kk I2 J2 (g1.tr g2)
        rw [seF, if_pos z] at this
        exact this
      · have := kk I1 J1 g1
        rw [seF, if_neg (by rw [z]; decide)] at this
        refine e_iconst (v := nI 0) rfl ic_0N ?_
        refine e_zreturn rfl rfl ?_ ?_
        · exact Or.inl rfl
        · exact this
theorem c10_fitsDents (hM : MK K) (hX : wfX P) (hn : P.1 1 = n) (hwT : wfT n m T kn) (hB : wfB m T) (hP : MP I P) (hw : I 102 52 = nI 0) (hs : I 102 53 = -1) (hT : MT I m T kn) (hO : OT I T kn m) {t q N : Nat} (ht : t < n) (hq : q ≤ 10) (hN : N ≤ 60) : Cw l G (d + 7) m10_fitsDents [.ref 102, .int (nI t), .int (nI q), .int (nI N)] (I, J, K) (fun r h' => r = some (.int (bI (seF P n m T (ctd T kn m) N 1 (u2 (beg P) 1 t (nI q))))) ∧ ∃ I' J', h' = (I', J', K) ∧ FM 1 I J I' J') := by
  have h8 := hX.1.1.2.1
  refine Cw.of ok10_fitsDents rfl (rfl : argL _ _ = [.ref 102, .int (nI t), .int (nI q), .int (nI N), .null]) ?_
  refine e_aload_n rfl rfl ?_
  refine e_iconst (v := nI 1) rfl ic_1N ?_
  refine e_callV (kd := 10) (M2 := m10_starts) rfl v10_330 ok10_starts (c10_starts (d := d + 6) (f := 1) hM hP hX (by omega)) rfl hM.k rfl rfl rfl rfl (fun r1 h1 q1 => ?_)
  obtain ⟨rfl, I1, rfl, C1⟩ := q1
  have g1 : FM 1 I J I1 J := FM.of_st C1
  have R1 : RM I1 1 n (beg P) 8 := RM.st hn (by omega) C1 (by omega)
  refine e_aload_n rfl rfl ?_
  refine e_getP rfl f10_102 hM.k rfl hM.p45 ?_
  refine e_bipush (v := nI 8) rfl bp_8N ?_
  refine e_iload_n rfl rfl ?_
  first | refine e_iaddN rfl ?_ | refine e_iadd rfl ?_
  refine e_iload_n rfl rfl ?_
  first | refine e_iastoreN rfl hM.a45 (by omega) (by omega) ?_ | (refine e_iastore rfl hM.a45 ?_ ?_; rotate_left)
  refine e_iconst (v := nI 1) rfl ic_1N ?_
  refine e_ist4 rfl rfl rfl ?_
  have R2 : RM (u2 I1 132 (8 + t) (nI q)) 1 n (u2 (beg P) 1 t (nI q)) 8 := R1.w1 (by omega) _
  have g2 : FM 1 I J (u2 I1 132 (8 + t) (nI q)) J := g1.tr (FM.w (on8 (c := 132) (t := t) (by omega) (by omega) (by omega)))
  exact mseen_loop hM hX hn hwT hB hN N 0 _ J _ (by omega) (hP.fm g2) R2 (beg_W1 hX.1 hn hq) (by rw [g2.obj (by omega)]; exact hw) (by rw [g2.obj (by omega)]; exact hs) (hT.fm g2) (hO.fm g2) (fun I3 J3 g3 => ⟨rfl, I3, J3, rfl, g2.tr g3⟩)
theorem mlast_loop (hM : MK K) (hT : MT I m T kn) (hwT : wfT n m T kn) (hO : OT I T kn m) {t : Int32} : ∀ r i v, i + r = kwn kn m → Gw l G (d + 1) m10_dented 67 [.ref 102, .int t, .int (lsF T (ctd T kn m) i r v), .int (nI (kwn kn m)), .null] [] (I, J, K) Q → Gw l G (d + 1) m10_dented 23 [.ref 102, .int t, .int v, .int (nI i), .null] [] (I, J, K) Q := by
  have hkm := (hmk_kwn hwT).2
  have hm := hT.2.1
  intro r
  induction r with
  | zero =>
    intro i v hi hq
    obtain rfl : i = kwn kn m := by omega
    refine e_iload_n rfl rfl ?_
    refine e_aload_n rfl rfl ?_
    refine e_callVp (kd := 10) (M2 := m10_knownMany) rfl v10_464 ok10_knownMany (c10_kM (d := d) hM hT hwT) rfl hM.k rfl rfl rfl rfl ?_
    first | refine e_icmp_geN (tgt := 67) rfl rfl (by omega) (by omega) (fun z => ?_) (fun z => ?_) | refine e_icmp_ge (tgt := 67) rfl rfl (fun z => ?_) (fun z => ?_)
    · exact hq
    · omega
  | succ r ih =>
    intro i v hi hq
    obtain ⟨e0, e1, -, -⟩ := hT.2.2.2 i (by omega)
    have skip : ∀ v', lsF T (ctd T kn m) i (r + 1) v = lsF T (ctd T kn m) (i + 1) r v' → Gw l G (d + 1) m10_dented 61 [.ref 102, .int t, .int v', .int (nI i), .null] [] (I, J, K) Q := by
      intro v' e
      rw [e] at hq
      first | refine e_inc3 rfl rfl rfl (incN1 _) ?_ | refine e_inc3 rfl rfl rfl rfl ?_
      refine e_goto (tgt := 23) rfl rfl ?_
      exact ih (i + 1) _ (by omega) hq
    refine e_iload_n rfl rfl ?_
    refine e_aload_n rfl rfl ?_
    refine e_callVp (kd := 10) (M2 := m10_knownMany) rfl v10_464 ok10_knownMany (c10_kM (d := d) hM hT hwT) rfl hM.k rfl rfl rfl rfl ?_
    first | refine e_icmp_geN (tgt := 67) rfl rfl (by omega) (by omega) (fun z => ?_) (fun z => ?_) | refine e_icmp_ge (tgt := 67) rfl rfl (fun z => ?_) (fun z => ?_)
    · omega
    · refine e_aload_n rfl rfl ?_
      refine e_getP rfl f10_145 hM.k rfl hM.p65 ?_
      refine e_iload_n rfl rfl ?_
      first | refine e_zaloadN rfl hM.a65 (by omega) (by omega) ?_ | (refine e_zaload rfl hM.a65 ?_ ?_; rotate_left)
      rw [hO i (by omega)]
      refine e_if_neB (tgt := 61) rfl rfl (fun z => ?_) (fun z => ?_)
      · have z' : bitOf (ctd T kn m) (nI i) = false := by revert z; cases bitOf (ctd T kn m) (nI i) <;> decide
        exact skip v (by rw [lsF, if_neg (fun q => absurd q.1 (by rw [z']; decide))])
      · have z' : bitOf (ctd T kn m) (nI i) = true := by revert z; cases bitOf (ctd T kn m) (nI i) <;> decide
        refine e_aload_n rfl rfl ?_
        refine e_getP rfl f10_132 hM.k rfl hM.p61 ?_
        refine e_iload_n rfl rfl ?_
        first | refine e_ialoadN rfl hM.a61 (by omega) (by omega) ?_ | (refine e_iaload rfl hM.a61 ?_ ?_; rotate_left)
        rw [e0]
        refine e_iconst (v := nI 2) rfl ic_2N ?_
        refine e_icmp_ne (tgt := 61) rfl rfl (fun y => ?_) (fun y => ?_)
        · exact skip v (by rw [lsF, if_neg (fun q => y q.2)])
        · refine e_iload_n rfl rfl ?_
          refine e_aload_n rfl rfl ?_
          refine e_getP rfl f10_135 hM.k rfl hM.p62 ?_
          refine e_iload_n rfl rfl ?_
          first | refine e_ialoadN rfl hM.a62 (by omega) (by omega) ?_ | (refine e_iaload rfl hM.a62 ?_ ?_; rotate_left)
          rw [e1]
          refine e_max rfl v10_476 rfl ?_
          refine e_ist2 rfl rfl rfl ?_
          exact skip _ (by rw [lsF, if_pos ⟨z', y⟩])
theorem mdent_loop (hM : MK K) (hX : wfX P) (hn : P.1 1 = n) (hwT : wfT n m T kn) (hB : wfB m T) {t N : Nat} (ht : t < n) (hN : N ≤ 60) (eN : (lsF T (ctd T kn m) 0 m (nI 0)).toNatClampNeg = N) : ∀ k q I J b, q + k = 10 → MP I P → I 102 52 = nI 0 → I 102 53 = -1 → MT I m T kn → OT I T kn m → (∀ I' J', FM 1 I J I' J' → Q (some (.int (bitF (deF P n m T (ctd T kn m) t) q k b))) (I', J', K)) → Gw l G (d + 8) m10_dented 72 [.ref 102, .int (nI t), .int (nI N), .int b, .int (nI q)] [] (I, J, K) Q := by
  have h8 := hX.1.1.2.1
  intro k
  induction k with
  | zero =>
    intro q I J b hq hP hw hs hT hO kk
    have := kk I J FM.rf
    refine e_iload rfl rfl ?_
    refine e_bipush (v := nI 10) rfl bp_10N ?_
    first | refine e_icmp_geN (tgt := 107) rfl rfl (by omega) (by omega) (fun z => ?_) (fun z => ?_) | refine e_icmp_ge (tgt := 107) rfl rfl (fun z => ?_) (fun z => ?_)
    · refine e_iload_n rfl rfl ?_
      refine e_ireturn rfl rfl ?_
      exact this
    · omega
  | succ k ih =>
    intro q I J b hq hP hw hs hT hO kk
    refine e_iload rfl rfl ?_
    refine e_bipush (v := nI 10) rfl bp_10N ?_
    first | refine e_icmp_geN (tgt := 107) rfl rfl (by omega) (by omega) (fun z => ?_) (fun z => ?_) | refine e_icmp_ge (tgt := 107) rfl rfl (fun z => ?_) (fun z => ?_)
    · omega
    · refine e_iload_n rfl rfl ?_
      refine e_aload_n rfl rfl ?_
      refine e_iload_n rfl rfl ?_
      refine e_iload rfl rfl ?_
      refine e_iload_n rfl rfl ?_
      refine e_callV (kd := 10) (M2 := m10_fitsDents) rfl v10_481 ok10_fitsDents (c10_fitsDents (d := d) hM hX hn hwT hB hP hw hs hT hO ht (by omega) hN) rfl hM.k rfl rfl rfl rfl (fun r1 h1 q1 => ?_)
      obtain ⟨rfl, I1, J1, rfl, g1⟩ := q1
      have ed : seF P n m T (ctd T kn m) N 1 (u2 (beg P) 1 t (nI q)) = deF P n m T (ctd T kn m) t q := by unfold deF; rw [eN]
      rw [ed]
      refine e_if_eqB (tgt := 98) rfl rfl (fun z => ?_) (fun z => ?_)
      · refine e_iconst (v := nI 0) rfl ic_0N ?_
        refine e_ior rfl ?_
        rw [or_0]
        refine e_ist3 rfl rfl rfl ?_
        first | refine e_inc4 rfl rfl rfl (incN1 _) ?_ | refine e_inc4 rfl rfl rfl rfl ?_
        refine e_goto (tgt := 72) rfl rfl ?_
        refine ih (q + 1) I1 J1 b (by omega) (hP.fm g1) (by rw [g1.obj (by omega)]; exact hw) (by rw [g1.obj (by omega)]; exact hs) (hT.fm g1) (hO.fm g1) (fun I2 J2 g2 => ?_)
        have := kk I2 J2 (g1.tr g2)
        rw [bitF, if_neg (by rw [z]; decide)] at this
        exact this
      · refine e_iconst (v := nI 1) rfl ic_1N ?_
        refine e_iload rfl rfl ?_
        refine e_ishl rfl ?_
        refine e_goto (tgt := 99) rfl rfl ?_
        refine e_ior rfl ?_
        refine e_ist3 rfl rfl rfl ?_
        first | refine e_inc4 rfl rfl rfl (incN1 _) ?_ | refine e_inc4 rfl rfl rfl rfl ?_
        refine e_goto (tgt := 72) rfl rfl ?_
        refine ih (q + 1) I1 J1 _ (by omega) (hP.fm g1) (by rw [g1.obj (by omega)]; exact hw) (by rw [g1.obj (by omega)]; exact hs) (hT.fm g1) (hO.fm g1) (fun I2 J2 g2 => ?_)
        have := kk I2 J2 (g1.tr g2)
        rw [bitF, if_pos z] at this
        exact this
theorem c10_dented (hM : MK K) (hI : MI I P S im SI m T kn u Hs B) (hn : P.1 1 = n) (hwT : wfT n m T kn) (hB : wfB m T) (t : Int32) : Cw l G (d + 8) m10_dented [.ref 102, .int t] (I, J, K) (fun r h' => r = some (.int (a_dented P n m T kn t)) ∧ MPst I J K h' P S im SI m T kn u Hs (B + 2)) := by
  have g0 : FQm I J (u2 I 102 0 (nI 0)) J := FQm.w0
  have hI1 := hI.t0 J
  obtain ⟨p1, p2, p3, p4, p5, p6, p7, p8, p9⟩ := hI1
  have h8 := p2.1.1.2.1
  have hn1 : (u2 I 102 0 (nI 0)) 104 1 = nI n := by rw [← hn]; exact p1.1.2.1
  unfold a_dented
  refine Cw.of ok10_dented rfl (rfl : argL _ _ = [.ref 102, .int t, .null, .null, .null]) ?_
  refine e_aload_n rfl rfl ?_
  refine e_iconst (v := nI 0) rfl ic_0N ?_
  refine e_putI rfl f10_151 hM.k rfl rfl ?_
  refine e_aload_n rfl rfl ?_
  refine e_iload_n rfl rfl ?_
  refine e_callVp (kd := 10) (M2 := m10_isTin) rfl v10_397 ok10_isTin (c10_isTin (d := d + 7) hM hn1 t) rfl hM.k rfl rfl rfl rfl ?_
  refine e_if_neB (tgt := 15) rfl rfl (fun z => ?_) (fun z => ?_)
  · rw [if_pos z]
    obtain ⟨j, hj, rfl⟩ := inN_of (by omega) z
    rw [nI_clamp (by omega)]
    refine e_aload_n rfl rfl ?_
    refine e_callV (kd := 10) (M2 := m10_strikes) rfl v10_467 ok10_strikes (c10_strikes (d := d + 6) hM p6 hwT) rfl hM.k rfl rfl rfl rfl (fun r1 h1 q1 => ?_)
    obtain ⟨rfl, I1, rfl, g1, O1⟩ := q1
    obtain ⟨N, hN, eN⟩ := lsF_in (c := ctd T kn m) hwT.1 m 0 0 (by omega) (by omega)
    have T1 := p6.fr g1
    refine e_iconst (v := nI 0) rfl ic_0N ?_
    refine e_ist2 rfl rfl rfl ?_
    refine e_iconst (v := nI 0) rfl ic_0N ?_
    refine e_ist3 rfl rfl rfl ?_
    refine mlast_loop (d := d + 7) hM T1 hwT O1 (kwn kn m) 0 _ (by omega) ?_
    rw [ls_k hwT, eN]
    refine e_iconst (v := nI 0) rfl ic_0N ?_
    refine e_ist3 rfl rfl rfl ?_
    refine e_iconst (v := nI 0) rfl ic_0N ?_
    refine e_ist4 rfl rfl rfl ?_
    refine mdent_loop hM p2 hn hwT hB hj hN (by rw [eN, nI_clamp (by omega)]) 10 0 I1 J _ (by omega) (p1.frame (fun c a b => g1 c (by omega))) (by rw [g1 102 (by omega)]; exact p8) (by rw [g1 102 (by omega)]; exact p9) T1 O1 (fun I2 J2 g2 => ⟨rfl, hI.fin (g0.tr ((FQm.o g1).tr g2.fq))⟩)
  · rw [if_neg (by rw [z]; decide)]
    refine e_iconst rfl ic_m1 ?_
    refine e_ireturn rfl rfl ?_
    exact ⟨rfl, hI.fin g0⟩
end MTold4
