/-! ===== nextRow, order ===== -/
section MOrd2
variable {l : Launch} {G : GG} {d : Nat} {I : IM} {J : JM} {K : Kt} {h : Hp} {Q : Option Value → Hp → Prop} {P : Pl} {S : SM} {im : Bool} {SI : SM} {m : Nat} {T : SM} {kn : Int32} {u : Nat} {Hs : Nat → SM} {B n : Nat}
theorem nr_rev (hG : GK K) (hm : m ≤ 4) {x2 x3 : Int32} : ∀ k lo hi g I, lo ≤ m → hi < m → hi + 1 ≤ lo + 2 * k + 1 → (∀ j, j < m → I 100 j = nI (g j)) → (∀ I', (∀ c, c ≠ 100 → I' c = I c) → (∀ j, j < m → I' 100 j = nI (rvF k lo hi g j)) → Q (some (.int (bI true))) (I', J, K)) → Gw l G (d + 1) m9_nextRow 95 [.ref 0, .int (nI m), .int x2, .int x3, .int (nI lo), .int (nI hi)] [] (I, J, K) Q := by
  have hG2 := hG
  obtain ⟨⟨k9, t0, t2, t3, t4, t5, t6, t7, t9, t10, t11, t12⟩, ⟨-, -, -, -, a100, a101⟩, -⟩ := hG2
  intro k
  induction k with
  | zero =>
    intro lo hi g I h1 h2 h3 hr kk
    refine e_iload rfl rfl ?_
    refine e_iload rfl rfl ?_
    first | refine e_icmp_geN (tgt := 119) rfl rfl (by omega) (by omega) (fun z => ?_) (fun z => ?_) | refine e_icmp_ge (tgt := 119) rfl rfl (fun z => ?_) (fun z => ?_)
    · refine e_iconst (v := nI 1) rfl ic_1N ?_
      refine e_zreturn rfl rfl ?_ ?_
      · exact Or.inr rfl
      · exact kk I (fun _ _ => rfl) hr
    · omega
  | succ k ih =>
    intro lo hi g I h1 h2 h3 hr kk
    rw [rvF] at kk
    refine e_iload rfl rfl ?_
    refine e_iload rfl rfl ?_
    first | refine e_icmp_geN (tgt := 119) rfl rfl (by omega) (by omega) (fun z => ?_) (fun z => ?_) | refine e_icmp_ge (tgt := 119) rfl rfl (fun z => ?_) (fun z => ?_)
    · rw [if_neg (by omega)] at kk
      refine e_iconst (v := nI 1) rfl ic_1N ?_
      refine e_zreturn rfl rfl ?_ ?_
      · exact Or.inr rfl
      · exact kk I (fun _ _ => rfl) hr
    · have y : lo < hi := by assumption
      rw [if_pos y] at kk
      refine e_aload_n rfl rfl ?_
      refine e_iload rfl rfl ?_
      refine e_iload rfl rfl ?_
      refine e_callV (kd := 9) (M2 := m9_swapInRow) rfl v9_264 ok9_swapInRow (c9_swapInRow hG hm (by omega) h2 hr) rfl (by assumption) rfl rfl rfl rfl (fun r1 h1 q1 => ?_)
      obtain ⟨rfl, I1, rfl, f1, r1⟩ := q1
      refine e_inc5 rfl rfl rfl (decN1 (by omega)) ?_
      first | refine e_inc4 rfl rfl rfl (incN1 _) ?_ | refine e_inc4 rfl rfl rfl rfl ?_
      refine e_goto (tgt := 95) rfl rfl ?_
      exact ih (lo + 1) (hi - 1) _ I1 (by omega) (by omega) (by omega) r1 (fun I' f' r' => kk I' (fun c hc => by rw [f' c hc, f1 c hc]) r')
theorem nr_other (hG : GK K) (hm : m ≤ 4) {g : Nat → Nat} (hg : ∀ j, j < m → g j < 2 ^ 31) {a : Nat} (ha : a < m) (hr : ∀ j, j < m → I 100 j = nI (g j)) {v4 v5 : Value} : ∀ o, o < m → a ≤ o → (∀ I', (∀ c, c ≠ 100 → I' c = I c) → (∀ j, j < m → I' 100 j = nI (rvF 4 (a + 1) (m - 1) (swp g a (nxO g a o)) j)) → Q (some (.int (bI true))) (I', J, K)) → Gw l G (d + 1) m9_nextRow 49 [.ref 0, .int (nI m), .int (nI a), .int (nI o), v4, v5] [] (I, J, K) Q := by
  have hG2 := hG
  obtain ⟨⟨k9, t0, t2, t3, t4, t5, t6, t7, t9, t10, t11, t12⟩, ⟨-, -, -, -, a100, a101⟩, -⟩ := hG2
  have fin : ∀ o, o < m → (∀ I', (∀ c, c ≠ 100 → I' c = I c) → (∀ j, j < m → I' 100 j = nI (rvF 4 (a + 1) (m - 1) (swp g a o) j)) → Q (some (.int (bI true))) (I', J, K)) → Gw l G (d + 1) m9_nextRow 75 [.ref 0, .int (nI m), .int (nI a), .int (nI o), v4, v5] [] (I, J, K) Q := by
    intro o ho kk
    refine e_aload_n rfl rfl ?_
    refine e_iload_n rfl rfl ?_
    refine e_iload_n rfl rfl ?_
    refine e_callV (kd := 9) (M2 := m9_swapInRow) rfl v9_264 ok9_swapInRow (c9_swapInRow hG hm ha ho hr) rfl (by assumption) rfl rfl rfl rfl (fun r1 h1 q1 => ?_)
    obtain ⟨rfl, I1, rfl, f1, r1⟩ := q1
    refine e_iload_n rfl rfl ?_
    refine e_iconst (v := nI 1) rfl ic_1N ?_
    first | refine e_iaddN rfl ?_ | refine e_iadd rfl ?_
    refine e_ist4 rfl rfl rfl ?_
    refine e_iload_n rfl rfl ?_
    refine e_iconst (v := nI 4) rfl ic_4N ?_
    refine e_min rfl v9_259 rfl ?_
    rw [show (if nI 4 < nI m then nI 4 else nI m) = nI m by rw [if_neg (fun q => absurd ((nI_ltI (by omega) (by omega)).mp q) (by omega))]]
    refine e_iconst (v := nI 1) rfl ic_1N ?_
    first | refine e_isubN rfl (by omega) ?_ | refine e_isub rfl ?_
    refine e_ist5 rfl rfl rfl ?_
    exact nr_rev hG hm 4 (a + 1) (m - 1) _ I1 (by omega) (by omega) (by omega) r1 (fun I' f' r' => kk I' (fun c hc => by rw [f' c hc, f1 c hc]) r')
  intro o
  induction o with
  | zero =>
    intro ho hao kk
    refine e_iload_n rfl rfl ?_
    refine e_iload_n rfl rfl ?_
    first | refine e_icmp_leN (tgt := 75) rfl rfl (by omega) (by omega) (fun z => ?_) (fun z => ?_) | refine e_icmp_le (tgt := 75) rfl rfl (fun z => ?_) (fun z => ?_)
    · exact fin 0 ho kk
    · omega
  | succ o ih =>
    intro ho hao kk
    rw [nxO] at kk
    refine e_iload_n rfl rfl ?_
    refine e_iload_n rfl rfl ?_
    first | refine e_icmp_leN (tgt := 75) rfl rfl (by omega) (by omega) (fun z => ?_) (fun z => ?_) | refine e_icmp_le (tgt := 75) rfl rfl (fun z => ?_) (fun z => ?_)
    · rw [if_neg (by omega)] at kk
      exact fin (o + 1) ho kk
    · have y : a < o + 1 := by assumption
      refine e_aload_n rfl rfl ?_
      refine e_getP rfl f9_65 (by assumption) rfl (by assumption) ?_
      refine e_iload_n rfl rfl ?_
      first | refine e_ialoadN rfl (by assumption) (by omega) (by omega) ?_ | (refine e_iaload rfl (by assumption) ?_ ?_; rotate_left)
      refine e_aload_n rfl rfl ?_
      refine e_getP rfl f9_65 (by assumption) rfl (by assumption) ?_
      refine e_iload_n rfl rfl ?_
      first | refine e_ialoadN rfl (by assumption) (by omega) (by omega) ?_ | (refine e_iaload rfl (by assumption) ?_ ?_; rotate_left)
      rw [hr (o + 1) ho, hr a ha]
      have g1 := hg (o + 1) ho
      have g2 := hg a ha
      first | refine e_icmp_geN (tgt := 75) rfl rfl (by omega) (by omega) (fun z => ?_) (fun z => ?_) | refine e_icmp_ge (tgt := 75) rfl rfl (fun z => ?_) (fun z => ?_)
      · rw [if_neg (by omega)] at kk
        exact fin (o + 1) ho kk
      · rw [if_pos ⟨y, by omega⟩] at kk
        refine e_inc3 rfl rfl rfl (decN1 (by omega)) ?_
        refine e_goto (tgt := 49) rfl rfl ?_
        exact ih (by omega) (by omega) kk
theorem nr_at (hG : GK K) (hm : m ≤ 4) {g : Nat → Nat} (hg : ∀ j, j < m → g j < 2 ^ 31) (hr : ∀ j, j < m → I 100 j = nI (g j)) {v3 v4 v5 : Value} : ∀ a, a + 1 ≤ m → (∀ I', (∀ c, c ≠ 100 → I' c = I c) → (∀ j, j < m → I' 100 j = nI ((if nxA g a = 0 then g else rvF 4 (nxA g a) (m - 1) (swp g (nxA g a - 1) (nxO g (nxA g a - 1) (m - 1)))) j)) → Q (some (.int (bI (if nxA g a = 0 then false else true)))) (I', J, K)) → Gw l G (d + 1) m9_nextRow 8 [.ref 0, .int (nI m), .int (nI a - nI 1), v3, v4, v5] [] (I, J, K) Q := by
  have hG2 := hG
  obtain ⟨⟨k9, t0, t2, t3, t4, t5, t6, t7, t9, t10, t11, t12⟩, ⟨-, -, -, -, a100, a101⟩, -⟩ := hG2
  intro a
  induction a with
  | zero =>
    intro ha kk
    refine e_iload_n rfl rfl ?_
    refine e_if_lt (tgt := 35) rfl rfl (fun _ => ?_) (fun z => absurd (by decide : nI 0 - nI 1 < 0) z)
    refine e_iload_n rfl rfl ?_
    refine e_if_ge (tgt := 41) rfl rfl (fun z => absurd z (by decide)) (fun _ => ?_)
    refine e_iconst (v := nI 0) rfl ic_0N ?_
    refine e_zreturn rfl rfl ?_ ?_
    · exact Or.inl rfl
    · exact kk I (fun _ _ => rfl) hr
  | succ a ih =>
    intro ha kk
    rw [show nI (a + 1) - nI 1 = nI a by rw [pk_sub (by omega)]; rfl]
    have g1 := hg (a + 1) (by omega)
    have g2 := hg a (by omega)
    refine e_iload_n rfl rfl ?_
    refine e_if_ltN (tgt := 35) rfl rfl (by omega) ?_
    refine e_aload_n rfl rfl ?_
    refine e_getP rfl f9_65 (by assumption) rfl (by assumption) ?_
    refine e_iload_n rfl rfl ?_
    first | refine e_ialoadN rfl (by assumption) (by omega) (by omega) ?_ | (refine e_iaload rfl (by assumption) ?_ ?_; rotate_left)
    refine e_aload_n rfl rfl ?_
    refine e_getP rfl f9_65 (by assumption) rfl (by assumption) ?_
    refine e_iload_n rfl rfl ?_
    refine e_iconst (v := nI 1) rfl ic_1N ?_
    first | refine e_iaddN rfl ?_ | refine e_iadd rfl ?_
    first | refine e_ialoadN rfl (by assumption) (by omega) (by omega) ?_ | (refine e_iaload rfl (by assumption) ?_ ?_; rotate_left)
    rw [hr (a + 1) (by omega), hr a (by omega)]
    first | refine e_icmp_leN (tgt := 35) rfl rfl (by omega) (by omega) (fun z => ?_) (fun z => ?_) | refine e_icmp_le (tgt := 35) rfl rfl (fun z => ?_) (fun z => ?_)
    · have y : g a ≤ g (a + 1) := by assumption
      have ea : nxA g (a + 1) = a + 1 := by rw [nxA, if_neg (by omega)]
      rw [ea, if_neg (by omega), if_neg (by omega)] at kk
      refine e_iload_n rfl rfl ?_
      refine e_if_geN (tgt := 41) rfl rfl (by omega) ?_
      refine e_iload_n rfl rfl ?_
      refine e_iconst (v := nI 4) rfl ic_4N ?_
      refine e_min rfl v9_259 rfl ?_
      rw [show (if nI 4 < nI m then nI 4 else nI m) = nI m by rw [if_neg (fun q => absurd ((nI_ltI (by omega) (by omega)).mp q) (by omega))]]
      refine e_iconst (v := nI 1) rfl ic_1N ?_
      first | refine e_isubN rfl (by omega) ?_ | refine e_isub rfl ?_
      refine e_ist3 rfl rfl rfl ?_
      exact nr_other hG hm hg (by omega) hr (m - 1) (by omega) (by omega) kk
    · have ea : nxA g (a + 1) = nxA g a := by rw [nxA, if_pos (by omega)]
      rw [ea] at kk
      refine e_inc2 rfl rfl rfl (decM a) ?_
      refine e_goto (tgt := 8) rfl rfl ?_
      exact ih (by omega) kk
theorem c9_nextRow (hG : GK K) (hm : m ≤ 4) {g : Nat → Nat} (hg : ∀ j, j < m → g j < 2 ^ 31) (hr : ∀ j, j < m → I 100 j = nI (g j)) : Cw l G (d + 1) m9_nextRow [.ref 0, .int (nI m)] (I, J, K) (fun r h' => r = some (.int (bI (nxR m g).1)) ∧ ∃ I', h' = (I', J, K) ∧ (∀ c, c ≠ 100 → I' c = I c) ∧ ∀ j, j < m → I' 100 j = nI ((nxR m g).2 j)) := by
  refine Cw.of ok9_nextRow rfl (rfl : argL _ _ = [.ref 0, .int (nI m), .null, .null, .null, .null]) ?_
  refine e_iload_n rfl rfl ?_
  refine e_iconst (v := nI 4) rfl ic_4N ?_
  refine e_min rfl v9_259 rfl ?_
  rw [show (if nI 4 < nI m then nI 4 else nI m) = nI m by rw [if_neg (fun q => absurd ((nI_ltI (by omega) (by omega)).mp q) (by omega))]]
  refine e_iconst (v := nI 2) rfl ic_2N ?_
  refine e_isub rfl ?_
  refine e_ist2 rfl rfl rfl ?_
  by_cases h0 : m = 0
  · subst h0
    refine e_iload_n rfl rfl ?_
    refine e_if_lt (tgt := 35) rfl rfl (fun _ => ?_) (fun z => absurd (by decide : nI 0 - nI 2 < 0) z)
    refine e_iload_n rfl rfl ?_
    refine e_if_ge (tgt := 41) rfl rfl (fun z => absurd z (by decide)) (fun _ => ?_)
    refine e_iconst (v := nI 0) rfl ic_0N ?_
    refine e_zreturn rfl rfl ?_ ?_
    · exact Or.inl rfl
    · exact ⟨rfl, I, rfl, fun _ _ => rfl, fun j hj => absurd hj (by omega)⟩
  · rw [show nI m - nI 2 = nI (m - 1) - nI 1 by
      obtain ⟨q, rfl⟩ : ∃ q, m = q + 1 := ⟨m - 1, by omega⟩
      rw [Nat.add_sub_cancel, show (nI 2 : Int32) = nI 1 + nI 1 by decide, ← nI_add, Int32.sub_eq_add_neg, Int32.neg_add, Int32.sub_eq_add_neg, ← Int32.sub_eq_add_neg (-nI 1), Int32.sub_eq_add_neg, ← Int32.add_assoc, Int32.add_assoc (nI q), Int32.add_right_neg, Int32.add_zero, ← Int32.sub_eq_add_neg]]
    refine nr_at hG hm hg hr (m - 1) (by omega) (fun I' f r => ?_)
    refine ⟨?_, I', rfl, f, fun j hj => ?_⟩
    · unfold nxR
      by_cases c : nxA g (m - 1) = 0
      · rw [if_pos c, if_pos c]
      · rw [if_neg c, if_neg c]
    · rw [r j hj]
      unfold nxR
      by_cases c : nxA g (m - 1) = 0
      · rw [if_pos c, if_pos c]
      · rw [if_neg c, if_neg c]
theorem swp_lt {g : Nat → Nat} {a b N : Nat} (ha : a < m) (hb : b < m) (hg : ∀ j, j < m → g j < N) : ∀ j, j < m → swp g a b j < N := by
  intro j hj
  unfold swp
  split
  · exact hg a ha
  · split
    · exact hg b hb
    · exact hg j hj
theorem rvF_lt {N : Nat} : ∀ k lo hi (g : Nat → Nat), hi < m → (∀ j, j < m → g j < N) → ∀ j, j < m → rvF k lo hi g j < N
  | 0, _, _, g, _, hg => hg
  | k + 1, lo, hi, g, hh, hg => by
    rw [rvF]
    split
    · exact rvF_lt k (lo + 1) (hi - 1) _ (by omega) (swp_lt (by omega) hh hg)
    · exact hg
theorem nxR_lt {g : Nat → Nat} {N : Nat} (hg : ∀ j, j < m → g j < N) : ∀ j, j < m → (nxR m g).2 j < N := by
  intro j hj
  unfold nxR
  split
  · exact hg j hj
  · next c =>
    have h1 := nxA_le g (m - 1)
    have h2 := nxO_le g (nxA g (m - 1) - 1) (m - 1)
    exact rvF_lt 4 _ _ _ (by omega) (swp_lt (by omega) (by omega) hg) j hj
theorem order_loop (hG : GK K) (hW : wfP P) (hQ : wfQ P) {D : Nat} (eD : S 8 0 = nI D) (hD2 : D ≤ 20000) (hn : P.1 1 = n) (hm : m ≤ 4) {x : Int32} : ∀ k i g mo b I J v6, i + k = 24 → (∀ j, j < m → g j < n) → RP I 33 P → RC I J 62 n S → I 60 2 = bI false → I 60 3 = nI 0 → (∀ j, j < m → I 100 j = nI (g j)) → ((mo = -1 ∧ 0 < k) ∨ ∀ j, j < m → I 101 j = nI (b j)) → (∀ I' J' v5 v6, FQ I J I' J' → (∀ j, j < m → I' 101 j = nI ((orF P n S m k g mo b).2 j)) → ∀ v4, Gw l G (d + 7) m9_order 86 [.ref 0, .int x, .int (nI m), .int (orF P n S m k g mo b).1, v4, v5, v6] [] (I', J', K) Q) → Gw l G (d + 7) m9_order 31 [.ref 0, .int x, .int (nI m), .int mo, .int (bI true), .int (nI i), v6] [] (I, J, K) Q := by
  have hG2 := hG
  obtain ⟨⟨k9, t0, t2, t3, t4, t5, t6, t7, t9, t10, t11, t12⟩, ⟨-, -, -, -, a100, a101⟩, -, -, hP, hD, hS6, hS, -⟩ := hG2
  intro k
  induction k with
  | zero =>
    intro i g mo b I J v6 hi hg hR hC d2 d3 hr hb kk
    obtain rfl : i = 24 := by omega
    refine e_iload rfl rfl ?_
    refine e_bipush (v := nI 24) rfl bp_24N ?_
    first | refine e_icmp_geN (tgt := 86) rfl rfl (by omega) (by omega) (fun z => ?_) (fun z => ?_) | refine e_icmp_ge (tgt := 86) rfl rfl (fun z => ?_) (fun z => ?_)
    · refine kk I J _ _ FQ.rf (hb.elim (fun q => absurd q.2 (by omega)) (fun q => q)) _
    · omega
  | succ k ih =>
    intro i g mo b I J v6 hi hg hR hC d2 d3 hr hb kk
    have hn8 := hC.2.1
    obtain ⟨gq, hgq, egq⟩ := goF_in (n := n) (m := m) (S := S) (g := g) hQ
    have e1 : -1 < goF P n S m g := by rw [egq]; exact Int32.lt_of_lt_of_le (by decide : (-1 : Int32) < 0) (nI_pos' (by omega))
    -- behind gainedInRow: the row goes on
    have tail : ∀ I1 J1 mo' b', FQ I J I1 J1 → I1 60 = I 60 → I1 100 = I 100 → (∀ j, j < m → I1 101 j = nI (b' j)) → mo' = (if mo < goF P n S m g then goF P n S m g else mo) → b' = (if mo < goF P n S m g then g else b) → ∀ v6, Gw l G (d + 7) m9_order 73 [.ref 0, .int x, .int (nI m), .int mo', .int (bI true), .int (nI i), v6] [] (I1, J1, K) Q := by
      intro I1 J1 mo' b' q1 e60 e100 hb' em eb v6
      rw [orF, ← em, ← eb] at kk
      refine e_aload_n rfl rfl ?_
      refine e_iload_n rfl rfl ?_
      refine e_callV (kd := 9) (M2 := m9_nextRow) rfl v9_249 ok9_nextRow (c9_nextRow (d := d + 5) (g := g) hG hm (fun j hj => by have := hg j hj; omega) (by rw [e100]; exact hr)) rfl (by assumption) rfl rfl rfl rfl (fun r1 h1 q1 => ?_)
      obtain ⟨rfl, I2, rfl, f2, r2⟩ := q1
      refine e_ist4 rfl rfl rfl ?_
      have q2 : FQ I J I2 J1 := ⟨fun c b1 b2 b3 b4 b5 => by rw [f2 c (by omega)]; exact q1.1 c b1 b2 b3 b4 b5, q1.2⟩
      have hb2 : ∀ j, j < m → I2 101 j = nI (b' j) := by rw [f2 101 (by omega)]; exact hb'
      by_cases c : (nxR m g).1 = true
      · rw [if_pos c] at kk
        rw [c]
        first | refine e_inc5 rfl rfl rfl (incN1 _) ?_ | refine e_inc5 rfl rfl rfl rfl ?_
        refine e_goto (tgt := 31) rfl rfl ?_
        refine ih (i + 1) _ mo' b' I2 J1 _ (by omega) (nxR_lt hg) (q2.rp hR) (q2.now hC) (by rw [f2 60 (by omega), e60]; exact d2) (by rw [f2 60 (by omega), e60]; exact d3) r2 (Or.inr hb2) (fun I3 J3 v5 v6 q3 => ?_)
        exact kk I3 J3 v5 v6 (q2.tr q3)
      · rw [if_neg c] at kk
        rw [Bool.eq_false_iff.mpr c]
        first | refine e_inc5 rfl rfl rfl (incN1 _) ?_ | refine e_inc5 rfl rfl rfl rfl ?_
        refine e_goto (tgt := 31) rfl rfl ?_
        refine e_iload rfl rfl ?_
        refine e_bipush (v := nI 24) rfl bp_24N ?_
        first | refine e_icmp_geN (tgt := 86) rfl rfl (by omega) (by omega) (fun z => ?_) (fun z => ?_) | refine e_icmp_ge (tgt := 86) rfl rfl (fun z => ?_) (fun z => ?_)
        · exact kk I2 J1 _ _ q2 hb2 _
        · refine e_iload rfl rfl ?_
          refine e_if_eqB (tgt := 86) (p := false) rfl rfl (fun _ => ?_) (fun z => absurd z (by decide))
          exact kk I2 J1 _ _ q2 hb2 _
    refine e_iload rfl rfl ?_
    refine e_bipush (v := nI 24) rfl bp_24N ?_
    first | refine e_icmp_geN (tgt := 86) rfl rfl (by omega) (by omega) (fun z => ?_) (fun z => ?_) | refine e_icmp_ge (tgt := 86) rfl rfl (fun z => ?_) (fun z => ?_)
    · omega
    · refine e_iload rfl rfl ?_
      refine e_if_eqB (tgt := 86) (p := true) rfl rfl (fun z => absurd z (by decide)) (fun _ => ?_)
      refine e_aload_n rfl rfl ?_
      refine e_iload_n rfl rfl ?_
      refine e_callV (kd := 9) (M2 := m9_gainedInRow) rfl v9_240 ok9_gainedInRow (c9_gainedInRow hG hR hW hC eD hD2 hn hm hg hr d2 d3) rfl (by assumption) rfl rfl rfl rfl (fun r1 h1 q1 => ?_)
      obtain ⟨rfl, I1, J1, rfl, q1, e60, e100, e101⟩ := q1
      refine e_ist6 rfl rfl rfl ?_
      refine e_iload rfl rfl ?_
      refine e_iload_n rfl rfl ?_
      first | refine e_icmp_leN (tgt := 73) rfl rfl (by omega) (by omega) (fun z => ?_) (fun z => ?_) | refine e_icmp_le (tgt := 73) rfl rfl (fun z => ?_) (fun z => ?_)
      · have y : goF P n S m g ≤ mo := by assumption
        have ny : ¬ mo < goF P n S m g := Int32.not_lt.mpr y
        refine tail I1 J1 mo b q1 e60 e100 ?_ (by rw [if_neg ny]) (by rw [if_neg ny]) _
        rcases hb with ⟨rfl, -⟩ | hb
        · exact absurd e1 ny
        · rw [e101]; exact hb
      · have y : mo < goF P n S m g := Int32.not_le.mp (by assumption)
        refine e_iload rfl rfl ?_
        refine e_ist3 rfl rfl rfl ?_
        refine e_aload_n rfl rfl ?_
        refine e_getP rfl f9_65 (by assumption) rfl (by assumption) ?_
        refine e_iconst (v := nI 0) rfl ic_0N ?_
        refine e_aload_n rfl rfl ?_
        refine e_getP rfl f9_69 (by assumption) rfl (by assumption) ?_
        refine e_iconst (v := nI 0) rfl ic_0N ?_
        refine e_iconst (v := nI 4) rfl ic_4N ?_
        refine e_copy rfl v9_243 (by assumption) (by assumption) (by decide) (by decide) (by decide) (by decide) (by decide) rfl ?_
        refine tail _ J1 _ g ?_ ?_ ?_ ?_ (by rw [if_pos y]) (by rw [if_pos y]) _
        · exact ⟨fun c b1 b2 b3 b4 b5 => by rw [uR_ne _ _ b5]; exact q1.1 c b1 b2 b3 b4 b5, q1.2⟩
        · rw [uR_ne _ _ (by omega)]; exact e60
        · rw [uR_ne _ _ (by omega)]; exact e100
        · intro j hj
          rw [uR_at, e100]
          have : va_cpy (I 100) (I1 101) (nI 0).toNatClampNeg (nI 0).toNatClampNeg (nI 4).toNatClampNeg j = I 100 j := by
            unfold va_cpy
            rw [nI_clamp (by omega), nI_clamp (by omega), if_pos (by omega)]
            congr 1
            omega
          rw [this]
          exact hr j hj
def a_order (P : Pl) (n : Nat) (S : SM) (x : Int32) : Int32 :=
  if inN 5 x = true then (if x = nI 4 then (orF P n S (fcF S n 0 0 (fun _ => 0)).1 24 (fcF S n 0 0 (fun _ => 0)).2 (-1) (fun _ => 0)).1 else if x < nI (fcF S n 0 0 (fun _ => 0)).1 then nI ((orF P n S (fcF S n 0 0 (fun _ => 0)).1 24 (fcF S n 0 0 (fun _ => 0)).2 (-1) (fun _ => 0)).2 x.toNatClampNeg) else -2) else -1
theorem c9_order (hG : GK K) (hI : CI I J P S im SI m T kn u Hs B) (hV : wfS P S) (hQ : wfQ P) (hn : P.1 1 = n) (x : Int32) : Cw l G (d + 7) m9_order [.ref 0, .int x] (I, J, K) (fun r h' => r = some (.int (a_order P n S x)) ∧ Pst I J K h' P S im SI m T kn u Hs (B + 1)) := by
  have hG2 := hG
  obtain ⟨⟨k9, t0, t2, t3, t4, t5, t6, t7, t9, t10, t11, t12⟩, ⟨-, -, -, -, a100, a101⟩, -, -, hP, hD, hS, hS7, -⟩ := hG2
  have hI2 := hI
  obtain ⟨hR, hW, hC, hHC, hIm, hImg, hRT, U, hRU, hUB⟩ := hI2
  rw [hn] at hC hHC hUB
  have h0 := hD.1
  obtain ⟨D, hD2, eD⟩ := hV.2.2
  have no : ¬ inN 5 x = true → ∀ v2 v3 v4 v5 v6, Gw l G (d + 7) m9_order 9 [.ref 0, .int x, v2, v3, v4, v5, v6] [] (I, J, K) (fun r h' => r = some (.int (a_order P n S x)) ∧ Pst I J K h' P S im SI m T kn u Hs (B + 1)) := by
    intro hno v2 v3 v4 v5 v6
    rw [a_order, if_neg hno]
    refine e_iconst rfl ic_m1 ?_
    refine e_ireturn rfl rfl ?_
    exact ⟨rfl, I, J, rfl, FX.rf, hI.mono (by omega)⟩
  refine Cw.of ok9_order rfl (rfl : argL _ _ = [.ref 0, .int x, .null, .null, .null, .null, .null]) ?_
  refine e_iload_n rfl rfl ?_
  first | refine e_if_ltN (tgt := 9) rfl rfl (by omega) ?_ | refine e_if_lt (tgt := 9) rfl rfl (fun z => ?_) (fun z => ?_)
  · have y : x < 0 := by assumption
    exact no (fun q => (inN_lo (k := 4) (by omega) q).1 y) _ _ _ _ _
  · have y0 : ¬ x < 0 := by assumption
    refine e_iload_n rfl rfl ?_
    refine e_iconst (v := nI 4) rfl ic_4N ?_
    first | refine e_icmp_leN (tgt := 11) rfl rfl (by omega) (by omega) (fun z => ?_) (fun z => ?_) | refine e_icmp_le (tgt := 11) rfl rfl (fun z => ?_) (fun z => ?_)
    · have y1 : x ≤ nI 4 := by assumption
      have hx : inN 5 x = true := inN_hi (k := 4) (by omega) y0 y1
      obtain ⟨f1, f2, f3⟩ := fcF_in (S := S) (n := n) n 0 0 (fun _ => 0) (by omega) (by omega) (fun j hj => absurd hj (by omega)) (fun a b h1 h2 => absurd h2 (by omega))
      rw [a_order, if_pos hx]
      refine e_aload_n rfl rfl ?_
      refine e_callV (kd := 9) (M2 := m9_firstClosed) rfl v9_236 ok9_firstClosed (c9_firstClosed (d := d + 4) hG hC) rfl (by assumption) rfl rfl rfl rfl (fun r1 h1 q1 => ?_)
      obtain ⟨rfl, I1, rfl, g1, r1⟩ := q1
      refine e_ist2 rfl rfl rfl ?_
      refine e_iconst rfl ic_m1 ?_
      refine e_ist3 rfl rfl rfl ?_
      refine e_iconst (v := nI 1) rfl ic_1N ?_
      refine e_ist4 rfl rfl rfl ?_
      refine e_aload_n rfl rfl ?_
      refine e_getP rfl f9_34 (by assumption) rfl (by assumption) ?_
      refine e_callV (kd := 0) (M2 := m0_asItGoes) rfl v9_216 ok0_asItGoes (c0_asItGoes h0) rfl (by assumption) rfl rfl rfl rfl (fun r1 h1 q1 => ?_)
      obtain ⟨rfl, rfl⟩ := q1
      refine e_iconst (v := nI 0) rfl ic_0N ?_
      refine e_ist5 rfl rfl rfl ?_
      have q1 : FQ I J (u2 (u2 I1 60 2 (nI 0)) 60 3 (nI 0)) J := ⟨fun c b1 b2 b3 b4 b5 => by rw [u2_row _ _ b1, u2_row _ _ b1]; exact g1 c b4, fun _ _ _ => rfl⟩
      obtain ⟨i, hi, rfl⟩ := inN_of (by omega) hx
      refine order_loop hG hW hQ eD hD2 hn f1 24 0 _ (-1) (fun _ => 0) _ _ _ (by omega) f2 (q1.rp hR) (q1.now hC) (by rw [u2_nk _ _ (by omega), u2_at]; rfl) (by rw [u2_at]) (by rw [u2_row _ _ (by omega), u2_row _ _ (by omega)]; exact r1) (Or.inl ⟨rfl, by omega⟩) (fun I2 J2 v5 v6 f q v4 => ?_)
      have q2 := q1.tr f
      have fin : Pst I J K (I2, J2, K) P S im SI m T kn u Hs (B + 1) := ⟨I2, J2, rfl, q2.fx, (hI.frame q2).mono (by omega)⟩
      refine e_iload_n rfl rfl ?_
      refine e_iconst (v := nI 4) rfl ic_4N ?_
      first | refine e_icmp_neN (tgt := 93) rfl rfl (by omega) (by omega) (fun z => ?_) (fun z => ?_) | refine e_icmp_ne (tgt := 93) rfl rfl (fun z => ?_) (fun z => ?_)
      · have y4 : i ≠ 4 := by assumption
        rw [if_neg (ne42 y4 (by omega) (by omega))]
        refine e_iload_n rfl rfl ?_
        refine e_iload_n rfl rfl ?_
        first | refine e_icmp_geN (tgt := 107) rfl rfl (by omega) (by omega) (fun z => ?_) (fun z => ?_) | refine e_icmp_ge (tgt := 107) rfl rfl (fun z => ?_) (fun z => ?_)
        · rw [if_neg (fun q => absurd ((nI_ltI (by omega) (by omega)).mp q) (by omega))]
          refine e_bipush rfl bp_m2 ?_
          refine e_ireturn rfl rfl ?_
          exact ⟨rfl, fin⟩
        · have y5 := z
          rw [if_pos ((nI_ltI (by omega) (by omega)).mpr y5), nI_clamp (by omega)]
          refine e_aload_n rfl rfl ?_
          refine e_getP rfl f9_69 (by assumption) rfl (by assumption) ?_
          refine e_iload_n rfl rfl ?_
          first | refine e_ialoadN rfl (by assumption) (by omega) (by omega) ?_ | (refine e_iaload rfl (by assumption) ?_ ?_; rotate_left)
          rw [q i y5]
          refine e_goto (tgt := 109) rfl rfl ?_
          refine e_ireturn rfl rfl ?_
          exact ⟨rfl, fin⟩
      · have y4 : i = 4 := by assumption
        rw [if_pos (by rw [y4])]
        refine e_iload_n rfl rfl ?_
        refine e_ireturn rfl rfl ?_
        exact ⟨rfl, fin⟩
    · exact no (fun q => absurd (inN_lo (k := 4) (by omega) q).2 (by assumption)) _ _ _ _ _
end MOrd2
