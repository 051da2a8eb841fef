/-! ===== tidy, whole ===== -/
def anF (f : Nat → Bool) : Nat → Nat → Bool
  | 0, _ => false
  | k + 1, i => if f i = true then true else anF f k (i + 1)
/-- does one that keeps longer lie above t -/
def blw (P : Pl) (S : SM) (n t : Nat) : Bool := anF (fun o => abS S t o && decide (P.2 6 t < P.2 6 o)) n 0
def inS (S : SM) (x : Int32) (t : Nat) : Bool := decide (S 0 t = 0) && decide (S 2 t = x)
/-- how many are taken out, if the least that stays keeps so long -/
def toF (P : Pl) (S : SM) (n : Nat) (x le : Int32) : Nat → Nat → Nat → Nat
  | 0, _, c => c
  | k + 1, i, c => if inS S x i = true then (if le < P.2 6 i ∧ blw P S n i = true then 8 else if P.2 6 i < le ∨ blw P S n i = true then toF P S n x le k (i + 1) (c + 1) else toF P S n x le k (i + 1) c) else toF P S n x le k (i + 1) c
def tdF (P : Pl) (S : SM) (n : Nat) (x : Int32) : Nat → Nat → Nat → Nat → Nat
  | 0, _, f, m => if m < f then m else f
  | k + 1, i, f, m => if inS S x i = true then tdF P S n x k (i + 1) (if toF P S n x (P.2 6 i) n 0 0 < f then toF P S n x (P.2 6 i) n 0 0 else f) (m + 1) else tdF P S n x k (i + 1) f m
theorem toF_le {P : Pl} {S : SM} {n : Nat} {x le : Int32} : ∀ k i c, c + k ≤ 8 → toF P S n x le k i c ≤ 8
  | 0, _, c, h => h
  | k + 1, i, c, h => by
    rw [toF]
    split
    · split
      · omega
      · split
        · exact toF_le k (i + 1) (c + 1) (by omega)
        · exact toF_le k (i + 1) c (by omega)
    · exact toF_le k (i + 1) c (by omega)
section MTin8
variable {l : Launch} {G : GG} {d : Nat} {I : IM} {J : JM} {K : Kt} {h : Hp} {Q : Option Value → Hp → Prop} {P : Pl} {S : SM} {im : Bool} {SI : SM} {m : Nat} {T : SM} {kn : Int32} {u : Nat} {Hs : Nat → SM} {B n : Nat}
theorem RC.mat {s : Nat} (hC : RC I J s n S) {t o : Nat} (ht : t < n) (ho : o < n) : S (100 + t) o = 1 ↔ I (s + 3) o = I (s + 3) t ∧ I (s + 4) t < I (s + 4) o := by
  rw [hC.2.2.2.1 t ht o ho, bI]
  by_cases c : I (s + 3) o = I (s + 3) t ∧ I (s + 4) t < I (s + 4) o
  · rw [if_pos (decide_eq_true c)]; exact ⟨fun _ => c, fun _ => rfl⟩
  · rw [if_neg (by rw [decide_eq_false c]; decide)]; exact ⟨fun q => absurd q (by decide), fun q => absurd q c⟩
theorem below_loop (hG : GK K) (hR : RP I 33 P) (hC : RC I J 62 n S) (hn : P.1 1 = n) {t : Nat} (ht : t < n) : ∀ k i v, i + k = n → Q (some (.int (bI (anF (fun o => abS S t o && decide (P.2 6 t < P.2 6 o)) k i)))) (I, J, K) → Gw l G (d + 2) m9_isBelowLonger 14 [.ref 0, .int (nI t), .ref 44, .int (nI i), v] [] (I, J, K) Q := by
  have hG2 := hG
  obtain ⟨⟨k9, t0, t2, t3, t4, t5, t6, t7, t9, t10, t11, t12⟩, -, -, -, hP, hD, hS, hS7, -, hT8, -⟩ := hG2
  have r2 := hP.2.2.2.2.2.2.2.1
  have a44 : K.2.1 44 = (20, 8) := r2.2.2.2.2.1 3 (by omega)
  have hS2 := hS
  obtain ⟨h6, p0, p1, p2, p3, p4, p5, p6, a1, a2, a3, a4, a5, a6, a7⟩ := hS2
  have hn7 := hC.1
  have hn8 := hC.2.1
  have e6 : ∀ i, i < n → I 44 i = P.2 6 i := fun i hi => hR.2.2.2.2.2.2.1 3 (by omega) i (by omega)
  intro k
  induction k with
  | zero =>
    intro i v hi hq
    refine e_iload_n rfl rfl ?_
    refine e_aload_n rfl rfl ?_
    refine e_getP rfl f9_41 (by assumption) rfl (by assumption) ?_
    refine e_getI rfl f9_160 (by assumption) rfl ?_
    rw [hn7]
    first | refine e_icmp_geN (tgt := 118) rfl rfl (by omega) (by omega) (fun z => ?_) (fun z => ?_) | refine e_icmp_ge (tgt := 118) rfl rfl (fun z => ?_) (fun z => ?_)
    · refine e_iconst (v := nI 0) rfl ic_0N ?_
      refine e_zreturn rfl rfl ?_ ?_
      · exact Or.inl rfl
      · exact hq
    · omega
  | succ k ih =>
    intro i v hi hq
    rw [anF] at hq
    have e0 : I (62 + 1) i = S 0 i := (hC.2.2.1 i (by omega)).1
    have hm := hC.mat ht (by omega : i < n)
    have next : ∀ v, (abS S t i && decide (P.2 6 t < P.2 6 i)) = false → Gw l G (d + 2) m9_isBelowLonger 112 [.ref 0, .int (nI t), .ref 44, .int (nI i), v] [] (I, J, K) Q := by
      intro v hno
      rw [if_neg (by rw [hno]; decide)] at hq
      first | refine e_inc3 rfl rfl rfl (incN1 _) ?_ | refine e_inc3 rfl rfl rfl rfl ?_
      refine e_goto (tgt := 14) rfl rfl ?_
      exact ih (i + 1) _ (by omega) hq
    have none : ¬ S (100 + t) i = 1 → (abS S t i && decide (P.2 6 t < P.2 6 i)) = false := fun q => by rw [abS, decide_eq_false q, Bool.and_false, Bool.false_and]
    refine e_iload_n rfl rfl ?_
    refine e_aload_n rfl rfl ?_
    refine e_getP rfl f9_41 (by assumption) rfl (by assumption) ?_
    refine e_getI rfl f9_160 (by assumption) rfl ?_
    rw [hn7]
    first | refine e_icmp_geN (tgt := 118) rfl rfl (by omega) (by omega) (fun z => ?_) (fun z => ?_) | refine e_icmp_ge (tgt := 118) rfl rfl (fun z => ?_) (fun z => ?_)
    · omega
    · refine e_aload_n rfl rfl ?_
      refine e_getP rfl f9_41 (by assumption) rfl (by assumption) ?_
      refine e_iload_n rfl rfl ?_
      refine e_callVp (kd := 6) (M2 := m6_has) rfl v9_121 ok6_has (c6_has h6 hn7 (nI t)) rfl (by assumption) rfl rfl rfl rfl ?_
      rw [inN_nI (by omega) (by omega), decide_eq_true ht]
      refine e_if_eqB (tgt := 118) (p := true) rfl rfl (fun z => absurd z (by decide)) (fun _ => ?_)
      refine e_aload_n rfl rfl ?_
      refine e_getP rfl f9_41 (by assumption) rfl (by assumption) ?_
      refine e_getP rfl f9_139 (by assumption) rfl (by assumption) ?_
      refine e_iload_n rfl rfl ?_
      first | refine e_ialoadN rfl (by assumption) (by omega) (by omega) ?_ | (refine e_iaload rfl (by assumption) ?_ ?_; rotate_left)
      refine e_aload_n rfl rfl ?_
      refine e_getP rfl f9_41 (by assumption) rfl (by assumption) ?_
      refine e_getP rfl f9_139 (by assumption) rfl (by assumption) ?_
      refine e_iload_n rfl rfl ?_
      first | refine e_ialoadN rfl (by assumption) (by omega) (by omega) ?_ | (refine e_iaload rfl (by assumption) ?_ ?_; rotate_left)
      first | refine e_icmp_neN (tgt := 82) rfl rfl (by omega) (by omega) (fun z => ?_) (fun z => ?_) | refine e_icmp_ne (tgt := 82) rfl rfl (fun z => ?_) (fun z => ?_)
      · have y := z
        refine e_iconst (v := nI 0) rfl ic_0N ?_
        refine e_ist4 rfl rfl rfl ?_
        refine e_iload rfl rfl ?_
        refine e_if_eqN (tgt := 112) (x := 0) rfl rfl (by omega) (fun _ => ?_) (fun z => absurd rfl z)
        exact next _ (none (fun q => y (hm.mp q).1))
      · have y1 := z
        refine e_aload_n rfl rfl ?_
        refine e_getP rfl f9_41 (by assumption) rfl (by assumption) ?_
        refine e_getP rfl f9_197 (by assumption) rfl (by assumption) ?_
        refine e_iload_n rfl rfl ?_
        first | refine e_ialoadN rfl (by assumption) (by omega) (by omega) ?_ | (refine e_iaload rfl (by assumption) ?_ ?_; rotate_left)
        refine e_aload_n rfl rfl ?_
        refine e_getP rfl f9_41 (by assumption) rfl (by assumption) ?_
        refine e_getP rfl f9_197 (by assumption) rfl (by assumption) ?_
        refine e_iload_n rfl rfl ?_
        first | refine e_ialoadN rfl (by assumption) (by omega) (by omega) ?_ | (refine e_iaload rfl (by assumption) ?_ ?_; rotate_left)
        first | refine e_icmp_leN (tgt := 82) rfl rfl (by omega) (by omega) (fun z => ?_) (fun z => ?_) | refine e_icmp_le (tgt := 82) rfl rfl (fun z => ?_) (fun z => ?_)
        · have y2 := z
          refine e_iconst (v := nI 0) rfl ic_0N ?_
          refine e_ist4 rfl rfl rfl ?_
          refine e_iload rfl rfl ?_
          refine e_if_eqN (tgt := 112) (x := 0) rfl rfl (by omega) (fun _ => ?_) (fun z => absurd rfl z)
          exact next _ (none (fun q => absurd (hm.mp q).2 (Int32.not_lt.mpr y2)))
        · have y2 := Int32.not_le.mp z
          have hm1 : S (100 + t) i = 1 := hm.mpr ⟨y1, y2⟩
          refine e_iconst (v := nI 1) rfl ic_1N ?_
          refine e_goto (tgt := 83) rfl rfl ?_
          refine e_ist4 rfl rfl rfl ?_
          refine e_iload rfl rfl ?_
          refine e_if_eqN (tgt := 112) (x := 1) rfl rfl (by omega) (fun z => absurd z (by omega)) (fun _ => ?_)
          refine e_aload_n rfl rfl ?_
          refine e_getP rfl f9_41 (by assumption) rfl (by assumption) ?_
          refine e_iload_n rfl rfl ?_
          refine e_callVp (kd := 6) (M2 := m6_isClosed) rfl v9_203 ok6_isClosed (c6_isClosed hS hn7 hn8 (nI i)) rfl (by assumption) rfl rfl rfl rfl ?_
          first | refine e_if_eqB (tgt := 112) rfl rfl (fun z => ?_) (fun z => ?_) | refine e_if_eqN (tgt := 112) rfl rfl (by omega) (fun z => ?_) (fun z => ?_) | refine e_if_eq (tgt := 112) rfl rfl (fun z => ?_) (fun z => ?_)
          · rw [inN_nI (by omega) (by omega), decide_eq_true (by omega), Bool.true_and, nI_clamp (by omega), e0] at z
            exact next _ (by rw [abS, z, Bool.false_and, Bool.false_and])
          · rw [inN_nI (by omega) (by omega), decide_eq_true (by omega), Bool.true_and, nI_clamp (by omega), e0] at z
            have zc := z
            refine e_aload_n rfl rfl ?_
            refine e_iload_n rfl rfl ?_
            first | refine e_ialoadN rfl (by assumption) (by omega) (by omega) ?_ | (refine e_iaload rfl (by assumption) ?_ ?_; rotate_left)
            refine e_aload_n rfl rfl ?_
            refine e_iload_n rfl rfl ?_
            first | refine e_ialoadN rfl (by assumption) (by omega) (by omega) ?_ | (refine e_iaload rfl (by assumption) ?_ ?_; rotate_left)
            rw [e6 i (by omega), e6 t ht]
            first | refine e_icmp_leN (tgt := 112) rfl rfl (by omega) (by omega) (fun z => ?_) (fun z => ?_) | refine e_icmp_le (tgt := 112) rfl rfl (fun z => ?_) (fun z => ?_)
            · exact next _ (by rw [decide_eq_false (Int32.not_lt.mpr z), Bool.and_false])
            · rw [if_pos (by rw [abS, zc, decide_eq_true hm1, decide_eq_true (Int32.not_le.mp z)]; rfl)] at hq
              refine e_iconst (v := nI 1) rfl ic_1N ?_
              refine e_zreturn rfl rfl ?_ ?_
              · exact Or.inr rfl
              · exact hq
theorem c9_isBelowLonger (hG : GK K) (hR : RP I 33 P) (hC : RC I J 62 n S) (hn : P.1 1 = n) {t : Nat} (ht : t < n) : Cp l G (d + 2) m9_isBelowLonger [.ref 0, .int (nI t)] (I, J, K) (.int (bI (blw P S n t))) := by
  have hG2 := hG
  obtain ⟨⟨k9, t0, t2, t3, t4, t5, t6, t7, t9, t10, t11, t12⟩, -, -, -, hP, hD, hS, hS7, -, hT8, -⟩ := hG2
  obtain ⟨h3, q0, q1, q2, q3, q4, r1, r2, r3, r4, r5⟩ := hP
  have g2 := r2.1
  refine Cp.of ok9_isBelowLonger rfl (rfl : argL _ _ = [.ref 0, .int (nI t), .null, .null, .null]) ?_
  refine e_aload_n rfl rfl ?_
  refine e_getP rfl f9_25 (by assumption) rfl (by assumption) ?_
  refine e_getP rfl f9_118 (by assumption) rfl (by assumption) ?_
  refine e_iconst (v := nI 3) rfl ic_3N ?_
  refine e_callVp (kd := 4) (M2 := m4_column) rfl v9_277 ok4_column (c4_column r2 (by omega)) rfl (by assumption) rfl rfl rfl rfl ?_
  refine e_ast2 rfl rfl rfl ?_
  refine e_iconst (v := nI 0) rfl ic_0N ?_
  refine e_ist3 rfl rfl rfl ?_
  exact below_loop hG hR hC hn ht n 0 _ (by omega) ⟨rfl, rfl⟩
theorem taken_loop (hG : GK K) (hR : RP I 33 P) (hC : RC I J 62 n S) (hn : P.1 1 = n) {x le : Int32} : ∀ k i c v, i + k = n → c ≤ i → Q (some (.int (nI (toF P S n x le k i c)))) (I, J, K) → Gw l G (d + 3) m9_takenOut 5 [.ref 0, .int x, .int le, .int (nI c), .int (nI i), v] [] (I, J, K) Q := by
  have hG2 := hG
  obtain ⟨⟨k9, t0, t2, t3, t4, t5, t6, t7, t9, t10, t11, t12⟩, -, -, -, hP, hD, hS, hS7, -, hT8, -⟩ := hG2
  obtain ⟨h3, q0, q1, q2, q3, q4, r1, r2, r3, r4, r5⟩ := hP
  have g2 := r2.1
  have hS2 := hS
  obtain ⟨h6, p0, p1, p2, p3, p4, p5, p6, a1, a2, a3, a4, a5, a6, a7⟩ := hS2
  have hn7 := hC.1
  have hn8 := hC.2.1
  have z2 : I (33 + 6) 2 = nI n := by rw [← hn]; exact hR.2.2.1.1
  intro k
  induction k with
  | zero =>
    intro i c v hi hc hq
    refine e_iload rfl rfl ?_
    refine e_aload_n rfl rfl ?_
    refine e_getP rfl f9_41 (by assumption) rfl (by assumption) ?_
    refine e_getI rfl f9_160 (by assumption) rfl ?_
    rw [hn7]
    first | refine e_icmp_geN (tgt := 100) rfl rfl (by omega) (by omega) (fun z => ?_) (fun z => ?_) | refine e_icmp_ge (tgt := 100) rfl rfl (fun z => ?_) (fun z => ?_)
    · refine e_iload_n rfl rfl ?_
      refine e_ireturn rfl rfl ?_
      exact hq
    · omega
  | succ k ih =>
    intro i c v hi hc hq
    rw [toF] at hq
    have e0 : I (62 + 1) i = S 0 i := (hC.2.2.1 i (by omega)).1
    have e2 : I (62 + 3) i = S 2 i := (hC.2.2.1 i (by omega)).2.2.1
    have e6 : rAt I (33 + 6) n 3 (nI i) = P.2 6 i := (rAt_nI (by omega) (by omega)).trans (hR.2.2.2.2.2.2.1 3 (by omega) i (by omega))
    have skip : inS S x i = false → Gw l G (d + 3) m9_takenOut 94 [.ref 0, .int x, .int le, .int (nI c), .int (nI i), v] [] (I, J, K) Q := by
      intro hno
      rw [if_neg (by rw [hno]; decide)] at hq
      first | refine e_inc4 rfl rfl rfl (incN1 _) ?_ | refine e_inc4 rfl rfl rfl rfl ?_
      refine e_goto (tgt := 5) rfl rfl ?_
      exact ih (i + 1) c _ (by omega) (by omega) hq
    refine e_iload rfl rfl ?_
    refine e_aload_n rfl rfl ?_
    refine e_getP rfl f9_41 (by assumption) rfl (by assumption) ?_
    refine e_getI rfl f9_160 (by assumption) rfl ?_
    rw [hn7]
    first | refine e_icmp_geN (tgt := 100) rfl rfl (by omega) (by omega) (fun z => ?_) (fun z => ?_) | refine e_icmp_ge (tgt := 100) rfl rfl (fun z => ?_) (fun z => ?_)
    · omega
    · refine e_aload_n rfl rfl ?_
      refine e_getP rfl f9_41 (by assumption) rfl (by assumption) ?_
      refine e_iload rfl rfl ?_
      refine e_callVp (kd := 6) (M2 := m6_isClosed) rfl v9_203 ok6_isClosed (c6_isClosed hS hn7 hn8 (nI i)) rfl (by assumption) rfl rfl rfl rfl ?_
      first | refine e_if_eqB (tgt := 94) rfl rfl (fun z => ?_) (fun z => ?_) | refine e_if_eqN (tgt := 94) rfl rfl (by omega) (fun z => ?_) (fun z => ?_) | refine e_if_eq (tgt := 94) rfl rfl (fun z => ?_) (fun z => ?_)
      · rw [inN_nI (by omega) (by omega), decide_eq_true (by omega), Bool.true_and, nI_clamp (by omega), e0] at z
        exact skip (by rw [inS, z, Bool.false_and])
      · rw [inN_nI (by omega) (by omega), decide_eq_true (by omega), Bool.true_and, nI_clamp (by omega), e0] at z
        have zc := z
        refine e_aload_n rfl rfl ?_
        refine e_getP rfl f9_41 (by assumption) rfl (by assumption) ?_
        refine e_getP rfl f9_139 (by assumption) rfl (by assumption) ?_
        refine e_iload rfl rfl ?_
        first | refine e_ialoadN rfl (by assumption) (by omega) (by omega) ?_ | (refine e_iaload rfl (by assumption) ?_ ?_; rotate_left)
        rw [e2]
        refine e_iload_n rfl rfl ?_
        first | refine e_icmp_neN (tgt := 94) rfl rfl (by omega) (by omega) (fun z => ?_) (fun z => ?_) | refine e_icmp_ne (tgt := 94) rfl rfl (fun z => ?_) (fun z => ?_)
        · exact skip (by rw [inS, decide_eq_false z, Bool.and_false])
        · rw [if_pos (by rw [inS, zc, decide_eq_true z]; rfl)] at hq
          refine e_aload_n rfl rfl ?_
          refine e_getP rfl f9_25 (by assumption) rfl (by assumption) ?_
          refine e_getP rfl f9_118 (by assumption) rfl (by assumption) ?_
          refine e_iload rfl rfl ?_
          refine e_iconst (v := nI 3) rfl ic_3N ?_
          refine e_callVp (kd := 4) (M2 := m4_at) rfl v9_132 ok4_at (c4_at r2 z2 hn8 (by omega) _) rfl (by assumption) rfl rfl rfl rfl ?_
          rw [e6]
          have more : ∀ b : Bool, blw P S n i = b → ¬ (le < P.2 6 i ∧ b = true) → Gw l G (d + 3) m9_takenOut 76 [.ref 0, .int x, .int le, .int (nI c), .int (nI i), .int (P.2 6 i)] [] (I, J, K) Q := by
            intro b hb hno
            rw [hb, if_neg hno] at hq
            refine e_iload rfl rfl ?_
            refine e_iload_n rfl rfl ?_
            first | refine e_icmp_ltN (tgt := 91) rfl rfl (by omega) (by omega) (fun z => ?_) (fun z => ?_) | refine e_icmp_lt (tgt := 91) rfl rfl (fun z => ?_) (fun z => ?_)
            · rw [if_pos (Or.inl z)] at hq
              first | refine e_inc3 rfl rfl rfl (incN1 _) ?_ | refine e_inc3 rfl rfl rfl rfl ?_
              first | refine e_inc4 rfl rfl rfl (incN1 _) ?_ | refine e_inc4 rfl rfl rfl rfl ?_
              refine e_goto (tgt := 5) rfl rfl ?_
              exact ih (i + 1) (c + 1) _ (by omega) (by omega) hq
            · have y := z
              refine e_aload_n rfl rfl ?_
              refine e_iload rfl rfl ?_
              refine e_callVp (kd := 9) (M2 := m9_isBelowLonger) rfl v9_274 ok9_isBelowLonger (c9_isBelowLonger hG hR hC hn (by omega)) rfl (by assumption) rfl rfl rfl rfl ?_
              first | refine e_if_eqB (tgt := 94) rfl rfl (fun z => ?_) (fun z => ?_) | refine e_if_eqN (tgt := 94) rfl rfl (by omega) (fun z => ?_) (fun z => ?_) | refine e_if_eq (tgt := 94) rfl rfl (fun z => ?_) (fun z => ?_)
              · rw [if_neg (fun q => q.elim y (fun q => absurd (hb.symm.trans z) (by rw [q]; decide)))] at hq
                first | refine e_inc4 rfl rfl rfl (incN1 _) ?_ | refine e_inc4 rfl rfl rfl rfl ?_
                refine e_goto (tgt := 5) rfl rfl ?_
                exact ih (i + 1) c _ (by omega) (by omega) hq
              · rw [if_pos (Or.inr (hb.symm.trans z))] at hq
                first | refine e_inc3 rfl rfl rfl (incN1 _) ?_ | refine e_inc3 rfl rfl rfl rfl ?_
                first | refine e_inc4 rfl rfl rfl (incN1 _) ?_ | refine e_inc4 rfl rfl rfl rfl ?_
                refine e_goto (tgt := 5) rfl rfl ?_
                exact ih (i + 1) (c + 1) _ (by omega) (by omega) hq
          refine e_ist5 rfl rfl rfl ?_
          refine e_iload rfl rfl ?_
          refine e_iload_n rfl rfl ?_
          first | refine e_icmp_leN (tgt := 76) rfl rfl (by omega) (by omega) (fun z => ?_) (fun z => ?_) | refine e_icmp_le (tgt := 76) rfl rfl (fun z => ?_) (fun z => ?_)
          · exact more _ rfl (fun q => absurd q.1 (Int32.not_lt.mpr z))
          · have y := Int32.not_le.mp z
            refine e_aload_n rfl rfl ?_
            refine e_iload rfl rfl ?_
            refine e_callVp (kd := 9) (M2 := m9_isBelowLonger) rfl v9_274 ok9_isBelowLonger (c9_isBelowLonger hG hR hC hn (by omega)) rfl (by assumption) rfl rfl rfl rfl ?_
            first | refine e_if_eqB (tgt := 76) rfl rfl (fun z => ?_) (fun z => ?_) | refine e_if_eqN (tgt := 76) rfl rfl (by omega) (fun z => ?_) (fun z => ?_) | refine e_if_eq (tgt := 76) rfl rfl (fun z => ?_) (fun z => ?_)
            · exact more _ z (fun q => absurd q.2 (by decide))
            · rw [if_pos ⟨y, z⟩] at hq
              refine e_bipush (v := nI 8) rfl bp_8N ?_
              refine e_ireturn rfl rfl ?_
              exact hq
theorem c9_takenOut (hG : GK K) (hR : RP I 33 P) (hC : RC I J 62 n S) (hn : P.1 1 = n) (x le : Int32) : Cp l G (d + 3) m9_takenOut [.ref 0, .int x, .int le] (I, J, K) (.int (nI (toF P S n x le n 0 0))) := by
  refine Cp.of ok9_takenOut rfl (rfl : argL _ _ = [.ref 0, .int x, .int le, .null, .null, .null]) ?_
  refine e_iconst (v := nI 0) rfl ic_0N ?_
  refine e_ist3 rfl rfl rfl ?_
  refine e_iconst (v := nI 0) rfl ic_0N ?_
  refine e_ist4 rfl rfl rfl ?_
  exact taken_loop hG hR hC hn n 0 0 _ (by omega) (by omega) ⟨rfl, rfl⟩
theorem tidy_loop (hG : GK K) (hR : RP I 33 P) (hC : RC I J 62 n S) (hn : P.1 1 = n) {x : Int32} : ∀ k i f c, i + k = n → c ≤ i → f ≤ 8 → Q (some (.int (nI (tdF P S n x k i f c)))) (I, J, K) → Gw l G (d + 4) m9_tidy 19 [.ref 0, .int x, .int (nI f), .int (nI c), .int (nI i)] [] (I, J, K) Q := by
  have hG2 := hG
  obtain ⟨⟨k9, t0, t2, t3, t4, t5, t6, t7, t9, t10, t11, t12⟩, -, -, -, hP, hD, hS, hS7, -, hT8, -⟩ := hG2
  obtain ⟨h3, q0, q1, q2, q3, q4, r1, r2, r3, r4, r5⟩ := hP
  have g2 := r2.1
  have hS2 := hS
  obtain ⟨h6, p0, p1, p2, p3, p4, p5, p6, a1, a2, a3, a4, a5, a6, a7⟩ := hS2
  have hn7 := hC.1
  have hn8 := hC.2.1
  have z2 : I (33 + 6) 2 = nI n := by rw [← hn]; exact hR.2.2.1.1
  intro k
  induction k with
  | zero =>
    intro i f c hi hc hf hq
    rw [tdF] at hq
    refine e_iload rfl rfl ?_
    refine e_aload_n rfl rfl ?_
    refine e_getP rfl f9_41 (by assumption) rfl (by assumption) ?_
    refine e_getI rfl f9_160 (by assumption) rfl ?_
    rw [hn7]
    first | refine e_icmp_geN (tgt := 89) rfl rfl (by omega) (by omega) (fun z => ?_) (fun z => ?_) | refine e_icmp_ge (tgt := 89) rfl rfl (fun z => ?_) (fun z => ?_)
    · refine e_iload_n rfl rfl ?_
      refine e_iload_n rfl rfl ?_
      refine e_min rfl v9_259 rfl ?_
      refine e_ireturn rfl rfl ?_
      by_cases q : c < f
      · rw [if_pos ((nI_ltI (by omega) (by omega)).mpr q)]
        rw [if_pos q] at hq
        exact hq
      · rw [if_neg (fun z => q ((nI_ltI (by omega) (by omega)).mp z))]
        rw [if_neg q] at hq
        exact hq
    · omega
  | succ k ih =>
    intro i f c hi hc hf hq
    rw [tdF] at hq
    have e0 : I (62 + 1) i = S 0 i := (hC.2.2.1 i (by omega)).1
    have e2 : I (62 + 3) i = S 2 i := (hC.2.2.1 i (by omega)).2.2.1
    have e6 : rAt I (33 + 6) n 3 (nI i) = P.2 6 i := (rAt_nI (by omega) (by omega)).trans (hR.2.2.2.2.2.2.1 3 (by omega) i (by omega))
    have t8 := toF_le (P := P) (S := S) (n := n) (x := x) (le := P.2 6 i) n 0 0 (by omega)
    have skip : inS S x i = false → Gw l G (d + 4) m9_tidy 83 [.ref 0, .int x, .int (nI f), .int (nI c), .int (nI i)] [] (I, J, K) Q := by
      intro hno
      rw [if_neg (by rw [hno]; decide)] at hq
      first | refine e_inc4 rfl rfl rfl (incN1 _) ?_ | refine e_inc4 rfl rfl rfl rfl ?_
      refine e_goto (tgt := 19) rfl rfl ?_
      exact ih (i + 1) f c (by omega) (by omega) hf hq
    refine e_iload rfl rfl ?_
    refine e_aload_n rfl rfl ?_
    refine e_getP rfl f9_41 (by assumption) rfl (by assumption) ?_
    refine e_getI rfl f9_160 (by assumption) rfl ?_
    rw [hn7]
    first | refine e_icmp_geN (tgt := 89) rfl rfl (by omega) (by omega) (fun z => ?_) (fun z => ?_) | refine e_icmp_ge (tgt := 89) rfl rfl (fun z => ?_) (fun z => ?_)
    · omega
    · refine e_aload_n rfl rfl ?_
      refine e_getP rfl f9_41 (by assumption) rfl (by assumption) ?_
      refine e_iload rfl rfl ?_
      refine e_callVp (kd := 6) (M2 := m6_isClosed) rfl v9_203 ok6_isClosed (c6_isClosed hS hn7 hn8 (nI i)) rfl (by assumption) rfl rfl rfl rfl ?_
      first | refine e_if_eqB (tgt := 83) rfl rfl (fun z => ?_) (fun z => ?_) | refine e_if_eqN (tgt := 83) rfl rfl (by omega) (fun z => ?_) (fun z => ?_) | refine e_if_eq (tgt := 83) rfl rfl (fun z => ?_) (fun z => ?_)
      · rw [inN_nI (by omega) (by omega), decide_eq_true (by omega), Bool.true_and, nI_clamp (by omega), e0] at z
        exact skip (by rw [inS, z, Bool.false_and])
      · rw [inN_nI (by omega) (by omega), decide_eq_true (by omega), Bool.true_and, nI_clamp (by omega), e0] at z
        have zc := z
        refine e_aload_n rfl rfl ?_
        refine e_getP rfl f9_41 (by assumption) rfl (by assumption) ?_
        refine e_getP rfl f9_139 (by assumption) rfl (by assumption) ?_
        refine e_iload rfl rfl ?_
        first | refine e_ialoadN rfl (by assumption) (by omega) (by omega) ?_ | (refine e_iaload rfl (by assumption) ?_ ?_; rotate_left)
        rw [e2]
        refine e_iload_n rfl rfl ?_
        first | refine e_icmp_neN (tgt := 83) rfl rfl (by omega) (by omega) (fun z => ?_) (fun z => ?_) | refine e_icmp_ne (tgt := 83) rfl rfl (fun z => ?_) (fun z => ?_)
        · exact skip (by rw [inS, decide_eq_false z, Bool.and_false])
        · rw [if_pos (by rw [inS, zc, decide_eq_true z]; rfl)] at hq
          refine e_iload_n rfl rfl ?_
          refine e_aload_n rfl rfl ?_
          refine e_iload_n rfl rfl ?_
          refine e_aload_n rfl rfl ?_
          refine e_getP rfl f9_25 (by assumption) rfl (by assumption) ?_
          refine e_getP rfl f9_118 (by assumption) rfl (by assumption) ?_
          refine e_iload rfl rfl ?_
          refine e_iconst (v := nI 3) rfl ic_3N ?_
          refine e_callVp (kd := 4) (M2 := m4_at) rfl v9_132 ok4_at (c4_at r2 z2 hn8 (by omega) _) rfl (by assumption) rfl rfl rfl rfl ?_
          rw [e6]
          refine e_callVp (kd := 9) (M2 := m9_takenOut) rfl v9_271 ok9_takenOut (c9_takenOut hG hR hC hn _ _) rfl (by assumption) rfl rfl rfl rfl ?_
          refine e_min rfl v9_259 rfl ?_
          by_cases q : toF P S n x (P.2 6 i) n 0 0 < f
          · rw [if_pos ((nI_ltI (by omega) (by omega)).mpr q)]
            rw [if_pos q] at hq
            refine e_ist2 rfl rfl rfl ?_
            first | refine e_inc3 rfl rfl rfl (incN1 _) ?_ | refine e_inc3 rfl rfl rfl rfl ?_
            first | refine e_inc4 rfl rfl rfl (incN1 _) ?_ | refine e_inc4 rfl rfl rfl rfl ?_
            refine e_goto (tgt := 19) rfl rfl ?_
            exact ih (i + 1) _ (c + 1) (by omega) (by omega) t8 hq
          · rw [if_neg (fun z => q ((nI_ltI (by omega) (by omega)).mp z))]
            rw [if_neg q] at hq
            refine e_ist2 rfl rfl rfl ?_
            first | refine e_inc3 rfl rfl rfl (incN1 _) ?_ | refine e_inc3 rfl rfl rfl rfl ?_
            first | refine e_inc4 rfl rfl rfl (incN1 _) ?_ | refine e_inc4 rfl rfl rfl rfl ?_
            refine e_goto (tgt := 19) rfl rfl ?_
            exact ih (i + 1) _ (c + 1) (by omega) (by omega) hf hq
def a_tidy (P : Pl) (S : SM) (n : Nat) (x : Int32) : Int32 := if inN 4 x = true then nI (tdF P S n x n 0 8 0) else -1
theorem c9_tidy (hG : GK K) (hR : RP I 33 P) (hC : RC I J 62 n S) (hn : P.1 1 = n) (x : Int32) : Cp l G (d + 4) m9_tidy [.ref 0, .int x] (I, J, K) (.int (a_tidy P S n x)) := by
  refine Cp.of ok9_tidy rfl (rfl : argL _ _ = [.ref 0, .int x, .null, .null, .null]) ?_
  refine e_iload_n rfl rfl ?_
  first | refine e_if_ltN (tgt := 9) rfl rfl (by omega) ?_ | refine e_if_lt (tgt := 9) rfl rfl (fun z => ?_) (fun z => ?_)
  · refine e_iconst rfl ic_m1 ?_
    refine e_ireturn rfl rfl ?_
    rw [a_tidy, if_neg (fun q : inN 4 x = true => absurd z (Int32.not_lt.mpr (of_decide_eq_true q).1))]
    exact ⟨rfl, rfl⟩
  · have y0 : ¬ x < 0 := by assumption
    refine e_iload_n rfl rfl ?_
    refine e_iconst (v := nI 4) rfl ic_4N ?_
    first | refine e_icmp_ltN (tgt := 11) rfl rfl (by omega) (by omega) (fun z => ?_) (fun z => ?_) | refine e_icmp_lt (tgt := 11) rfl rfl (fun z => ?_) (fun z => ?_)
    · have y1 : x < nI 4 := by assumption
      refine e_bipush (v := nI 8) rfl bp_8N ?_
      refine e_ist2 rfl rfl rfl ?_
      refine e_iconst (v := nI 0) rfl ic_0N ?_
      refine e_ist3 rfl rfl rfl ?_
      refine e_iconst (v := nI 0) rfl ic_0N ?_
      refine e_ist4 rfl rfl rfl ?_
      rw [a_tidy, if_pos (show inN 4 x = true from decide_eq_true ⟨Int32.not_lt.mp y0, y1⟩)]
      exact tidy_loop hG hR hC hn n 0 8 0 (by omega) (by omega) (by omega) ⟨rfl, rfl⟩
    · refine e_iconst rfl ic_m1 ?_
      refine e_ireturn rfl rfl ?_
      rw [a_tidy, if_neg (fun q : inN 4 x = true => absurd (of_decide_eq_true q).2 (by assumption))]
      exact ⟨rfl, rfl⟩
end MTin8
