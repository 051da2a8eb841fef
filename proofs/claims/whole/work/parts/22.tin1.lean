/-! ===== TinNation: its cells, what it stands for ===== -/
def isScan (K : Kt) : Prop := (K.2.1 30).1 = 5 ∧ K.1 30 0 = some 31 ∧ K.2.1 31 = (20, 21)
/-- the class's cells and how they hang together -/
def GK (K : Kt) : Prop := ((K.2.1 0).1 = 9 ∧ K.1 0 0 = some 1 ∧ K.1 0 2 = some 2 ∧ K.1 0 3 = some 33 ∧ K.1 0 4 = some 60 ∧ K.1 0 5 = some 62 ∧ K.1 0 6 = some 70 ∧ K.1 0 7 = some 78 ∧ K.1 0 9 = some 86 ∧ K.1 0 10 = some 93 ∧ K.1 0 11 = some 100 ∧ K.1 0 12 = some 101) ∧
  (K.2.1 1 = (21, 700) ∧ (K.2.1 2).1 = 2 ∧ K.1 2 0 = some 3 ∧ K.1 2 1 = some 30 ∧ K.2.1 100 = (20, 4) ∧ K.2.1 101 = (20, 4)) ∧ isScan K ∧ isPlan K 3 ∧ isPlan K 33 ∧ isDays K 60 33 ∧ isState K 62 ∧ isState K 70 ∧ isState K 78 ∧ isTold K 86 ∧ isSteps K 93
theorem GK.hd62 {K : Kt} (h : GK K) : HD K 60 33 62 := ⟨h.2.2.2.2.2.1, h.2.2.2.2.1, h.2.2.2.2.2.2.1, by omega, by omega⟩
theorem GK.hd70 {K : Kt} (h : GK K) : HD K 60 33 70 := ⟨h.2.2.2.2.2.1, h.2.2.2.2.1, h.2.2.2.2.2.2.2.1, by omega, by omega⟩
/-- the class stands for: plan P, state S, image SI (where there is one), m told T known by kn, u steps U; heights up to B -/
def CI (I : IM) (J : JM) (P : Pl) (S : SM) (im : Bool) (SI : SM) (m : Nat) (T : SM) (kn : Int32) (u : Nat) (U : SM) (B : Nat) : Prop :=
  RP I 33 P ∧ wfP P ∧ RC I J 62 (P.1 1) S ∧ HC I 62 (P.1 1) B ∧ I 0 8 = bI im ∧ (im = true → RC I J 78 (P.1 1) SI ∧ HC I 78 (P.1 1) B) ∧ RT I 86 m T kn ∧ RU I 93 u U
/-- of what a question may change: days' own, names, the pile, the trial, the rows -/
def FQ (I : IM) (J : JM) (I' : IM) (J' : JM) : Prop := (∀ c, c ≠ 60 → c ≠ 61 → (c < 70 ∨ 77 < c) → c ≠ 100 → c ≠ 101 → I' c = I c) ∧ ∀ c, c ≠ 59 → c ≠ 70 → J' c = J c
theorem RT.frame {I I' : IM} {b m : Nat} {T : SM} {kn : Int32} (h : RT I b m T kn) (hf : ∀ c, b ≤ c → c ≤ b + 6 → I' c = I c) : RT I' b m T kn := by
  obtain ⟨h1, h2, h3, h4, h5⟩ := h
  refine ⟨?_, ?_, h3, fun j hj i hi => ?_, ?_⟩
  · rw [hf _ (by omega) (by omega)]; exact h1
  · rw [hf _ (by omega) (by omega)]; exact h2
  · rw [hf _ (by omega) (by omega)]; exact h4 j hj i hi
  · rw [hf _ (by omega) (by omega)]; exact h5
theorem RU.frame {I I' : IM} {b m : Nat} {U : SM} (h : RU I b m U) (hf : ∀ c, b ≤ c → c ≤ b + 6 → I' c = I c) : RU I' b m U := by
  obtain ⟨h1, h2, h3, h4⟩ := h
  refine ⟨?_, ?_, h3, fun j hj i hi => ?_⟩
  · rw [hf _ (by omega) (by omega)]; exact h1
  · rw [hf _ (by omega) (by omega)]; exact h2
  · rw [hf _ (by omega) (by omega)]; exact h4 j hj i hi
theorem HC.frame {I I' : IM} {s n B : Nat} (h : HC I s n B) (h3 : I' (s + 3) = I (s + 3)) (h4 : I' (s + 4) = I (s + 4)) : HC I' s n B := by
  unfold HC
  rw [h3, h4]
  exact h
theorem CI.frame {I : IM} {J : JM} {P : Pl} {S : SM} {im : Bool} {SI : SM} {m : Nat} {T : SM} {kn : Int32} {u : Nat} {U : SM} {B : Nat} {I' : IM} {J' : JM} (h : CI I J P S im SI m T kn u U B) (hf : FQ I J I' J') : CI I' J' P S im SI m T kn u U B := by
  obtain ⟨h1, h2, h3, h4, h5, h6, h7, h8⟩ := h
  obtain ⟨f, g⟩ := hf
  refine ⟨h1.frame (fun c a b => f c (by omega) (by omega) (by omega) (by omega) (by omega)), h2, h3.frame (fun c a b => f c (by omega) (by omega) (by omega) (by omega) (by omega)) (by rw [g 62 (by omega) (by omega)]), h4.frame (f _ (by omega) (by omega) (by omega) (by omega) (by omega)) (f _ (by omega) (by omega) (by omega) (by omega) (by omega)), by rw [f 0 (by omega) (by omega) (by omega) (by omega) (by omega)]; exact h5, fun hi => ?_, h7.frame (fun c a b => f c (by omega) (by omega) (by omega) (by omega) (by omega)), h8.frame (fun c a b => f c (by omega) (by omega) (by omega) (by omega) (by omega))⟩
  obtain ⟨a1, a2⟩ := h6 hi
  exact ⟨a1.frame (fun c a b => f c (by omega) (by omega) (by omega) (by omega) (by omega)) (by rw [g 78 (by omega) (by omega)]), a2.frame (f _ (by omega) (by omega) (by omega) (by omega) (by omega)) (f _ (by omega) (by omega) (by omega) (by omega) (by omega))⟩
/-- bits of those of k from i on that are so -/
def bitF (f : Nat → Bool) : Nat → Nat → Int32 → Int32
  | _, 0, v => v
  | i, k + 1, v => bitF f (i + 1) k (if f i = true then v ||| nI 1 <<< (nI i &&& 31) else v)
section MTin1
variable {l : Launch} {G : GG} {d : Nat} {I : IM} {J : JM} {K : Kt} {Q : Option Value → Hp → Prop} {P : Pl} {S : SM} {im : Bool} {SI : SM} {m : Nat} {T : SM} {kn : Int32} {u : Nat} {U : SM} {B n : Nat}
theorem rAt_P {a s j : Nat} {t : Int32} {f : Nat → Int32} (hs : s < 2 ^ 31) (h : ∀ i, i < s → I (a + 2 + j) i = f i) : rAt I a s j t = if inN s t = true then f t.toNatClampNeg else 0 := by
  unfold rAt
  by_cases c : inN s t = true
  · obtain ⟨i, hi, rfl⟩ := inN_of hs c
    rw [if_pos c, if_pos (of_decide_eq_true c), nI_clamp (by omega), h i hi]
  · rw [if_neg c, if_neg (fun q => c (decide_eq_true q))]
theorem c9_named (hG : GK K) (hR : RP I 33 P) (w x : Int32) : Cp l G (d + 2) m9_named [.ref 0, .int w, .int x] (I, J, K) (.int (if w = nI 0 then fnd (I 36) x (P.1 0) 0 else if w = nI 1 then fnd (I 41) x (P.1 1) 0 else -1)) := by
  obtain ⟨⟨k9, t0, t2, t3, t4, t5, t6, t7, t9, t10, t11, t12⟩, -, -, -, hP, -⟩ := hG
  obtain ⟨h3, q0, q1, q2, q3, q4, r1, r2, r3, r4, r5⟩ := hP
  have g1 := r1.1
  have g2 := r2.1
  refine Cp.of ok9_named rfl (rfl : argL _ _ = [.ref 0, .int w, .int x]) ?_
  refine e_iload_n rfl rfl ?_
  refine sw9_named_1 (fun z => ?_) (fun z => ?_) (fun z0 z1 => ?_)
  · refine e_aload_n rfl rfl ?_
    refine e_getP rfl f9_25 (by assumption) rfl (by assumption) ?_
    refine e_getP rfl f9_108 (by assumption) rfl (by assumption) ?_
    refine e_iload_n rfl rfl ?_
    refine e_callVp (kd := 4) (M2 := m4_rowOf) rfl v9_112 ok4_rowOf (c4_rowOf r1 hR.2.1.1 hR.2.1.2 x) rfl (by assumption) rfl rfl rfl rfl ?_
    refine e_ireturn rfl rfl ?_
    rw [if_pos z]
    exact ⟨rfl, rfl⟩
  · refine e_aload_n rfl rfl ?_
    refine e_getP rfl f9_25 (by assumption) rfl (by assumption) ?_
    refine e_getP rfl f9_118 (by assumption) rfl (by assumption) ?_
    refine e_iload_n rfl rfl ?_
    refine e_callVp (kd := 4) (M2 := m4_rowOf) rfl v9_112 ok4_rowOf (c4_rowOf r2 hR.2.2.1.1 hR.2.2.1.2 x) rfl (by assumption) rfl rfl rfl rfl ?_
    refine e_ireturn rfl rfl ?_
    rw [if_neg (by rw [z]; decide), if_pos z]
    exact ⟨rfl, rfl⟩
  · refine e_iconst rfl ic_m1 ?_
    refine e_ireturn rfl rfl ?_
    rw [if_neg z0, if_neg z1]
    exact ⟨rfl, rfl⟩
theorem c9_fault (hG : GK K) (w : Int32) : Cp l G d m9_fault [.ref 0, .int w] (I, J, K) (.int (if w = nI 0 then I 2 3 else if w = nI 1 then I 2 4 else -1)) := by
  obtain ⟨⟨k9, t0, t2, t3, t4, t5, t6, t7, t9, t10, t11, t12⟩, ⟨-, k2, -⟩, -⟩ := hG
  refine Cp.of ok9_fault rfl (rfl : argL _ _ = [.ref 0, .int w]) ?_
  refine e_iload_n rfl rfl ?_
  refine sw9_fault_1 (fun z => ?_) (fun z => ?_) (fun z0 z1 => ?_)
  · refine e_aload_n rfl rfl ?_
    refine e_getP rfl f9_18 (by assumption) rfl (by assumption) ?_
    refine e_getI rfl f9_87 (by assumption) rfl ?_
    refine e_ireturn rfl rfl ?_
    rw [if_pos z]
    exact ⟨rfl, rfl⟩
  · refine e_aload_n rfl rfl ?_
    refine e_getP rfl f9_18 (by assumption) rfl (by assumption) ?_
    refine e_getI rfl f9_105 (by assumption) rfl ?_
    refine e_ireturn rfl rfl ?_
    rw [if_neg (by rw [z]; decide), if_pos z]
    exact ⟨rfl, rfl⟩
  · refine e_iconst rfl ic_m1 ?_
    refine e_ireturn rfl rfl ?_
    rw [if_neg z0, if_neg z1]
    exact ⟨rfl, rfl⟩
theorem tinsOf_loop (hG : GK K) (hR : RP I 33 P) (hC : RC I J 62 n S) (hn : P.1 1 = n) (kd st : Int32) : ∀ k i v, i + k = n → Q (some (.int (bitF (fun t => decide (S 0 t = st) && decide (P.2 4 t = kd)) i k v))) (I, J, K) → Gw l G (d + 2) m9_tinsOf 5 [.ref 0, .int kd, .int st, .int v, .int (nI i)] [] (I, J, K) Q := by
  obtain ⟨⟨k9, t0, t2, t3, t4, t5, t6, t7, t9, t10, t11, t12⟩, -, -, -, hP, -, hS, -⟩ := hG
  obtain ⟨h3, q0, q1, q2, q3, q4, r1, r2, r3, r4, r5⟩ := hP
  have g2 := r2.1
  obtain ⟨h6, p0, p1, p2, p3, p4, p5, p6, a1, a2, a3, a4, a5, a6, a7⟩ := hS
  have hn7 := hC.1
  have hn8 := hC.2.1
  have z2 : I (33 + 6) 2 = nI n := by rw [← hn]; exact hR.2.2.1.1
  intro k
  induction k with
  | zero =>
    intro i v hi hq
    refine e_iload rfl rfl ?_
    refine e_aload_n rfl rfl ?_
    refine e_getP rfl f9_41 (by assumption) rfl (by assumption) ?_
    refine e_getI rfl f9_160 (by assumption) rfl ?_
    rw [hn7]
    first | refine e_icmp_geN (tgt := 61) rfl rfl (by omega) (by omega) (fun z => ?_) (fun z => ?_) | refine e_icmp_ge (tgt := 61) rfl rfl (fun z => ?_) (fun z => ?_)
    · refine e_iload_n rfl rfl ?_
      refine e_ireturn rfl rfl ?_
      exact hq
    · omega
  | succ k ih =>
    intro i v hi hq
    have e0 : I (62 + 1) i = S 0 i := (hC.2.2.1 i (by omega)).1
    have e4 : I (33 + 6 + 2 + 1) i = P.2 4 i := hR.2.2.2.2.2.2.1 1 (by omega) i (by omega)
    rw [bitF] at hq
    refine e_iload rfl rfl ?_
    refine e_aload_n rfl rfl ?_
    refine e_getP rfl f9_41 (by assumption) rfl (by assumption) ?_
    refine e_getI rfl f9_160 (by assumption) rfl ?_
    rw [hn7]
    first | refine e_icmp_geN (tgt := 61) rfl rfl (by omega) (by omega) (fun z => ?_) (fun z => ?_) | refine e_icmp_ge (tgt := 61) rfl rfl (fun z => ?_) (fun z => ?_)
    · omega
    · refine e_aload_n rfl rfl ?_
      refine e_getP rfl f9_41 (by assumption) rfl (by assumption) ?_
      refine e_getP rfl f9_142 (by assumption) rfl (by assumption) ?_
      refine e_iload rfl rfl ?_
      first | refine e_ialoadN rfl (by assumption) (by omega) (by omega) ?_ | (refine e_iaload rfl (by assumption) ?_ ?_; rotate_left)
      rw [e0]
      refine e_iload_n rfl rfl ?_
      first | refine e_icmp_neN (tgt := 55) rfl rfl (by omega) (by omega) (fun z => ?_) (fun z => ?_) | refine e_icmp_ne (tgt := 55) rfl rfl (fun z => ?_) (fun z => ?_)
      · rw [decide_eq_false (p := S 0 i = st) (by assumption), Bool.false_and] at hq
        first | refine e_inc4 rfl rfl rfl (incN1 _) ?_ | refine e_inc4 rfl rfl rfl rfl ?_
        refine e_goto (tgt := 5) rfl rfl ?_
        exact ih (i + 1) v (by omega) hq
      · rw [decide_eq_true (p := S 0 i = st) (by assumption), Bool.true_and] at hq
        refine e_aload_n rfl rfl ?_
        refine e_getP rfl f9_25 (by assumption) rfl (by assumption) ?_
        refine e_getP rfl f9_118 (by assumption) rfl (by assumption) ?_
        refine e_iload rfl rfl ?_
        refine e_iconst (v := nI 1) rfl ic_1N ?_
        refine e_callVp (kd := 4) (M2 := m4_at) rfl v9_132 ok4_at (c4_at r2 z2 hn8 (by omega) _) rfl (by assumption) rfl rfl rfl rfl ?_
        rw [rAt_nI (by omega) (by omega), e4]
        refine e_iload_n rfl rfl ?_
        first | refine e_icmp_neN (tgt := 55) rfl rfl (by omega) (by omega) (fun z => ?_) (fun z => ?_) | refine e_icmp_ne (tgt := 55) rfl rfl (fun z => ?_) (fun z => ?_)
        · rw [decide_eq_false (by assumption)] at hq
          first | refine e_inc4 rfl rfl rfl (incN1 _) ?_ | refine e_inc4 rfl rfl rfl rfl ?_
          refine e_goto (tgt := 5) rfl rfl ?_
          exact ih (i + 1) v (by omega) hq
        · rw [decide_eq_true (by assumption)] at hq
          refine e_iload_n rfl rfl ?_
          refine e_iconst (v := nI 1) rfl ic_1N ?_
          refine e_iload rfl rfl ?_
          refine e_ishl rfl ?_
          refine e_ior rfl ?_
          refine e_ist3 rfl rfl rfl ?_
          first | refine e_inc4 rfl rfl rfl (incN1 _) ?_ | refine e_inc4 rfl rfl rfl rfl ?_
          refine e_goto (tgt := 5) rfl rfl ?_
          exact ih (i + 1) _ (by omega) hq
/-- TINS (bits) of a KIND that are so -/
def tinsB (P : Pl) (S : SM) (n : Nat) (kd st : Int32) : Int32 := bitF (fun t => decide (S 0 t = st) && decide (P.2 4 t = kd)) 0 n (nI 0)
theorem c9_tinsOf (hG : GK K) (hR : RP I 33 P) (hC : RC I J 62 n S) (hn : P.1 1 = n) (kd st : Int32) : Cp l G (d + 2) m9_tinsOf [.ref 0, .int kd, .int st] (I, J, K) (.int (tinsB P S n kd st)) := by
  refine Cp.of ok9_tinsOf rfl (rfl : argL _ _ = [.ref 0, .int kd, .int st, .null, .null]) ?_
  refine e_iconst (v := nI 0) rfl ic_0N ?_
  refine e_ist3 rfl rfl rfl ?_
  refine e_iconst (v := nI 0) rfl ic_0N ?_
  refine e_ist4 rfl rfl rfl ?_
  exact tinsOf_loop hG hR hC hn kd st n 0 _ (by omega) ⟨rfl, rfl⟩
/-- the answer of kind() -/
def a_kind (P : Pl) (S : SM) (n : Nat) (k w : Int32) : Int32 := if inN (P.1 0) k = true then (if w = nI 0 then P.2 1 k.toNatClampNeg else if w = nI 1 then P.2 2 k.toNatClampNeg else if w = nI 2 then tinsB P S n k 0 else if w = nI 3 then tinsB P S n k (nI 1) else -1) else -1
theorem c4_hasN {a s : Nat} (h4 : (K.2.1 a).1 = 4) (hz : I a 2 = nI s) (t : Int32) : Cp l G d m4_has [.ref a, .int t] (I, J, K) (.int (bI (inN s t))) := by
  have h := c4_has (l := l) (G := G) (d := d) (I := I) (J := J) h4 t
  rw [hz] at h
  exact h
theorem c9_kind (hG : GK K) (hR : RP I 33 P) (hC : RC I J 62 n S) (hn : P.1 1 = n) (k w : Int32) : Cp l G (d + 3) m9_kind [.ref 0, .int k, .int w] (I, J, K) (.int (a_kind P S n k w)) := by
  have hG2 := hG
  obtain ⟨⟨k9, t0, t2, t3, t4, t5, t6, t7, t9, t10, t11, t12⟩, -, -, -, hP, -, hS, -⟩ := hG2
  obtain ⟨h3, q0, q1, q2, q3, q4, r1, r2, r3, r4, r5⟩ := hP
  have g1 := r1.1
  have b1 := hR.2.1.2
  refine Cp.of ok9_kind rfl (rfl : argL _ _ = [.ref 0, .int k, .int w]) ?_
  refine e_aload_n rfl rfl ?_
  refine e_getP rfl f9_25 (by assumption) rfl (by assumption) ?_
  refine e_getP rfl f9_108 (by assumption) rfl (by assumption) ?_
  refine e_iload_n rfl rfl ?_
  refine e_callVp (kd := 4) (M2 := m4_has) rfl v9_156 ok4_has (c4_hasN g1 hR.2.1.1 k) rfl (by assumption) rfl rfl rfl rfl ?_
  first | refine e_if_neB (tgt := 16) rfl rfl (fun z => ?_) (fun z => ?_) | refine e_if_neN (tgt := 16) rfl rfl (by omega) (fun z => ?_) (fun z => ?_) | refine e_if_ne (tgt := 16) rfl rfl (fun z => ?_) (fun z => ?_)
  · have hin : inN (P.1 0) k = true := by assumption
    rw [a_kind, if_pos hin]
    refine e_iload_n rfl rfl ?_
    refine sw9_kind_17 (fun z => ?_) (fun z => ?_) (fun z => ?_) (fun z => ?_) (fun z0 z1 z2 z3 => ?_)
    · refine e_aload_n rfl rfl ?_
      refine e_getP rfl f9_25 (by assumption) rfl (by assumption) ?_
      refine e_getP rfl f9_108 (by assumption) rfl (by assumption) ?_
      refine e_iload_n rfl rfl ?_
      refine e_iconst (v := nI 1) rfl ic_1N ?_
      refine e_callVp (kd := 4) (M2 := m4_at) rfl v9_132 ok4_at (c4_at r1 hR.2.1.1 b1 (by omega) _) rfl (by assumption) rfl rfl rfl rfl ?_
      refine e_ireturn rfl rfl ?_
      rw [rAt_P (f := P.2 1) (by omega) (fun i hi => hR.2.2.2.2.2.1 1 (by omega) i hi), if_pos hin, if_pos z]
      exact ⟨rfl, rfl⟩
    · refine e_aload_n rfl rfl ?_
      refine e_getP rfl f9_25 (by assumption) rfl (by assumption) ?_
      refine e_getP rfl f9_108 (by assumption) rfl (by assumption) ?_
      refine e_iload_n rfl rfl ?_
      refine e_iconst (v := nI 2) rfl ic_2N ?_
      refine e_callVp (kd := 4) (M2 := m4_at) rfl v9_132 ok4_at (c4_at r1 hR.2.1.1 b1 (by omega) _) rfl (by assumption) rfl rfl rfl rfl ?_
      refine e_ireturn rfl rfl ?_
      rw [rAt_P (f := P.2 2) (by omega) (fun i hi => hR.2.2.2.2.2.1 2 (by omega) i hi), if_pos hin, if_neg (by rw [z]; decide), if_pos z]
      exact ⟨rfl, rfl⟩
    · refine e_aload_n rfl rfl ?_
      refine e_iload_n rfl rfl ?_
      refine e_iconst (v := nI 0) rfl ic_0N ?_
      refine e_callVp (kd := 9) (M2 := m9_tinsOf) rfl v9_157 ok9_tinsOf (c9_tinsOf hG hR hC hn _ _) rfl (by assumption) rfl rfl rfl rfl ?_
      refine e_ireturn rfl rfl ?_
      rw [if_neg (by rw [z]; decide), if_neg (by rw [z]; decide), if_pos z]
      exact ⟨rfl, rfl⟩
    · refine e_aload_n rfl rfl ?_
      refine e_iload_n rfl rfl ?_
      refine e_iconst (v := nI 1) rfl ic_1N ?_
      refine e_callVp (kd := 9) (M2 := m9_tinsOf) rfl v9_157 ok9_tinsOf (c9_tinsOf hG hR hC hn _ _) rfl (by assumption) rfl rfl rfl rfl ?_
      refine e_ireturn rfl rfl ?_
      rw [if_neg (by rw [z]; decide), if_neg (by rw [z]; decide), if_neg (by rw [z]; decide), if_pos z]
      exact ⟨rfl, rfl⟩
    · refine e_iconst rfl ic_m1 ?_
      refine e_ireturn rfl rfl ?_
      rw [if_neg z0, if_neg z1, if_neg z2, if_neg z3]
      exact ⟨rfl, rfl⟩
  · refine e_iconst rfl ic_m1 ?_
    refine e_ireturn rfl rfl ?_
    rw [a_kind, if_neg (by rw [z]; decide)]
    exact ⟨rfl, rfl⟩
/-- the answer of want() -/
def a_want (P : Pl) (S : SM) (k w : Int32) : Int32 := if inN (P.1 3) k = true then (if w = nI 0 then P.2 10 k.toNatClampNeg else if w = nI 1 then P.2 11 k.toNatClampNeg else if w = nI 2 then P.2 12 k.toNatClampNeg else if w = nI 3 then S 6 k.toNatClampNeg else -1) else -1
theorem c9_want (hG : GK K) (hR : RP I 33 P) (hC : RC I J 62 n S) (k w : Int32) : Cp l G (d + 3) m9_want [.ref 0, .int k, .int w] (I, J, K) (.int (a_want P S k w)) := by
  have hG2 := hG
  obtain ⟨⟨k9, t0, t2, t3, t4, t5, t6, t7, t9, t10, t11, t12⟩, -, -, -, hP, -, hS, -⟩ := hG2
  obtain ⟨h3, q0, q1, q2, q3, q4, r1, r2, r3, r4, r5⟩ := hP
  obtain ⟨h6, p0, p1, p2, p3, p4, p5, p6, a1, a2, a3, a4, a5, a6, a7⟩ := hS
  have g4 := r4.1
  have z4 := hR.2.2.2.2.1.1
  have b4 := hR.2.2.2.2.1.2
  refine Cp.of ok9_want rfl (rfl : argL _ _ = [.ref 0, .int k, .int w]) ?_
  refine e_aload_n rfl rfl ?_
  refine e_getP rfl f9_25 (by assumption) rfl (by assumption) ?_
  refine e_getP rfl f9_162 (by assumption) rfl (by assumption) ?_
  refine e_iload_n rfl rfl ?_
  refine e_callVp (kd := 4) (M2 := m4_has) rfl v9_156 ok4_has (c4_hasN g4 z4 k) rfl (by assumption) rfl rfl rfl rfl ?_
  first | refine e_if_neB (tgt := 16) rfl rfl (fun z => ?_) (fun z => ?_) | refine e_if_neN (tgt := 16) rfl rfl (by omega) (fun z => ?_) (fun z => ?_) | refine e_if_ne (tgt := 16) rfl rfl (fun z => ?_) (fun z => ?_)
  · have hin : inN (P.1 3) k = true := by assumption
    rw [a_want, if_pos hin]
    refine e_iload_n rfl rfl ?_
    refine sw9_want_17 (fun z => ?_) (fun z => ?_) (fun z => ?_) (fun z => ?_) (fun z0 z1 z2 z3 => ?_)
    · refine e_aload_n rfl rfl ?_
      refine e_getP rfl f9_25 (by assumption) rfl (by assumption) ?_
      refine e_getP rfl f9_162 (by assumption) rfl (by assumption) ?_
      refine e_iload_n rfl rfl ?_
      refine e_iconst (v := nI 0) rfl ic_0N ?_
      refine e_callVp (kd := 4) (M2 := m4_at) rfl v9_132 ok4_at (c4_at r4 z4 b4 (by omega) _) rfl (by assumption) rfl rfl rfl rfl ?_
      refine e_ireturn rfl rfl ?_
      rw [rAt_P (f := P.2 10) (by omega) (fun i hi => hR.2.2.2.2.2.2.2.2.1 0 (by omega) i hi), if_pos hin, if_pos z]
      exact ⟨rfl, rfl⟩
    · refine e_aload_n rfl rfl ?_
      refine e_getP rfl f9_25 (by assumption) rfl (by assumption) ?_
      refine e_getP rfl f9_162 (by assumption) rfl (by assumption) ?_
      refine e_iload_n rfl rfl ?_
      refine e_iconst (v := nI 1) rfl ic_1N ?_
      refine e_callVp (kd := 4) (M2 := m4_at) rfl v9_132 ok4_at (c4_at r4 z4 b4 (by omega) _) rfl (by assumption) rfl rfl rfl rfl ?_
      refine e_ireturn rfl rfl ?_
      rw [rAt_P (f := P.2 11) (by omega) (fun i hi => hR.2.2.2.2.2.2.2.2.1 1 (by omega) i hi), if_pos hin, if_neg (by rw [z]; decide), if_pos z]
      exact ⟨rfl, rfl⟩
    · refine e_aload_n rfl rfl ?_
      refine e_getP rfl f9_25 (by assumption) rfl (by assumption) ?_
      refine e_getP rfl f9_162 (by assumption) rfl (by assumption) ?_
      refine e_iload_n rfl rfl ?_
      refine e_iconst (v := nI 2) rfl ic_2N ?_
      refine e_callVp (kd := 4) (M2 := m4_at) rfl v9_132 ok4_at (c4_at r4 z4 b4 (by omega) _) rfl (by assumption) rfl rfl rfl rfl ?_
      refine e_ireturn rfl rfl ?_
      rw [rAt_P (f := P.2 12) (by omega) (fun i hi => hR.2.2.2.2.2.2.2.2.1 2 (by omega) i hi), if_pos hin, if_neg (by rw [z]; decide), if_neg (by rw [z]; decide), if_pos z]
      exact ⟨rfl, rfl⟩
    · have zw := z
      obtain ⟨j, hj, rfl⟩ := inN_of (by omega) hin
      have e6 : I (62 + 7) j = S 6 j := hC.2.2.2.2.1 j (by omega)
      refine e_aload_n rfl rfl ?_
      refine e_getP rfl f9_41 (by assumption) rfl (by assumption) ?_
      refine e_getP rfl f9_165 (by assumption) rfl (by assumption) ?_
      refine e_iload_n rfl rfl ?_
      first | refine e_ialoadN rfl (by assumption) (by omega) (by omega) ?_ | (refine e_iaload rfl (by assumption) ?_ ?_; rotate_left)
      refine e_ireturn rfl rfl ?_
      rw [e6, if_neg (by rw [zw]; decide), if_neg (by rw [zw]; decide), if_neg (by rw [zw]; decide), if_pos zw, nI_clamp (by omega)]
      exact ⟨rfl, rfl⟩
    · refine e_iconst rfl ic_m1 ?_
      refine e_ireturn rfl rfl ?_
      rw [if_neg z0, if_neg z1, if_neg z2, if_neg z3]
      exact ⟨rfl, rfl⟩
  · refine e_iconst rfl ic_m1 ?_
    refine e_ireturn rfl rfl ?_
    rw [a_want, if_neg (by rw [z]; decide)]
    exact ⟨rfl, rfl⟩
end MTin1
