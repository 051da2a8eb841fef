/-! ===== ask, unmet, rests, rest ===== -/
/-- what one has of a share -/
def hasF (o p fr : Nat) : Int32 := if o = 4 then (if o + p ≤ fr then nI o else nI 0) - nI 1 else (if o + p ≤ fr then nI o else nI 0)
def rsF (a b fr : Nat) : Nat → Nat → Bool
  | 0, _ => true
  | k + 1, i => if hasF a b fr < hasF i b fr ∨ hasF b a fr < hasF i a fr then false else rsF a b fr k (i + 1)
def isRst (fr a b : Nat) : Bool := rsF a b fr 5 0
def rcF (fr : Nat) : Nat → Nat → Nat → Nat
  | 0, _, c => c
  | k + 1, i, c => rcF fr k (i + 1) (if isRst fr (i / 5) (i % 5) = true then c + 1 else c)
def rkF (fr : Nat) (x : Int32) : Nat → Nat → Nat → Int32
  | 0, _, _ => -2
  | k + 1, i, c => if isRst fr (i / 5) (i % 5) = true then (if nI c = x then nI (10 * (i / 5) + i % 5) else rkF fr x k (i + 1) (c + 1)) else rkF fr x k (i + 1) c
section MTin7
variable {l : Launch} {G : GG} {d : Nat} {I : IM} {J : JM} {K : Kt} {h : Hp} {Q : Option Value → Hp → Prop} {P : Pl} {S : SM} {im : Bool} {SI : SM} {m : Nat} {T : SM} {kn : Int32} {u : Nat} {Hs : Nat → SM} {B n : Nat}
def a_ask (P : Pl) (m : Nat) (T : SM) (kn x : Int32) : Int32 := if inN 2 x = true then nI (if x = nI 0 then (akF (wrs P (kdF P m T kn)) 98 2 (wrs P (kdF P m T kn) 1) 1).2 else (akF (wrs P (kdF P m T kn)) 98 2 (wrs P (kdF P m T kn) 1) 1).1) else -1
theorem c9_ask (hG : GK K) (hR : RP I 33 P) (hRT : RT I 86 m T kn) (hwT : wfT n m T kn) (x : Int32) : Cp l G (d + 4) m9_ask [.ref 0, .int x] (I, J, K) (.int (a_ask P m T kn x)) := by
  have hG2 := hG
  obtain ⟨⟨k9, t0, t2, t3, t4, t5, t6, t7, t9, t10, t11, t12⟩, -, -, -, hP, hD, hS, hS7, -, hT8, -⟩ := hG2
  have b6 := hR.2.1.2
  have no : ¬ inN 2 x = true → ∀ v2 v3 v4 v5 v6 v7, Gw l G (d + 4) m9_ask 9 [.ref 0, .int x, v2, v3, v4, v5, v6, v7] [] (I, J, K) (fun r h' => r = some (.int (a_ask P m T kn x)) ∧ h' = (I, J, K)) := by
    intro hno v2 v3 v4 v5 v6 v7
    rw [a_ask, if_neg hno]
    refine e_iconst rfl ic_m1 ?_
    refine e_ireturn rfl rfl ?_
    exact ⟨rfl, rfl⟩
  refine Cp.of ok9_ask rfl (rfl : argL _ _ = [.ref 0, .int x, .null, .null, .null, .null, .null, .null]) ?_
  refine e_iload_n rfl rfl ?_
  first | refine e_if_ltN (tgt := 9) rfl rfl (by omega) ?_ | refine e_if_lt (tgt := 9) rfl rfl (fun z => ?_) (fun z => ?_)
  · have y : x < 0 := by assumption
    exact no (fun q => (inN_lo (k := 1) (by omega) q).1 y) _ _ _ _ _ _
  · have y0 : ¬ x < 0 := by assumption
    refine e_iload_n rfl rfl ?_
    refine e_iconst (v := nI 1) rfl ic_1N ?_
    first | refine e_icmp_leN (tgt := 11) rfl rfl (by omega) (by omega) (fun z => ?_) (fun z => ?_) | refine e_icmp_le (tgt := 11) rfl rfl (fun z => ?_) (fun z => ?_)
    · have y1 : x ≤ nI 1 := by assumption
      have hx : inN 2 x = true := inN_hi (k := 1) (by omega) y0 y1
      rw [a_ask, if_pos hx]
      obtain ⟨i, hi, rfl⟩ := inN_of (by omega) hx
      refine e_aload_n rfl rfl ?_
      refine e_callVp (kd := 9) (M2 := m9_which) rfl v9_318 ok9_which (c9_which hG hR hRT hwT) rfl (by assumption) rfl rfl rfl rfl ?_
      refine e_ist2 rfl rfl rfl ?_
      refine e_ldcw rfl k9_323 ?_
      refine e_ist3 rfl rfl rfl ?_
      refine e_iconst (v := nI 0) rfl ic_0N ?_
      refine e_ist4 rfl rfl rfl ?_
      refine e_iconst (v := nI 1) rfl ic_1N ?_
      refine e_ist5 rfl rfl rfl ?_
      refine e_iload rfl rfl ?_
      refine e_bipush (v := nI 99) rfl bp_99N ?_
      refine e_icmp_gtN (tgt := 123) rfl rfl (by omega) (by omega) (fun z => absurd z (by omega)) (fun z => ?_)
      have hle : hvy P (kdF P m T kn) 1 ≤ cnt (kdF P m T kn) (P.1 0) := cF_mono (fun i h => by rw [Bool.and_eq_true] at h; exact h.1) _ _
      have hc6 : cnt (kdF P m T kn) (P.1 0) ≤ P.1 0 := cF_le _ _ _
      refine e_iconst (v := nI 0) rfl ic_0N ?_
      refine e_ist6 rfl rfl rfl ?_
      refine e_iconst (v := nI 0) rfl ic_0N ?_
      refine e_ist7 rfl rfl rfl ?_
      unfold a_which
      refine ask_in hG hR (by omega) (P.1 0) 0 0 (by omega) (by omega) ?_
      rw [Nat.zero_add]
      have eh : cF (fun k => kdF P m T kn k && decide (nI 1 ≤ P.2 1 k)) 0 (P.1 0) = hvy P (kdF P m T kn) 1 := rfl
      rw [eh]
      refine e_iload rfl rfl ?_
      refine e_iload_n rfl rfl ?_
      refine e_callSp (M2 := mJ_bitCount) rfl v9_328 okJ_bitCount (cJ_bitCount _) rfl rfl rfl ?_
      rw [bc_cnt b6]
      refine e_iload rfl rfl ?_
      first | refine e_isubN rfl (by omega) ?_ | refine e_isub rfl ?_
      refine e_max rfl v9_331 rfl ?_
      have ew : (if nI (hvy P (kdF P m T kn) 1) < nI (cnt (kdF P m T kn) (P.1 0) - hvy P (kdF P m T kn) 1) then nI (cnt (kdF P m T kn) (P.1 0) - hvy P (kdF P m T kn) 1) else nI (hvy P (kdF P m T kn) 1)) = nI (wrs P (kdF P m T kn) 1) := by
        unfold wrs
        by_cases c : hvy P (kdF P m T kn) 1 < cnt (kdF P m T kn) (P.1 0) - hvy P (kdF P m T kn) 1
        · rw [if_pos c, if_pos ((nI_ltI (by omega) (by omega)).mpr c)]
        · rw [if_neg c, if_neg (fun q => c ((nI_ltI (by omega) (by omega)).mp q))]
      have hw6 : wrs P (kdF P m T kn) 1 ≤ 6 := by
        unfold wrs
        split <;> omega
      rw [ew]
      refine e_ist7 rfl rfl rfl ?_
      refine e_iload rfl rfl ?_
      refine e_iload_n rfl rfl ?_
      refine e_icmp_ge (tgt := 117) rfl rfl (fun z => absurd z (Int32.not_le.mpr (Int32.lt_of_le_of_lt ((nI_leI (by omega) (by omega : 6 < 2 ^ 31)).mpr hw6) (by decide)))) (fun z => ?_)
      refine e_iload rfl rfl ?_
      refine e_ist3 rfl rfl rfl ?_
      refine e_iload rfl rfl ?_
      refine e_ist4 rfl rfl rfl ?_
      first | refine e_inc5 rfl rfl rfl (incN1 _) ?_ | refine e_inc5 rfl rfl rfl rfl ?_
      refine e_goto (tgt := 26) rfl rfl ?_
      refine ask_loop hG hR hi 98 2 _ 1 _ _ (by omega) hw6 (by omega) ?_
      by_cases e : i = 0
      · subst e
        rw [if_pos rfl, if_pos rfl]
        exact ⟨rfl, rfl⟩
      · rw [if_neg e, if_neg (ne42 e (by omega) (by omega))]
        exact ⟨rfl, rfl⟩
    · exact no (fun q => absurd (inN_lo (k := 1) (by omega) q).2 (by assumption)) _ _ _ _ _ _
/-- is a WANT to come that nobody can meet -/
def umF (P : Pl) (S : SM) (n w : Nat) : Bool := decide (S 6 w = 0) && decide (tinsB P S n (P.2 10 w) (nI 0) ||| tinsB P S n (P.2 10 w) (nI 1) = 0)
theorem unmet_loop (hG : GK K) (hR : RP I 33 P) (hC : RC I J 62 n S) (hn : P.1 1 = n) : ∀ k i b v, i + k = P.1 3 → Q (some (.int (bitF (umF P S n) i k b))) (I, J, K) → Gw l G (d + 3) m9_unmet 4 [.ref 0, .int b, .int (nI i), v] [] (I, J, K) Q := by
  have hG2 := hG
  obtain ⟨⟨k9, t0, t2, t3, t4, t5, t6, t7, t9, t10, t11, t12⟩, -, -, -, hP, hD, hS, hS7, -, hT8, -⟩ := hG2
  obtain ⟨h3, q0, q1, q2, q3, q4, r1, r2, r3, r4, r5⟩ := hP
  obtain ⟨h6, p0, p1, p2, p3, p4, p5, p6, a1, a2, a3, a4, a5, a6, a7⟩ := hS
  have g4 := r4.1
  have ez : I (33 + 17) 2 = nI (P.1 3) := hR.2.2.2.2.1.1
  have b8 := hR.2.2.2.2.1.2
  intro k
  induction k with
  | zero =>
    intro i b v hi hq
    refine e_iload_n rfl rfl ?_
    refine e_aload_n rfl rfl ?_
    refine e_getP rfl f9_25 (by assumption) rfl (by assumption) ?_
    refine e_getP rfl f9_162 (by assumption) rfl (by assumption) ?_
    refine e_getI rfl f9_300 (by assumption) rfl ?_
    rw [ez]
    first | refine e_icmp_geN (tgt := 77) rfl rfl (by omega) (by omega) (fun z => ?_) (fun z => ?_) | refine e_icmp_ge (tgt := 77) rfl rfl (fun z => ?_) (fun z => ?_)
    · refine e_iload_n rfl rfl ?_
      refine e_ireturn rfl rfl ?_
      exact hq
    · omega
  | succ k ih =>
    intro i b v hi hq
    have e1 : rAt I (33 + 17) (P.1 3) 0 (nI i) = P.2 10 i := (rAt_nI (by omega) (by omega)).trans (hR.2.2.2.2.2.2.2.2.1 0 (by omega) i (by omega))
    have e6 : I (62 + 7) i = S 6 i := hC.2.2.2.2.1 i (by omega)
    rw [bitF] at hq
    refine e_iload_n rfl rfl ?_
    refine e_aload_n rfl rfl ?_
    refine e_getP rfl f9_25 (by assumption) rfl (by assumption) ?_
    refine e_getP rfl f9_162 (by assumption) rfl (by assumption) ?_
    refine e_getI rfl f9_300 (by assumption) rfl ?_
    rw [ez]
    first | refine e_icmp_geN (tgt := 77) rfl rfl (by omega) (by omega) (fun z => ?_) (fun z => ?_) | refine e_icmp_ge (tgt := 77) rfl rfl (fun z => ?_) (fun z => ?_)
    · omega
    · refine e_iload_n rfl rfl ?_
      refine e_bipush (v := nI 8) rfl bp_8N ?_
      first | refine e_icmp_geN (tgt := 77) rfl rfl (by omega) (by omega) (fun z => ?_) (fun z => ?_) | refine e_icmp_ge (tgt := 77) rfl rfl (fun z => ?_) (fun z => ?_)
      · omega
      · refine e_aload_n rfl rfl ?_
        refine e_getP rfl f9_25 (by assumption) rfl (by assumption) ?_
        refine e_getP rfl f9_162 (by assumption) rfl (by assumption) ?_
        refine e_iload_n rfl rfl ?_
        refine e_iconst (v := nI 0) rfl ic_0N ?_
        refine e_callVp (kd := 4) (M2 := m4_at) rfl v9_132 ok4_at (c4_at r4 ez b8 (by omega) _) rfl (by assumption) rfl rfl rfl rfl ?_
        rw [e1]
        refine e_ist3 rfl rfl rfl ?_
        refine e_aload_n rfl rfl ?_
        refine e_getP rfl f9_41 (by assumption) rfl (by assumption) ?_
        refine e_getP rfl f9_165 (by assumption) rfl (by assumption) ?_
        refine e_iload_n rfl rfl ?_
        first | refine e_ialoadN rfl (by assumption) (by omega) (by omega) ?_ | (refine e_iaload rfl (by assumption) ?_ ?_; rotate_left)
        rw [e6]
        refine e_if_ne (tgt := 71) rfl rfl (fun z => ?_) (fun z => ?_)
        · rw [if_neg (by rw [umF, decide_eq_false z, Bool.false_and]; decide)] at hq
          first | refine e_inc2 rfl rfl rfl (incN1 _) ?_ | refine e_inc2 rfl rfl rfl rfl ?_
          refine e_goto (tgt := 4) rfl rfl ?_
          exact ih (i + 1) b _ (by omega) hq
        · have z6 := z
          refine e_aload_n rfl rfl ?_
          refine e_iload_n rfl rfl ?_
          refine e_iconst (v := nI 0) rfl ic_0N ?_
          refine e_callVp (kd := 9) (M2 := m9_tinsOf) rfl v9_157 ok9_tinsOf (c9_tinsOf hG hR hC hn _ _) rfl (by assumption) rfl rfl rfl rfl ?_
          refine e_aload_n rfl rfl ?_
          refine e_iload_n rfl rfl ?_
          refine e_iconst (v := nI 1) rfl ic_1N ?_
          refine e_callVp (kd := 9) (M2 := m9_tinsOf) rfl v9_157 ok9_tinsOf (c9_tinsOf hG hR hC hn _ _) rfl (by assumption) rfl rfl rfl rfl ?_
          refine e_ior rfl ?_
          refine e_if_ne (tgt := 71) rfl rfl (fun z => ?_) (fun z => ?_)
          · rw [if_neg (by rw [umF, decide_eq_true z6, decide_eq_false z]; decide)] at hq
            first | refine e_inc2 rfl rfl rfl (incN1 _) ?_ | refine e_inc2 rfl rfl rfl rfl ?_
            refine e_goto (tgt := 4) rfl rfl ?_
            exact ih (i + 1) b _ (by omega) hq
          · rw [if_pos (by rw [umF, decide_eq_true z6, decide_eq_true z]; rfl)] at hq
            refine e_iload_n rfl rfl ?_
            refine e_iconst (v := nI 1) rfl ic_1N ?_
            refine e_iload_n rfl rfl ?_
            refine e_ishl rfl ?_
            refine e_ior rfl ?_
            refine e_ist1 rfl rfl rfl ?_
            first | refine e_inc2 rfl rfl rfl (incN1 _) ?_ | refine e_inc2 rfl rfl rfl rfl ?_
            refine e_goto (tgt := 4) rfl rfl ?_
            exact ih (i + 1) _ _ (by omega) hq
def a_unmet (P : Pl) (S : SM) (n : Nat) : Int32 := bitF (umF P S n) 0 (P.1 3) (nI 0)
theorem c9_unmet (hG : GK K) (hR : RP I 33 P) (hC : RC I J 62 n S) (hn : P.1 1 = n) : Cp l G (d + 3) m9_unmet [.ref 0] (I, J, K) (.int (a_unmet P S n)) := by
  refine Cp.of ok9_unmet rfl (rfl : argL _ _ = [.ref 0, .null, .null, .null]) ?_
  refine e_iconst (v := nI 0) rfl ic_0N ?_
  refine e_ist1 rfl rfl rfl ?_
  refine e_iconst (v := nI 0) rfl ic_0N ?_
  refine e_ist2 rfl rfl rfl ?_
  exact unmet_loop hG hR hC hn (P.1 3) 0 _ _ (by omega) ⟨rfl, rfl⟩
theorem c9_hasOfShare {o p fr : Nat} (ho : o ≤ 4) (hp : p ≤ 4) (hf : fr ≤ 9) : Cp l G d m9_hasOfShare [.int (nI o), .int (nI p), .int (nI fr)] h (.int (hasF o p fr)) := by
  have tail : ∀ v : Int32, v = (if o + p ≤ fr then nI o else nI 0) → Gw l G d m9_hasOfShare 12 [.int (nI o), .int (nI p), .int (nI fr), .null] [.int v] h (fun r h' => r = some (.int (hasF o p fr)) ∧ h' = h) := by
    intro v hv
    refine e_ist3 rfl rfl rfl ?_
    refine e_iload_n rfl rfl ?_
    refine e_iconst (v := nI 4) rfl ic_4N ?_
    first | refine e_icmp_neN (tgt := 24) rfl rfl (by omega) (by omega) (fun z => ?_) (fun z => ?_) | refine e_icmp_ne (tgt := 24) rfl rfl (fun z => ?_) (fun z => ?_)
    · have y : o ≠ 4 := by assumption
      refine e_iload_n rfl rfl ?_
      refine e_ireturn rfl rfl ?_
      rw [hasF, if_neg y, hv]
      exact ⟨rfl, rfl⟩
    · have y : o = 4 := by assumption
      refine e_iload_n rfl rfl ?_
      refine e_iconst (v := nI 1) rfl ic_1N ?_
      refine e_isub rfl ?_
      refine e_goto (tgt := 25) rfl rfl ?_
      refine e_ireturn rfl rfl ?_
      rw [hasF, if_pos y, hv]
      exact ⟨rfl, rfl⟩
  refine Cp.of ok9_hasOfShare rfl (rfl : argL _ _ = [.int (nI o), .int (nI p), .int (nI fr), .null]) ?_
  refine e_iload_n rfl rfl ?_
  refine e_iload_n rfl rfl ?_
  first | refine e_iaddN rfl ?_ | refine e_iadd rfl ?_
  refine e_iload_n rfl rfl ?_
  first | refine e_icmp_gtN (tgt := 11) rfl rfl (by omega) (by omega) (fun z => ?_) (fun z => ?_) | refine e_icmp_gt (tgt := 11) rfl rfl (fun z => ?_) (fun z => ?_)
  · have y : fr < o + p := by assumption
    refine e_iconst (v := nI 0) rfl ic_0N ?_
    exact tail _ (by rw [if_neg (by omega)])
  · have y : o + p ≤ fr := by assumption
    refine e_iload_n rfl rfl ?_
    refine e_goto (tgt := 12) rfl rfl ?_
    exact tail _ (by rw [if_pos y])
theorem isRest_loop {a b fr : Nat} (ha : a ≤ 4) (hb : b ≤ 4) (hf : fr ≤ 9) : ∀ k i, i + k = 5 → Q (some (.int (bI (rsF a b fr k i)))) h → Gw l G (d + 1) m9_isRest 2 [.int (nI a), .int (nI b), .int (nI fr), .int (nI i)] [] h Q := by
  intro k
  induction k with
  | zero =>
    intro i hi hq
    refine e_iload_n rfl rfl ?_
    refine e_iconst (v := nI 4) rfl ic_4N ?_
    first | refine e_icmp_gtN (tgt := 45) rfl rfl (by omega) (by omega) (fun z => ?_) (fun z => ?_) | refine e_icmp_gt (tgt := 45) rfl rfl (fun z => ?_) (fun z => ?_)
    · refine e_iconst (v := nI 1) rfl ic_1N ?_
      refine e_zreturn rfl rfl ?_ ?_
      · exact Or.inr rfl
      · exact hq
    · omega
  | succ k ih =>
    intro i hi hq
    rw [rsF] at hq
    have no : (hasF a b fr < hasF i b fr ∨ hasF b a fr < hasF i a fr) → Gw l G (d + 1) m9_isRest 37 [.int (nI a), .int (nI b), .int (nI fr), .int (nI i)] [] h Q := by
      intro hh
      rw [if_pos hh] at hq
      refine e_iconst (v := nI 0) rfl ic_0N ?_
      refine e_zreturn rfl rfl ?_ ?_
      · exact Or.inl rfl
      · exact hq
    refine e_iload_n rfl rfl ?_
    refine e_iconst (v := nI 4) rfl ic_4N ?_
    first | refine e_icmp_gtN (tgt := 45) rfl rfl (by omega) (by omega) (fun z => ?_) (fun z => ?_) | refine e_icmp_gt (tgt := 45) rfl rfl (fun z => ?_) (fun z => ?_)
    · omega
    · refine e_iload_n rfl rfl ?_
      refine e_iload_n rfl rfl ?_
      refine e_iload_n rfl rfl ?_
      refine e_callSp (M2 := m9_hasOfShare) rfl v9_285 ok9_hasOfShare (c9_hasOfShare (by omega) (by omega) hf) rfl rfl rfl ?_
      refine e_iload_n rfl rfl ?_
      refine e_iload_n rfl rfl ?_
      refine e_iload_n rfl rfl ?_
      refine e_callSp (M2 := m9_hasOfShare) rfl v9_285 ok9_hasOfShare (c9_hasOfShare (by omega) (by omega) hf) rfl rfl rfl ?_
      first | refine e_icmp_gtN (tgt := 37) rfl rfl (by omega) (by omega) (fun z => ?_) (fun z => ?_) | refine e_icmp_gt (tgt := 37) rfl rfl (fun z => ?_) (fun z => ?_)
      · exact no (Or.inl (by assumption))
      · have y1 : ¬ hasF a b fr < hasF i b fr := by assumption
        refine e_iload_n rfl rfl ?_
        refine e_iload_n rfl rfl ?_
        refine e_iload_n rfl rfl ?_
        refine e_callSp (M2 := m9_hasOfShare) rfl v9_285 ok9_hasOfShare (c9_hasOfShare (by omega) (by omega) hf) rfl rfl rfl ?_
        refine e_iload_n rfl rfl ?_
        refine e_iload_n rfl rfl ?_
        refine e_iload_n rfl rfl ?_
        refine e_callSp (M2 := m9_hasOfShare) rfl v9_285 ok9_hasOfShare (c9_hasOfShare (by omega) (by omega) hf) rfl rfl rfl ?_
        first | refine e_icmp_leN (tgt := 39) rfl rfl (by omega) (by omega) (fun z => ?_) (fun z => ?_) | refine e_icmp_le (tgt := 39) rfl rfl (fun z => ?_) (fun z => ?_)
        · have y2 : hasF i a fr ≤ hasF b a fr := by assumption
          rw [if_neg (fun q => q.elim (fun q => y1 q) (fun q => absurd q (Int32.not_lt.mpr y2)))] at hq
          first | refine e_inc3 rfl rfl rfl (incN1 _) ?_ | refine e_inc3 rfl rfl rfl rfl ?_
          refine e_goto (tgt := 2) rfl rfl ?_
          exact ih (i + 1) (by omega) hq
        · have y2 : ¬ hasF i a fr ≤ hasF b a fr := by assumption
          exact no (Or.inr (Int32.not_le.mp y2))
theorem c9_isRest {a b fr : Nat} (ha : a ≤ 4) (hb : b ≤ 4) (hf : fr ≤ 9) : Cp l G (d + 1) m9_isRest [.int (nI a), .int (nI b), .int (nI fr)] h (.int (bI (isRst fr a b))) := by
  refine Cp.of ok9_isRest rfl (rfl : argL _ _ = [.int (nI a), .int (nI b), .int (nI fr), .null]) ?_
  refine e_iconst (v := nI 0) rfl ic_0N ?_
  refine e_ist3 rfl rfl rfl ?_
  exact isRest_loop ha hb hf 5 0 (by omega) ⟨rfl, rfl⟩
theorem rests_loop (hG : GK K) (hC : RC I J 62 n S) {t fr : Nat} (ht : t < n) (e4 : S 4 t = nI fr) (hf : fr ≤ 9) : ∀ k a b c, 5 * a + b + k = 25 → b ≤ 4 → c ≤ 5 * a + b → Q (some (.int (nI (rcF fr k (5 * a + b) c)))) (I, J, K) → 0 < k → Gw l G (d + 2) m9_rests 38 [.ref 0, .int (nI t), .int (nI c), .int (nI a), .int (nI b)] [] (I, J, K) Q := by
  have hG2 := hG
  obtain ⟨⟨k9, t0, t2, t3, t4, t5, t6, t7, t9, t10, t11, t12⟩, -, -, -, hP, hD, hS, hS7, -, hT8, -⟩ := hG2
  obtain ⟨h6, p0, p1, p2, p3, p4, p5, p6, a1, a2, a3, a4, a5, a6, a7⟩ := hS
  have e5 : I (62 + 5) t = nI fr := (hC.2.2.1 t ht).2.2.2.1.trans e4
  have hn8 := hC.2.1
  intro k
  induction k with
  | zero => intro a b c h1 h2 h3 h4 h5; omega
  | succ k ih =>
    intro a b c hab hb hc hq _
    rw [rcF, show (5 * a + b) / 5 = a by omega, show (5 * a + b) % 5 = b by omega] at hq
    have next : ∀ c, c ≤ 5 * a + b + 1 → Q (some (.int (nI (rcF fr k (5 * a + b + 1) c)))) (I, J, K) → Gw l G (d + 2) m9_rests 65 [.ref 0, .int (nI t), .int (nI c), .int (nI a), .int (nI b)] [] (I, J, K) Q := by
      intro c hc hq
      by_cases e : b = 4
      · subst e
        first | refine e_inc4 rfl rfl rfl (incN1 _) ?_ | refine e_inc4 rfl rfl rfl rfl ?_
        refine e_goto (tgt := 38) rfl rfl ?_
        refine e_iload rfl rfl ?_
        refine e_iconst (v := nI 4) rfl ic_4N ?_
        first | refine e_icmp_gtN (tgt := 71) rfl rfl (by omega) (by omega) (fun z => ?_) (fun z => ?_) | refine e_icmp_gt (tgt := 71) rfl rfl (fun z => ?_) (fun z => ?_)
        · first | refine e_inc3 rfl rfl rfl (incN1 _) ?_ | refine e_inc3 rfl rfl rfl rfl ?_
          refine e_goto (tgt := 30) rfl rfl ?_
          refine e_iload_n rfl rfl ?_
          refine e_iconst (v := nI 4) rfl ic_4N ?_
          first | refine e_icmp_gtN (tgt := 77) rfl rfl (by omega) (by omega) (fun z => ?_) (fun z => ?_) | refine e_icmp_gt (tgt := 77) rfl rfl (fun z => ?_) (fun z => ?_)
          · obtain rfl : k = 0 := by omega
            refine e_iload_n rfl rfl ?_
            refine e_ireturn rfl rfl ?_
            exact hq
          · refine e_iconst (v := nI 0) rfl ic_0N ?_
            refine e_ist4 rfl rfl rfl ?_
            exact ih (a + 1) 0 c (by omega) (by omega) (by omega) hq (by omega)
        · omega
      · first | refine e_inc4 rfl rfl rfl (incN1 _) ?_ | refine e_inc4 rfl rfl rfl rfl ?_
        refine e_goto (tgt := 38) rfl rfl ?_
        exact ih a (b + 1) c (by omega) (by omega) (by omega) hq (by omega)
    refine e_iload rfl rfl ?_
    refine e_iconst (v := nI 4) rfl ic_4N ?_
    first | refine e_icmp_gtN (tgt := 71) rfl rfl (by omega) (by omega) (fun z => ?_) (fun z => ?_) | refine e_icmp_gt (tgt := 71) rfl rfl (fun z => ?_) (fun z => ?_)
    · omega
    · refine e_iload_n rfl rfl ?_
      refine e_iload rfl rfl ?_
      refine e_aload_n rfl rfl ?_
      refine e_getP rfl f9_41 (by assumption) rfl (by assumption) ?_
      refine e_getP rfl f9_145 (by assumption) rfl (by assumption) ?_
      refine e_iload_n rfl rfl ?_
      first | refine e_ialoadN rfl (by assumption) (by omega) (by omega) ?_ | (refine e_iaload rfl (by assumption) ?_ ?_; rotate_left)
      rw [e5]
      refine e_callSp (M2 := m9_isRest) rfl v9_281 ok9_isRest (c9_isRest (by omega) (by omega) hf) rfl rfl rfl ?_
      first | refine e_if_eqB (tgt := 65) rfl rfl (fun z => ?_) (fun z => ?_) | refine e_if_eqN (tgt := 65) rfl rfl (by omega) (fun z => ?_) (fun z => ?_) | refine e_if_eq (tgt := 65) rfl rfl (fun z => ?_) (fun z => ?_)
      · rw [if_neg (by rw [z]; decide)] at hq
        exact next c (by omega) hq
      · rw [if_pos z] at hq
        first | refine e_inc2 rfl rfl rfl (incN1 _) ?_ | refine e_inc2 rfl rfl rfl rfl ?_
        exact next (c + 1) (by omega) hq
def a_rests (S : SM) (n : Nat) (t : Int32) : Int32 := if inN n t = true ∧ S 0 t.toNatClampNeg = nI 1 then nI (rcF (S 4 t.toNatClampNeg).toNatClampNeg 25 0 0) else -1
theorem c9_rests (hG : GK K) (hC : RC I J 62 n S) (hV : wfS P S) (hn : P.1 1 = n) (t : Int32) : Cp l G (d + 2) m9_rests [.ref 0, .int t] (I, J, K) (.int (a_rests S n t)) := by
  have hG2 := hG
  obtain ⟨⟨k9, t0, t2, t3, t4, t5, t6, t7, t9, t10, t11, t12⟩, -, -, -, hP, hD, hS, hS7, -, hT8, -⟩ := hG2
  obtain ⟨h6, p0, p1, p2, p3, p4, p5, p6, a1, a2, a3, a4, a5, a6, a7⟩ := hS
  have hn8 := hC.2.1
  have no : ¬ (inN n t = true ∧ S 0 t.toNatClampNeg = nI 1) → ∀ v2 v3 v4, Gw l G (d + 2) m9_rests 24 [.ref 0, .int t, v2, v3, v4] [] (I, J, K) (fun r h' => r = some (.int (a_rests S n t)) ∧ h' = (I, J, K)) := by
    intro hno v2 v3 v4
    rw [a_rests, if_neg hno]
    refine e_iconst rfl ic_m1 ?_
    refine e_ireturn rfl rfl ?_
    exact ⟨rfl, rfl⟩
  refine Cp.of ok9_rests rfl (rfl : argL _ _ = [.ref 0, .int t, .null, .null, .null]) ?_
  refine e_aload_n rfl rfl ?_
  refine e_getP rfl f9_41 (by assumption) rfl (by assumption) ?_
  refine e_iload_n rfl rfl ?_
  refine e_callVp (kd := 6) (M2 := m6_has) rfl v9_121 ok6_has (c6_has h6 hC.1 t) rfl (by assumption) rfl rfl rfl rfl ?_
  first | refine e_if_eqB (tgt := 24) rfl rfl (fun z => ?_) (fun z => ?_) | refine e_if_eqN (tgt := 24) rfl rfl (by omega) (fun z => ?_) (fun z => ?_) | refine e_if_eq (tgt := 24) rfl rfl (fun z => ?_) (fun z => ?_)
  · exact no (fun q => by rw [z] at q; exact absurd q.1 (by decide)) _ _ _
  · have hin : inN n t = true := by assumption
    obtain ⟨j, hj, rfl⟩ := inN_of (by omega) hin
    have e0 : I (62 + 1) j = S 0 j := (hC.2.2.1 j hj).1
    refine e_aload_n rfl rfl ?_
    refine e_getP rfl f9_41 (by assumption) rfl (by assumption) ?_
    refine e_getP rfl f9_142 (by assumption) rfl (by assumption) ?_
    refine e_iload_n rfl rfl ?_
    first | refine e_ialoadN rfl (by assumption) (by omega) (by omega) ?_ | (refine e_iaload rfl (by assumption) ?_ ?_; rotate_left)
    rw [e0]
    refine e_iconst (v := nI 1) rfl ic_1N ?_
    first | refine e_icmp_eqN (tgt := 26) rfl rfl (by omega) (by omega) (fun z => ?_) (fun z => ?_) | refine e_icmp_eq (tgt := 26) rfl rfl (fun z => ?_) (fun z => ?_)
    · have y : S 0 j = nI 1 := by assumption
      obtain ⟨st, de, fr, b1, b2, b3, f0, f1, f4, -, -⟩ := hV.1 j (by omega)
      rw [a_rests, nI_clamp (by omega), if_pos ⟨hin, y⟩, f4, nI_clamp (by omega)]
      refine e_iconst (v := nI 0) rfl ic_0N ?_
      refine e_ist2 rfl rfl rfl ?_
      refine e_iconst (v := nI 0) rfl ic_0N ?_
      refine e_ist3 rfl rfl rfl ?_
      refine e_iload_n rfl rfl ?_
      refine e_iconst (v := nI 4) rfl ic_4N ?_
      first | refine e_icmp_gtN (tgt := 77) rfl rfl (by omega) (by omega) (fun z => ?_) (fun z => ?_) | refine e_icmp_gt (tgt := 77) rfl rfl (fun z => ?_) (fun z => ?_)
      · omega
      · refine e_iconst (v := nI 0) rfl ic_0N ?_
        refine e_ist4 rfl rfl rfl ?_
        exact rests_loop hG hC hj f4 b3 25 0 0 0 (by omega) (by omega) (by omega) ⟨rfl, rfl⟩ (by omega)
    · have y : ¬ S 0 j = nI 1 := by assumption
      exact no (fun q => y (by have := q.2; rw [nI_clamp (by omega)] at this; exact this)) _ _ _
theorem rest_loop (hG : GK K) (hC : RC I J 62 n S) {t fr : Nat} (ht : t < n) (e4 : S 4 t = nI fr) (hf : fr ≤ 9) {x : Int32} : ∀ k a b c, 5 * a + b + k = 25 → b ≤ 4 → c ≤ 5 * a + b → Q (some (.int (rkF fr x k (5 * a + b) c))) (I, J, K) → 0 < k → Gw l G (d + 2) m9_rest 44 [.ref 0, .int (nI t), .int x, .int (nI c), .int (nI a), .int (nI b)] [] (I, J, K) Q := by
  have hG2 := hG
  obtain ⟨⟨k9, t0, t2, t3, t4, t5, t6, t7, t9, t10, t11, t12⟩, -, -, -, hP, hD, hS, hS7, -, hT8, -⟩ := hG2
  obtain ⟨h6, p0, p1, p2, p3, p4, p5, p6, a1, a2, a3, a4, a5, a6, a7⟩ := hS
  have e5 : I (62 + 5) t = nI fr := (hC.2.2.1 t ht).2.2.2.1.trans e4
  have hn8 := hC.2.1
  intro k
  induction k with
  | zero => intro a b c h1 h2 h3 h4 h5; omega
  | succ k ih =>
    intro a b c hab hb hc hq _
    rw [rkF, show (5 * a + b) / 5 = a by omega, show (5 * a + b) % 5 = b by omega] at hq
    have next : ∀ c, c ≤ 5 * a + b + 1 → Q (some (.int (rkF fr x k (5 * a + b + 1) c))) (I, J, K) → Gw l G (d + 2) m9_rest 86 [.ref 0, .int (nI t), .int x, .int (nI c), .int (nI a), .int (nI b)] [] (I, J, K) Q := by
      intro c hc hq
      by_cases e : b = 4
      · subst e
        first | refine e_inc5 rfl rfl rfl (incN1 _) ?_ | refine e_inc5 rfl rfl rfl rfl ?_
        refine e_goto (tgt := 44) rfl rfl ?_
        refine e_iload rfl rfl ?_
        refine e_iconst (v := nI 4) rfl ic_4N ?_
        first | refine e_icmp_gtN (tgt := 92) rfl rfl (by omega) (by omega) (fun z => ?_) (fun z => ?_) | refine e_icmp_gt (tgt := 92) rfl rfl (fun z => ?_) (fun z => ?_)
        · first | refine e_inc4 rfl rfl rfl (incN1 _) ?_ | refine e_inc4 rfl rfl rfl rfl ?_
          refine e_goto (tgt := 35) rfl rfl ?_
          refine e_iload rfl rfl ?_
          refine e_iconst (v := nI 4) rfl ic_4N ?_
          first | refine e_icmp_gtN (tgt := 98) rfl rfl (by omega) (by omega) (fun z => ?_) (fun z => ?_) | refine e_icmp_gt (tgt := 98) rfl rfl (fun z => ?_) (fun z => ?_)
          · obtain rfl : k = 0 := by omega
            refine e_bipush rfl bp_m2 ?_
            refine e_ireturn rfl rfl ?_
            exact hq
          · refine e_iconst (v := nI 0) rfl ic_0N ?_
            refine e_ist5 rfl rfl rfl ?_
            exact ih (a + 1) 0 c (by omega) (by omega) (by omega) hq (by omega)
        · omega
      · first | refine e_inc5 rfl rfl rfl (incN1 _) ?_ | refine e_inc5 rfl rfl rfl rfl ?_
        refine e_goto (tgt := 44) rfl rfl ?_
        exact ih a (b + 1) c (by omega) (by omega) (by omega) hq (by omega)
    refine e_iload rfl rfl ?_
    refine e_iconst (v := nI 4) rfl ic_4N ?_
    first | refine e_icmp_gtN (tgt := 92) rfl rfl (by omega) (by omega) (fun z => ?_) (fun z => ?_) | refine e_icmp_gt (tgt := 92) rfl rfl (fun z => ?_) (fun z => ?_)
    · omega
    · refine e_iload rfl rfl ?_
      refine e_iload rfl rfl ?_
      refine e_aload_n rfl rfl ?_
      refine e_getP rfl f9_41 (by assumption) rfl (by assumption) ?_
      refine e_getP rfl f9_145 (by assumption) rfl (by assumption) ?_
      refine e_iload_n rfl rfl ?_
      first | refine e_ialoadN rfl (by assumption) (by omega) (by omega) ?_ | (refine e_iaload rfl (by assumption) ?_ ?_; rotate_left)
      rw [e5]
      refine e_callSp (M2 := m9_isRest) rfl v9_281 ok9_isRest (c9_isRest (by omega) (by omega) hf) rfl rfl rfl ?_
      first | refine e_if_eqB (tgt := 86) rfl rfl (fun z => ?_) (fun z => ?_) | refine e_if_eqN (tgt := 86) rfl rfl (by omega) (fun z => ?_) (fun z => ?_) | refine e_if_eq (tgt := 86) rfl rfl (fun z => ?_) (fun z => ?_)
      · rw [if_neg (by rw [z]; decide)] at hq
        exact next c (by omega) hq
      · rw [if_pos z] at hq
        refine e_iload_n rfl rfl ?_
        refine e_iload_n rfl rfl ?_
        refine e_icmp_ne (tgt := 83) rfl rfl (fun z => ?_) (fun z => ?_)
        · rw [if_neg z] at hq
          first | refine e_inc3 rfl rfl rfl (incN1 _) ?_ | refine e_inc3 rfl rfl rfl rfl ?_
          exact next (c + 1) (by omega) hq
        · rw [if_pos z] at hq
          refine e_bipush (v := nI 10) rfl bp_10N ?_
          refine e_iload rfl rfl ?_
          first | refine e_imulN rfl ?_ | refine e_imul rfl ?_
          refine e_iload rfl rfl ?_
          first | refine e_iaddN rfl ?_ | refine e_iadd rfl ?_
          refine e_ireturn rfl rfl ?_
          exact hq
def a_rest (S : SM) (n : Nat) (t x : Int32) : Int32 := if inN n t = true ∧ S 0 t.toNatClampNeg = nI 1 ∧ 0 ≤ x then rkF (S 4 t.toNatClampNeg).toNatClampNeg x 25 0 0 else -1
theorem c9_rest (hG : GK K) (hC : RC I J 62 n S) (hV : wfS P S) (hn : P.1 1 = n) (t x : Int32) : Cp l G (d + 2) m9_rest [.ref 0, .int t, .int x] (I, J, K) (.int (a_rest S n t x)) := by
  have hG2 := hG
  obtain ⟨⟨k9, t0, t2, t3, t4, t5, t6, t7, t9, t10, t11, t12⟩, -, -, -, hP, hD, hS, hS7, -, hT8, -⟩ := hG2
  obtain ⟨h6, p0, p1, p2, p3, p4, p5, p6, a1, a2, a3, a4, a5, a6, a7⟩ := hS
  have hn8 := hC.2.1
  have no : ¬ (inN n t = true ∧ S 0 t.toNatClampNeg = nI 1 ∧ 0 ≤ x) → ∀ v3 v4 v5, Gw l G (d + 2) m9_rest 28 [.ref 0, .int t, .int x, v3, v4, v5] [] (I, J, K) (fun r h' => r = some (.int (a_rest S n t x)) ∧ h' = (I, J, K)) := by
    intro hno v2 v3 v4
    rw [a_rest, if_neg hno]
    refine e_iconst rfl ic_m1 ?_
    refine e_ireturn rfl rfl ?_
    exact ⟨rfl, rfl⟩
  refine Cp.of ok9_rest rfl (rfl : argL _ _ = [.ref 0, .int t, .int x, .null, .null, .null]) ?_
  refine e_aload_n rfl rfl ?_
  refine e_getP rfl f9_41 (by assumption) rfl (by assumption) ?_
  refine e_iload_n rfl rfl ?_
  refine e_callVp (kd := 6) (M2 := m6_has) rfl v9_121 ok6_has (c6_has h6 hC.1 t) rfl (by assumption) rfl rfl rfl rfl ?_
  first | refine e_if_eqB (tgt := 28) rfl rfl (fun z => ?_) (fun z => ?_) | refine e_if_eqN (tgt := 28) rfl rfl (by omega) (fun z => ?_) (fun z => ?_) | refine e_if_eq (tgt := 28) rfl rfl (fun z => ?_) (fun z => ?_)
  · exact no (fun q => by rw [z] at q; exact absurd q.1 (by decide)) _ _ _
  · have hin : inN n t = true := by assumption
    obtain ⟨j, hj, rfl⟩ := inN_of (by omega) hin
    have e0 : I (62 + 1) j = S 0 j := (hC.2.2.1 j hj).1
    refine e_aload_n rfl rfl ?_
    refine e_getP rfl f9_41 (by assumption) rfl (by assumption) ?_
    refine e_getP rfl f9_142 (by assumption) rfl (by assumption) ?_
    refine e_iload_n rfl rfl ?_
    first | refine e_ialoadN rfl (by assumption) (by omega) (by omega) ?_ | (refine e_iaload rfl (by assumption) ?_ ?_; rotate_left)
    rw [e0]
    refine e_iconst (v := nI 1) rfl ic_1N ?_
    first | refine e_icmp_neN (tgt := 28) rfl rfl (by omega) (by omega) (fun z => ?_) (fun z => ?_) | refine e_icmp_ne (tgt := 28) rfl rfl (fun z => ?_) (fun z => ?_)
    · have y : ¬ S 0 j = nI 1 := by assumption
      exact no (fun q => y (by have := q.2.1; rw [nI_clamp (by omega)] at this; exact this)) _ _ _
    · have y : S 0 j = nI 1 := by assumption
      refine e_iload_n rfl rfl ?_
      first | refine e_if_geN (tgt := 30) rfl rfl (by omega) ?_ | refine e_if_ge (tgt := 30) rfl rfl (fun z => ?_) (fun z => ?_)
      · have y2 : 0 ≤ x := by assumption
        obtain ⟨st, de, fr, b1, b2, b3, f0, f1, f4, -, -⟩ := hV.1 j (by omega)
        rw [a_rest, nI_clamp (by omega), if_pos ⟨hin, y, y2⟩, f4, nI_clamp (by omega)]
        refine e_iconst (v := nI 0) rfl ic_0N ?_
        refine e_ist3 rfl rfl rfl ?_
        refine e_iconst (v := nI 0) rfl ic_0N ?_
        refine e_ist4 rfl rfl rfl ?_
        refine e_iload rfl rfl ?_
        refine e_iconst (v := nI 4) rfl ic_4N ?_
        first | refine e_icmp_gtN (tgt := 98) rfl rfl (by omega) (by omega) (fun z => ?_) (fun z => ?_) | refine e_icmp_gt (tgt := 98) rfl rfl (fun z => ?_) (fun z => ?_)
        · omega
        · refine e_iconst (v := nI 0) rfl ic_0N ?_
          refine e_ist5 rfl rfl rfl ?_
          exact rest_loop hG hC hj f4 b3 25 0 0 0 (by omega) (by omega) (by omega) ⟨rfl, rfl⟩ (by omega)
      · have y2 : ¬ 0 ≤ x := by assumption
        exact no (fun q => y2 q.2.2) _ _ _
end MTin7
