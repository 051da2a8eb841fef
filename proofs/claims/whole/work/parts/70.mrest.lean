/-! ===== the reference: unmet, rests, rest, whole ===== -/
theorem or_z {a b : Int32} : a ||| b = 0 ↔ a = 0 ∧ b = 0 := Int32.or_eq_zero_iff
theorem div5 : ∀ i, i < 25 → nI i / nI 5 = nI (i / 5) ∧ nI i - nI i / nI 5 * nI 5 = nI (i % 5) := by decide
def roF (fr : Nat) (x : Int32) : Nat → Nat → Nat → Int32
  | 0, _, c => if x = -1 then nI c else -2
  | k + 1, i, c => if isRst fr (i / 5) (i % 5) = true then (if nI c = x then nI (10 * (i / 5) + i % 5) else roF fr x k (i + 1) (c + 1)) else roF fr x k (i + 1) c
theorem ro_c {fr : Nat} : ∀ k i c, c + k < 2 ^ 31 → roF fr (-1) k i c = nI (rcF fr k i c)
  | 0, _, _, _ => by rw [roF, if_pos rfl, rcF]
  | k + 1, i, c, h => by
    rw [roF, rcF]
    by_cases q : isRst fr (i / 5) (i % 5) = true
    · rw [if_pos q, if_pos q, if_neg (nI_m1 (by omega)), ro_c k (i + 1) (c + 1) (by omega)]
    · rw [if_neg q, if_neg q, ro_c k (i + 1) c (by omega)]
theorem ro_k {fr : Nat} {x : Int32} (hx : ¬ x = -1) : ∀ k i c, roF fr x k i c = rkF fr x k i c
  | 0, _, _ => by rw [roF, if_neg hx, rkF]
  | k + 1, i, c => by rw [roF, rkF, ro_k hx k (i + 1) (c + 1), ro_k hx k (i + 1) c]
theorem sub100 : ∀ r, r ≤ 100 → (100 : Int64) - (nI r).toInt64 = lN (100 - r) := fun r hr => by
  have h : ∀ r : Fin 101, (100 : Int64) - (nI r.1).toInt64 = lN (100 - r.1) := by decide
  exact h ⟨r, by omega⟩
section MRest
variable {l : Launch} {G : GG} {d : Nat} {I : IM} {J : JM} {K : Kt} {h : Hp} {Q : Option Value → Hp → Prop} {P : Pl} {S : SM} {im : Bool} {SI : SM} {m : Nat} {T : SM} {kn : Int32} {u : Nat} {Hs : Nat → SM} {B n : Nat}
theorem munmet_loop (hM : MK K) (hP : MP I P) (hn : P.1 1 = n) (h8 : n ≤ 8) (hw8 : P.1 3 ≤ 8) (hR : RM I 0 n S B) : ∀ k i b v, i + k = P.1 3 → Q (some (.int (bitF (umF P S n) i k b))) (I, J, K) → Gw l G (d + 1) m10_unmet 9 [.ref 102, .int b, .int (nI i), v] [] (I, J, K) Q := by
  have e3 := hP.1.2.2.2.1
  intro k
  induction k with
  | zero =>
    intro i b v hi hq
    refine e_iload_n rfl rfl ?_
    refine e_aload_n rfl rfl ?_
    refine e_getP rfl f10_13 hM.k rfl hM.p3 ?_
    refine e_iconst (v := nI 3) rfl ic_3N ?_
    first | refine e_ialoadN rfl hM.a3 (by omega) (by omega) ?_ | (refine e_iaload rfl hM.a3 ?_ ?_; rotate_left)
    rw [e3]
    first | refine e_icmp_geN (tgt := 82) rfl rfl (by omega) (by omega) (fun z => ?_) (fun z => ?_) | refine e_icmp_ge (tgt := 82) rfl rfl (fun z => ?_) (fun z => ?_)
    · refine e_iload_n rfl rfl ?_
      refine e_ireturn rfl rfl ?_
      exact hq
    · omega
  | succ k ih =>
    intro i b v hi hq
    have ek := (hP.2.2.2.2.1 i (by omega)).1
    have e6 : I 136 i = S 6 i := by
      have := hR.2.1 i (by omega)
      rw [show 8 * 0 + i = i by omega] at this
      exact this
    rw [bitF] at hq
    have tail : ∀ q : Bool, (q = false ↔ tinsB P S n (P.2 10 i) (nI 0) ||| tinsB P S n (P.2 10 i) (nI 1) = 0) → Gw l G (d + 1) m10_unmet 52 [.ref 102, .int b, .int (nI i), v] [.int (bI q)] (I, J, K) Q := by
      intro q hqq
      have no : ¬ umF P S n i = true → Gw l G (d + 1) m10_unmet 73 [.ref 102, .int b, .int (nI i), .int (bI q)] [.int b] (I, J, K) Q := by
        intro y
        rw [if_neg y] at hq
        refine e_iconst (v := nI 0) rfl ic_0N ?_
        refine e_ior rfl ?_
        rw [or_0]
        refine e_ist1 rfl rfl rfl ?_
        first | refine e_inc2 rfl rfl rfl (incN1 _) ?_ | refine e_inc2 rfl rfl rfl rfl ?_
        refine e_goto (tgt := 9) rfl rfl ?_
        exact ih (i + 1) b _ (by omega) hq
      refine e_ist3 rfl rfl rfl ?_
      refine e_iload_n rfl rfl ?_
      refine e_aload_n rfl rfl ?_
      refine e_getP rfl f10_114 hM.k rfl hM.p49 ?_
      refine e_iload_n rfl rfl ?_
      first | refine e_ialoadN rfl hM.a49 (by omega) (by omega) ?_ | (refine e_iaload rfl hM.a49 ?_ ?_; rotate_left)
      rw [e6]
      refine e_if_ne (tgt := 73) rfl rfl (fun z => ?_) (fun z => ?_)
      · exact no (by rw [umF, decide_eq_false z, Bool.false_and]; decide)
      · refine e_iload_n rfl rfl ?_
        refine e_if_neB (tgt := 73) rfl rfl (fun y => ?_) (fun y => ?_)
        · exact no (by rw [umF, decide_eq_false (p := _ = 0) (fun q => absurd (hqq.mpr q) (by rw [y]; decide)), Bool.and_false]; decide)
        · rw [if_pos (by rw [umF, decide_eq_true z, decide_eq_true (hqq.mp y)]; rfl)] at hq
          refine e_iconst (v := nI 1) rfl ic_1N ?_
          refine e_iload_n rfl rfl ?_
          refine e_ishl rfl ?_
          refine e_goto (tgt := 74) rfl rfl ?_
          refine e_ior rfl ?_
          refine e_ist1 rfl rfl rfl ?_
          first | refine e_inc2 rfl rfl rfl (incN1 _) ?_ | refine e_inc2 rfl rfl rfl rfl ?_
          refine e_goto (tgt := 9) rfl rfl ?_
          exact ih (i + 1) _ _ (by omega) hq
    refine e_iload_n rfl rfl ?_
    refine e_aload_n rfl rfl ?_
    refine e_getP rfl f10_13 hM.k rfl hM.p3 ?_
    refine e_iconst (v := nI 3) rfl ic_3N ?_
    first | refine e_ialoadN rfl hM.a3 (by omega) (by omega) ?_ | (refine e_iaload rfl hM.a3 ?_ ?_; rotate_left)
    rw [e3]
    first | refine e_icmp_geN (tgt := 82) rfl rfl (by omega) (by omega) (fun z => ?_) (fun z => ?_) | refine e_icmp_ge (tgt := 82) rfl rfl (fun z => ?_) (fun z => ?_)
    · omega
    · refine e_aload_n rfl rfl ?_
      refine e_aload_n rfl rfl ?_
      refine e_getP rfl f10_46 hM.k rfl hM.p14 ?_
      refine e_iload_n rfl rfl ?_
      first | refine e_ialoadN rfl hM.a14 (by omega) (by omega) ?_ | (refine e_iaload rfl hM.a14 ?_ ?_; rotate_left)
      rw [ek]
      refine e_iconst (v := nI 0) rfl ic_0N ?_
      refine e_callVp (kd := 10) (M2 := m10_setOf) rfl v10_403 ok10_setOf (c10_setOf (d := d) hM hP hn h8 hR _ _) rfl hM.k rfl rfl rfl rfl ?_
      refine e_if_ne (tgt := 47) rfl rfl (fun z => ?_) (fun z => ?_)
      · refine e_iconst (v := nI 1) rfl ic_1N ?_
        refine e_goto (tgt := 52) rfl rfl ?_
        exact tail true ⟨fun q => absurd q (by decide), fun q => absurd (or_z.mp q).1 z⟩
      · refine e_aload_n rfl rfl ?_
        refine e_aload_n rfl rfl ?_
        refine e_getP rfl f10_46 hM.k rfl hM.p14 ?_
        refine e_iload_n rfl rfl ?_
        first | refine e_ialoadN rfl hM.a14 (by omega) (by omega) ?_ | (refine e_iaload rfl hM.a14 ?_ ?_; rotate_left)
        rw [ek]
        refine e_iconst (v := nI 1) rfl ic_1N ?_
        refine e_callVp (kd := 10) (M2 := m10_setOf) rfl v10_403 ok10_setOf (c10_setOf (d := d) hM hP hn h8 hR _ _) rfl hM.k rfl rfl rfl rfl ?_
        refine e_if_eq (tgt := 51) rfl rfl (fun y => ?_) (fun y => ?_)
        · refine e_iconst (v := nI 0) rfl ic_0N ?_
          exact tail false ⟨fun _ => or_z.mpr ⟨z, y⟩, fun _ => rfl⟩
        · refine e_iconst (v := nI 1) rfl ic_1N ?_
          refine e_goto (tgt := 52) rfl rfl ?_
          exact tail true ⟨fun q => absurd q (by decide), fun q => absurd (or_z.mp q).2 y⟩
theorem c10_unmet (hM : MK K) (hI : MI I P S im SI m T kn u Hs B) (hn : P.1 1 = n) : Cw l G (d + 1) m10_unmet [.ref 102] (I, J, K) (fun r h' => r = some (.int (a_unmet P S n)) ∧ MPst I J K h' P S im SI m T kn u Hs (B + 2)) := by
  have g0 : FQm I J (u2 I 102 0 (nI 0)) J := FQm.w0
  have hI1 := hI.t0 J
  have hR := hI1.2.2.1
  rw [hn] at hR
  have h8 := hI.2.1.1.1.2.1
  refine Cw.of ok10_unmet rfl (rfl : argL _ _ = [.ref 102, .null, .null, .null]) ?_
  refine e_aload_n rfl rfl ?_
  refine e_iconst (v := nI 0) rfl ic_0N ?_
  refine e_putI rfl f10_151 hM.k rfl rfl ?_
  refine e_iconst (v := nI 0) rfl ic_0N ?_
  refine e_ist1 rfl rfl rfl ?_
  refine e_iconst (v := nI 0) rfl ic_0N ?_
  refine e_ist2 rfl rfl rfl ?_
  exact munmet_loop hM hI1.1 hn (by omega) hI.2.1.1.1.2.2.2 hR (P.1 3) 0 _ _ (by omega) ⟨rfl, hI.fin g0⟩
theorem c10_hasOf {o p fr : Nat} (ho : o ≤ 4) (hp : p ≤ 4) (hf : fr ≤ 9) : Cp l G d m10_hasOf [.int (nI fr), .int (nI o), .int (nI p)] h (.int (hasF o p fr)) := by
  have tail : ∀ v : Int32, v = (if o + p ≤ fr then nI o else nI 0) → Gw l G d m10_hasOf 12 [.int (nI fr), .int (nI o), .int (nI p)] [.int v] h (fun r h' => r = some (.int (hasF o p fr)) ∧ h' = h) := by
    intro v hv
    refine e_iload_n rfl rfl ?_
    refine e_iconst (v := nI 4) rfl ic_4N ?_
    first | refine e_icmp_neN (tgt := 21) rfl rfl (by omega) (by omega) (fun z => ?_) (fun z => ?_) | refine e_icmp_ne (tgt := 21) rfl rfl (fun z => ?_) (fun z => ?_)
    · have y : o ≠ 4 := by assumption
      refine e_iconst (v := nI 0) rfl ic_0N ?_
      refine e_isub rfl ?_
      refine e_ireturn rfl rfl ?_
      rw [hasF, if_neg y, ← hv, show v - nI 0 = v from Int32.sub_zero v]
      exact ⟨rfl, rfl⟩
    · have y : o = 4 := by assumption
      refine e_iconst (v := nI 1) rfl ic_1N ?_
      refine e_goto (tgt := 22) rfl rfl ?_
      refine e_isub rfl ?_
      refine e_ireturn rfl rfl ?_
      rw [hasF, if_pos y, hv]
      exact ⟨rfl, rfl⟩
  refine Cp.of ok10_hasOf rfl (rfl : argL _ _ = [.int (nI fr), .int (nI o), .int (nI p)]) ?_
  refine e_iload_n rfl rfl ?_
  refine e_iload_n rfl rfl ?_
  first | refine e_iaddN rfl ?_ | refine e_iadd rfl ?_
  refine e_iload_n rfl rfl ?_
  first | refine e_icmp_gtN (tgt := 11) rfl rfl (by omega) (by omega) (fun z => ?_) (fun z => ?_) | refine e_icmp_gt (tgt := 11) rfl rfl (fun z => ?_) (fun z => ?_)
  · have y : fr < o + p := by assumption
    refine e_iconst (v := nI 0) rfl ic_0N ?_
    exact tail _ (by rw [if_neg (by omega)])
  · have y : o + p ≤ fr := by assumption
    refine e_iload_n rfl rfl ?_
    refine e_goto (tgt := 12) rfl rfl ?_
    exact tail _ (by rw [if_pos y])
theorem misRest_loop {a b fr : Nat} (ha : a ≤ 4) (hb : b ≤ 4) (hf : fr ≤ 9) : ∀ k i, i + k = 5 → Q (some (.int (bI (rsF a b fr k i)))) h → Gw l G (d + 1) m10_isRest 2 [.int (nI fr), .int (nI a), .int (nI b), .int (nI i)] [] h Q := by
  intro k
  induction k with
  | zero =>
    intro i hi hq
    refine e_iload_n rfl rfl ?_
    refine e_iconst (v := nI 4) rfl ic_4N ?_
    first | refine e_icmp_gtN (tgt := 45) rfl rfl (by omega) (by omega) (fun z => ?_) (fun z => ?_) | refine e_icmp_gt (tgt := 45) rfl rfl (fun z => ?_) (fun z => ?_)
    · refine e_iconst (v := nI 1) rfl ic_1N ?_
      refine e_zreturn rfl rfl ?_ ?_
      · exact Or.inr rfl
      · exact hq
    · omega
  | succ k ih =>
    intro i hi hq
    rw [rsF] at hq
    have no : (hasF a b fr < hasF i b fr ∨ hasF b a fr < hasF i a fr) → Gw l G (d + 1) m10_isRest 37 [.int (nI fr), .int (nI a), .int (nI b), .int (nI i)] [] h Q := by
      intro hh
      rw [if_pos hh] at hq
      refine e_iconst (v := nI 0) rfl ic_0N ?_
      refine e_zreturn rfl rfl ?_ ?_
      · exact Or.inl rfl
      · exact hq
    refine e_iload_n rfl rfl ?_
    refine e_iconst (v := nI 4) rfl ic_4N ?_
    first | refine e_icmp_gtN (tgt := 45) rfl rfl (by omega) (by omega) (fun z => ?_) (fun z => ?_) | refine e_icmp_gt (tgt := 45) rfl rfl (fun z => ?_) (fun z => ?_)
    · omega
    · refine e_iload_n rfl rfl ?_
      refine e_iload_n rfl rfl ?_
      refine e_iload_n rfl rfl ?_
      refine e_callSp (M2 := m10_hasOf) rfl v10_440 ok10_hasOf (c10_hasOf (d := d) (by omega) (by omega) hf) rfl rfl rfl ?_
      refine e_iload_n rfl rfl ?_
      refine e_iload_n rfl rfl ?_
      refine e_iload_n rfl rfl ?_
      refine e_callSp (M2 := m10_hasOf) rfl v10_440 ok10_hasOf (c10_hasOf (d := d) (by omega) (by omega) hf) rfl rfl rfl ?_
      refine e_icmp_gt (tgt := 37) rfl rfl (fun z => ?_) (fun z => ?_)
      · exact no (Or.inl z)
      · refine e_iload_n rfl rfl ?_
        refine e_iload_n rfl rfl ?_
        refine e_iload_n rfl rfl ?_
        refine e_callSp (M2 := m10_hasOf) rfl v10_440 ok10_hasOf (c10_hasOf (d := d) (by omega) (by omega) hf) rfl rfl rfl ?_
        refine e_iload_n rfl rfl ?_
        refine e_iload_n rfl rfl ?_
        refine e_iload_n rfl rfl ?_
        refine e_callSp (M2 := m10_hasOf) rfl v10_440 ok10_hasOf (c10_hasOf (d := d) (by omega) (by omega) hf) rfl rfl rfl ?_
        refine e_icmp_le (tgt := 39) rfl rfl (fun y => ?_) (fun y => ?_)
        · rw [if_neg (fun q => q.elim (fun q => z q) (fun q => absurd q (Int32.not_lt.mpr y)))] at hq
          first | refine e_inc3 rfl rfl rfl (incN1 _) ?_ | refine e_inc3 rfl rfl rfl rfl ?_
          refine e_goto (tgt := 2) rfl rfl ?_
          exact ih (i + 1) (by omega) hq
        · exact no (Or.inr (Int32.not_le.mp y))
theorem c10_isRest {a b fr : Nat} (ha : a ≤ 4) (hb : b ≤ 4) (hf : fr ≤ 9) : Cp l G (d + 1) m10_isRest [.int (nI fr), .int (nI a), .int (nI b)] h (.int (bI (isRst fr a b))) := by
  refine Cp.of ok10_isRest rfl (rfl : argL _ _ = [.int (nI fr), .int (nI a), .int (nI b), .null]) ?_
  refine e_iconst (v := nI 0) rfl ic_0N ?_
  refine e_ist3 rfl rfl rfl ?_
  exact misRest_loop ha hb hf 5 0 (by omega) ⟨rfl, rfl⟩
theorem restOf_loop {fr : Nat} (hf : fr ≤ 9) {x : Int32} : ∀ k i c, i + k = 25 → c ≤ i → Q (some (.int (roF fr x k i c))) h → Gw l G (d + 2) m10_restOf 4 [.int (nI fr), .int x, .int (nI c), .int (nI i)] [] h Q := by
  intro k
  induction k with
  | zero =>
    intro i c hi hc hq
    rw [roF] at hq
    refine e_iload_n rfl rfl ?_
    refine e_bipush (v := nI 25) rfl bp_25N ?_
    first | refine e_icmp_geN (tgt := 51) rfl rfl (by omega) (by omega) (fun z => ?_) (fun z => ?_) | refine e_icmp_ge (tgt := 51) rfl rfl (fun z => ?_) (fun z => ?_)
    · refine e_iload_n rfl rfl ?_
      refine e_iconst rfl ic_m1 ?_
      refine e_icmp_ne (tgt := 60) rfl rfl (fun z => ?_) (fun z => ?_)
      · rw [if_neg z] at hq
        refine e_bipush rfl bp_m2 ?_
        refine e_ireturn rfl rfl ?_
        exact hq
      · rw [if_pos z] at hq
        refine e_iload_n rfl rfl ?_
        refine e_goto (tgt := 62) rfl rfl ?_
        refine e_ireturn rfl rfl ?_
        exact hq
    · omega
  | succ k ih =>
    intro i c hi hc hq
    rw [roF] at hq
    obtain ⟨d1, d2⟩ := div5 i (by omega)
    refine e_iload_n rfl rfl ?_
    refine e_bipush (v := nI 25) rfl bp_25N ?_
    first | refine e_icmp_geN (tgt := 51) rfl rfl (by omega) (by omega) (fun z => ?_) (fun z => ?_) | refine e_icmp_ge (tgt := 51) rfl rfl (fun z => ?_) (fun z => ?_)
    · omega
    · refine e_iload_n rfl rfl ?_
      refine e_iload_n rfl rfl ?_
      refine e_iconst (v := nI 5) rfl ic_5N ?_
      refine e_idiv rfl (by first | assumption | decide) ?_
      rw [d1]
      refine e_iload_n rfl rfl ?_
      refine e_iconst (v := nI 5) rfl ic_5N ?_
      refine e_irem rfl (by first | assumption | decide) ?_
      rw [d2]
      refine e_callSp (M2 := m10_isRest) rfl v10_443 ok10_isRest (c10_isRest (d := d) (by omega) (by omega) hf) rfl rfl rfl ?_
      refine e_if_neB (tgt := 26) rfl rfl (fun z => ?_) (fun z => ?_)
      · rw [if_pos z] at hq
        refine e_iload_n rfl rfl ?_
        refine e_iload_n rfl rfl ?_
        refine e_icmp_ne (tgt := 42) rfl rfl (fun y => ?_) (fun y => ?_)
        · rw [if_neg y] at hq
          first | refine e_inc2 rfl rfl rfl (incN1 _) ?_ | refine e_inc2 rfl rfl rfl rfl ?_
          first | refine e_inc3 rfl rfl rfl (incN1 _) ?_ | refine e_inc3 rfl rfl rfl rfl ?_
          refine e_goto (tgt := 4) rfl rfl ?_
          exact ih (i + 1) (c + 1) (by omega) (by omega) hq
        · rw [if_pos y] at hq
          refine e_bipush (v := nI 10) rfl bp_10N ?_
          refine e_iload_n rfl rfl ?_
          refine e_iconst (v := nI 5) rfl ic_5N ?_
          refine e_idiv rfl (by first | assumption | decide) ?_
          rw [d1]
          first | refine e_imulN rfl ?_ | refine e_imul rfl ?_
          refine e_iload_n rfl rfl ?_
          refine e_iconst (v := nI 5) rfl ic_5N ?_
          refine e_irem rfl (by first | assumption | decide) ?_
          rw [d2]
          first | refine e_iaddN rfl ?_ | refine e_iadd rfl ?_
          refine e_ireturn rfl rfl ?_
          exact hq
      · rw [if_neg (by rw [z]; decide)] at hq
        refine e_goto (tgt := 45) rfl rfl ?_
        first | refine e_inc3 rfl rfl rfl (incN1 _) ?_ | refine e_inc3 rfl rfl rfl rfl ?_
        refine e_goto (tgt := 4) rfl rfl ?_
        exact ih (i + 1) c (by omega) (by omega) hq
theorem c10_restOf {fr : Nat} (hf : fr ≤ 9) (x : Int32) : Cp l G (d + 2) m10_restOf [.int (nI fr), .int x] h (.int (roF fr x 25 0 0)) := by
  refine Cp.of ok10_restOf rfl (rfl : argL _ _ = [.int (nI fr), .int x, .null, .null]) ?_
  refine e_iconst (v := nI 0) rfl ic_0N ?_
  refine e_ist2 rfl rfl rfl ?_
  refine e_iconst (v := nI 0) rfl ic_0N ?_
  refine e_ist3 rfl rfl rfl ?_
  exact restOf_loop hf 25 0 0 (by omega) (by omega) ⟨rfl, rfl⟩
theorem c10_isOpen (hM : MK K) (hn1 : I 104 1 = nI n) (h8 : n ≤ 8) (hR : RM I 0 n S B) (t : Int32) : Cp l G (d + 1) m10_isOpen [.ref 102, .int t] (I, J, K) (.int (bI (inN n t && decide (S 0 t.toNatClampNeg = nI 1)))) := by
  refine Cp.of ok10_isOpen rfl (rfl : argL _ _ = [.ref 102, .int t]) ?_
  refine e_aload_n rfl rfl ?_
  refine e_iload_n rfl rfl ?_
  refine e_callVp (kd := 10) (M2 := m10_isTin) rfl v10_397 ok10_isTin (c10_isTin (d := d) hM hn1 t) rfl hM.k rfl rfl rfl rfl ?_
  refine e_if_eqB (tgt := 22) rfl rfl (fun z => ?_) (fun z => ?_)
  · refine e_iconst (v := nI 0) rfl ic_0N ?_
    refine e_zreturn rfl rfl ?_ ?_
    · exact Or.inl rfl
    · rw [z]; exact ⟨rfl, rfl⟩
  · rw [z, Bool.true_and]
    obtain ⟨i, hi, rfl⟩ := inN_of (by omega) z
    rw [nI_clamp (by omega)]
    refine e_aload_n rfl rfl ?_
    refine e_getP rfl f10_105 hM.k rfl hM.p46 ?_
    refine e_iload_n rfl rfl ?_
    first | refine e_ialoadN rfl hM.a46 (by omega) (by omega) ?_ | (refine e_iaload rfl hM.a46 ?_ ?_; rotate_left)
    rw [(hR.z hi).1]
    refine e_iconst (v := nI 1) rfl ic_1N ?_
    refine e_icmp_ne (tgt := 22) rfl rfl (fun y => ?_) (fun y => ?_)
    · refine e_iconst (v := nI 0) rfl ic_0N ?_
      refine e_zreturn rfl rfl ?_ ?_
      · exact Or.inl rfl
      · rw [decide_eq_false y]; exact ⟨rfl, rfl⟩
    · refine e_iconst (v := nI 1) rfl ic_1N ?_
      refine e_goto (tgt := 23) rfl rfl ?_
      refine e_zreturn rfl rfl ?_ ?_
      · exact Or.inr rfl
      · rw [decide_eq_true y]; exact ⟨rfl, rfl⟩
theorem c10_rests (hM : MK K) (hI : MI I P S im SI m T kn u Hs B) (hn : P.1 1 = n) (hW : W1 n S) (t : Int32) : Cw l G (d + 3) m10_rests [.ref 102, .int t] (I, J, K) (fun r h' => r = some (.int (a_rests S n t)) ∧ MPst I J K h' P S im SI m T kn u Hs (B + 2)) := by
  have g0 : FQm I J (u2 I 102 0 (nI 0)) J := FQm.w0
  have hI1 := hI.t0 J
  have hR := hI1.2.2.1
  rw [hn] at hR
  have h8 := hI.2.1.1.1.2.1
  have hn1 : (u2 I 102 0 (nI 0)) 104 1 = nI n := by rw [← hn]; exact hI1.1.1.2.1
  unfold a_rests
  refine Cw.of ok10_rests rfl (rfl : argL _ _ = [.ref 102, .int t]) ?_
  refine e_aload_n rfl rfl ?_
  refine e_iconst (v := nI 0) rfl ic_0N ?_
  refine e_putI rfl f10_151 hM.k rfl rfl ?_
  refine e_aload_n rfl rfl ?_
  refine e_iload_n rfl rfl ?_
  refine e_callVp (kd := 10) (M2 := m10_isOpen) rfl v10_447 ok10_isOpen (c10_isOpen (d := d + 1) hM hn1 (by omega) hR t) rfl hM.k rfl rfl rfl rfl ?_
  refine e_if_eqB (tgt := 26) rfl rfl (fun z => ?_) (fun z => ?_)
  · rw [if_neg (fun q => absurd z (by rw [q.1, decide_eq_true q.2]; decide))]
    refine e_iconst rfl ic_m1 ?_
    refine e_ireturn rfl rfl ?_
    exact ⟨rfl, hI.fin g0⟩
  · obtain ⟨z1, z2⟩ := (Bool.and_eq_true _ _).mp z
    rw [if_pos ⟨z1, of_decide_eq_true z2⟩]
    obtain ⟨i, hi, rfl⟩ := inN_of (by omega) z1
    obtain ⟨st, de, fr, -, -, b3, -, -, f4, -, -⟩ := hW.1 i hi
    rw [nI_clamp (by omega), f4, nI_clamp (by omega)]
    refine e_aload_n rfl rfl ?_
    refine e_getP rfl f10_108 hM.k rfl hM.p47 ?_
    refine e_iload_n rfl rfl ?_
    first | refine e_ialoadN rfl hM.a47 (by omega) (by omega) ?_ | (refine e_iaload rfl hM.a47 ?_ ?_; rotate_left)
    rw [((hR.z hi).2.2.2.1).trans f4]
    refine e_iconst rfl ic_m1 ?_
    refine e_callSp (M2 := m10_restOf) rfl v10_450 ok10_restOf (c10_restOf (d := d) b3 _) rfl rfl rfl ?_
    rw [ro_c _ _ _ (by omega)]
    refine e_goto (tgt := 27) rfl rfl ?_
    refine e_ireturn rfl rfl ?_
    exact ⟨rfl, hI.fin g0⟩
theorem c10_rest (hM : MK K) (hI : MI I P S im SI m T kn u Hs B) (hn : P.1 1 = n) (hW : W1 n S) (t x : Int32) : Cw l G (d + 3) m10_rest [.ref 102, .int t, .int x] (I, J, K) (fun r h' => r = some (.int (a_rest S n t x)) ∧ MPst I J K h' P S im SI m T kn u Hs (B + 2)) := by
  have g0 : FQm I J (u2 I 102 0 (nI 0)) J := FQm.w0
  have hI1 := hI.t0 J
  have hR := hI1.2.2.1
  rw [hn] at hR
  have h8 := hI.2.1.1.1.2.1
  have hn1 : (u2 I 102 0 (nI 0)) 104 1 = nI n := by rw [← hn]; exact hI1.1.1.2.1
  unfold a_rest
  refine Cw.of ok10_rest rfl (rfl : argL _ _ = [.ref 102, .int t, .int x]) ?_
  refine e_aload_n rfl rfl ?_
  refine e_iconst (v := nI 0) rfl ic_0N ?_
  refine e_putI rfl f10_151 hM.k rfl rfl ?_
  refine e_aload_n rfl rfl ?_
  refine e_iload_n rfl rfl ?_
  refine e_callVp (kd := 10) (M2 := m10_isOpen) rfl v10_447 ok10_isOpen (c10_isOpen (d := d + 1) hM hn1 (by omega) hR t) rfl hM.k rfl rfl rfl rfl ?_
  refine e_if_eqB (tgt := 30) rfl rfl (fun z => ?_) (fun z => ?_)
  · rw [if_neg (fun q => absurd z (by rw [q.1, decide_eq_true q.2.1]; decide))]
    refine e_iconst rfl ic_m1 ?_
    refine e_ireturn rfl rfl ?_
    exact ⟨rfl, hI.fin g0⟩
  · obtain ⟨z1, z2⟩ := (Bool.and_eq_true _ _).mp z
    refine e_iload_n rfl rfl ?_
    refine e_if_lt (tgt := 30) rfl rfl (fun y => ?_) (fun y => ?_)
    · rw [if_neg (fun q => absurd y (Int32.not_lt.mpr q.2.2))]
      refine e_iconst rfl ic_m1 ?_
      refine e_ireturn rfl rfl ?_
      exact ⟨rfl, hI.fin g0⟩
    · rw [if_pos ⟨z1, of_decide_eq_true z2, Int32.not_lt.mp y⟩]
      obtain ⟨i, hi, rfl⟩ := inN_of (by omega) z1
      obtain ⟨st, de, fr, -, -, b3, -, -, f4, -, -⟩ := hW.1 i hi
      rw [nI_clamp (by omega), f4, nI_clamp (by omega)]
      refine e_aload_n rfl rfl ?_
      refine e_getP rfl f10_108 hM.k rfl hM.p47 ?_
      refine e_iload_n rfl rfl ?_
      first | refine e_ialoadN rfl hM.a47 (by omega) (by omega) ?_ | (refine e_iaload rfl hM.a47 ?_ ?_; rotate_left)
      rw [((hR.z hi).2.2.2.1).trans f4]
      refine e_iload_n rfl rfl ?_
      refine e_callSp (M2 := m10_restOf) rfl v10_450 ok10_restOf (c10_restOf (d := d) b3 _) rfl rfl rfl ?_
      rw [ro_k (fun q => y (by rw [q]; decide))]
      refine e_goto (tgt := 31) rfl rfl ?_
      refine e_ireturn rfl rfl ?_
      exact ⟨rfl, hI.fin g0⟩
theorem cm_loop {x y : Int64} : ∀ k a b v, b ≤ k → a < 2 ^ 62 → b < 2 ^ 62 → Q (some (.long (lN (Nat.gcd a b)))) h → Gw l G d m10_common 6 [.long x, .null, .long y, .null, .long (lN a), .null, .long (lN b), .null, v, .null] [] h Q := by
  intro k
  induction k with
  | zero =>
    intro a b v hk ha hb hq
    obtain rfl : b = 0 := Nat.le_zero.mp hk
    rw [Nat.gcd_zero_right] at hq
    refine e_lload rfl rfl ?_
    refine e_lconst (v := 0) rfl rfl ?_
    refine e_lcmp rfl ?_
    refine e_if_eqC (tgt := 31) rfl rfl (fun z => ?_) (fun z => absurd rfl z)
    refine e_lload rfl rfl ?_
    refine e_lreturn rfl rfl ?_
    exact hq
  | succ k ih =>
    intro a b v hk ha hb hq
    refine e_lload rfl rfl ?_
    refine e_lconst (v := 0) rfl rfl ?_
    refine e_lcmp rfl ?_
    refine e_if_eqC (tgt := 31) rfl rfl (fun z => ?_) (fun z => ?_)
    · have hb0 : b = 0 := (pk_lEQ (by omega) (by omega : (0 : Nat) < 2 ^ 63)).mp z
      subst hb0
      rw [Nat.gcd_zero_right] at hq
      refine e_lload rfl rfl ?_
      refine e_lreturn rfl rfl ?_
      exact hq
    · have hb0 : 0 < b := Nat.pos_of_ne_zero (fun q => z (by rw [q]; rfl))
      refine e_lload rfl rfl ?_
      refine e_lload rfl rfl ?_
      refine e_lrem rfl (by first | assumption | decide) ?_
      rw [pk_lRem (by omega) hb0 (by omega)]
      refine e_lst8 rfl rfl rfl ?_
      refine e_lload rfl rfl ?_
      refine e_lst4 rfl rfl rfl ?_
      refine e_lload rfl rfl ?_
      refine e_lst6 rfl rfl rfl ?_
      refine e_goto (tgt := 6) rfl rfl ?_
      have hlt := Nat.mod_lt a hb0
      exact ih b (a % b) _ (by omega) (by omega) (by omega) (by rw [← gcd_step]; exact hq)
theorem c10_common {a b : Nat} (ha : a < 2 ^ 62) (hb : b < 2 ^ 62) : Cp l G d m10_common [.long (lN a), .long (lN b)] h (.long (lN (Nat.gcd a b))) := by
  refine Cp.of ok10_common rfl (rfl : argL _ _ = [.long (lN a), .null, .long (lN b), .null, .null, .null, .null, .null, .null, .null]) ?_
  refine e_lload_n rfl rfl ?_
  refine e_lst4 rfl rfl rfl ?_
  refine e_lload_n rfl rfl ?_
  refine e_lst6 rfl rfl rfl ?_
  exact cm_loop b a b _ (by omega) ha hb ⟨rfl, rfl⟩
theorem mwhole_loop (hM : MK K) {r N : Nat} {w : Int32} (hr : r ≤ 100) (hN : N ≤ 6) (er : I 104 5 = nI r) : ∀ k i, i + k = N → Gw l G (d + 1) m10_whole 70 [.ref 102, .int (nI N), .int w, .long (lN (abF r N)), .null, .long (lN (100 ^ N)), .null, .int (nI N), .null] [] (I, J, K) Q → Gw l G (d + 1) m10_whole 36 [.ref 102, .int (nI N), .int w, .long (lN (abF r i)), .null, .long (lN (100 ^ i)), .null, .int (nI i), .null] [] (I, J, K) Q := by
  intro k
  induction k with
  | zero =>
    intro i hi kk
    obtain rfl : i = N := by omega
    refine e_iload rfl rfl ?_
    refine e_iload_n rfl rfl ?_
    first | refine e_icmp_geN (tgt := 70) rfl rfl (by omega) (by omega) (fun z => ?_) (fun z => ?_) | refine e_icmp_ge (tgt := 70) rfl rfl (fun z => ?_) (fun z => ?_)
    · exact kk
    · omega
  | succ k ih =>
    intro i hi kk
    refine e_iload rfl rfl ?_
    refine e_iload_n rfl rfl ?_
    first | refine e_icmp_geN (tgt := 70) rfl rfl (by omega) (by omega) (fun z => ?_) (fun z => ?_) | refine e_icmp_ge (tgt := 70) rfl rfl (fun z => ?_) (fun z => ?_)
    · omega
    · refine e_lload_n rfl rfl ?_
      refine e_ldc2 rfl k10_455 ?_
      refine e_aload_n rfl rfl ?_
      refine e_getP rfl f10_13 hM.k rfl hM.p3 ?_
      refine e_iconst (v := nI 5) rfl ic_5N ?_
      first | refine e_ialoadN rfl hM.a3 (by omega) (by omega) ?_ | (refine e_iaload rfl hM.a3 ?_ ?_; rotate_left)
      rw [er]
      refine e_i2l rfl ?_
      refine e_lsub rfl ?_
      rw [sub100 r hr]
      refine e_lmul rfl ?_
      rw [lN_mul]
      refine e_lst3 rfl rfl rfl ?_
      refine e_lload rfl rfl ?_
      refine e_ldc2 rfl k10_455 ?_
      rw [show (100 : Int64) = lN 100 from rfl]
      refine e_lmul rfl ?_
      rw [lN_mul]
      refine e_lst5 rfl rfl rfl ?_
      first | refine e_inc7 rfl rfl rfl (incN1 _) ?_ | refine e_inc7 rfl rfl rfl rfl ?_
      refine e_goto (tgt := 36) rfl rfl ?_
      have e1 : abF r i * (100 - r) = abF r (i + 1) := by unfold abF; rw [Nat.pow_succ]
      have e2 : 100 ^ i * 100 = 100 ^ (i + 1) := by rw [Nat.pow_succ]
      rw [e1, e2]
      exact ih (i + 1) (by omega) kk
theorem c10_whole (hM : MK K) (hI : MI I P S im SI m T kn u Hs B) (x w : Int32) : Cw l G (d + 1) m10_whole [.ref 102, .int x, .int w] (I, J, K) (fun r h' => r = some (.long (a_whole P x w)) ∧ MPst I J K h' P S im SI m T kn u Hs (B + 2)) := by
  have g0 : FQm I J (u2 I 102 0 (nI 0)) J := FQm.w0
  have hI1 := hI.t0 J
  have no : ¬ (inN 7 x = true ∧ inN 2 w = true) → ∀ v3 v4 v5 v6 v7 v8, Gw l G (d + 1) m10_whole 24 [.ref 102, .int x, .int w, v3, v4, v5, v6, v7, v8] [] (u2 I 102 0 (nI 0), J, K) (fun r h' => r = some (.long (a_whole P x w)) ∧ MPst I J K h' P S im SI m T kn u Hs (B + 2)) := by
    intro hno v3 v4 v5 v6 v7 v8
    rw [a_whole, if_neg hno]
    refine e_ldc2 rfl k10_453 ?_
    refine e_lreturn rfl rfl ?_
    exact ⟨rfl, hI.fin g0⟩
  obtain ⟨r, hr, er⟩ := hI.2.1.1.2.2.2.2.2.2.1
  have er2 : (u2 I 102 0 (nI 0)) 104 5 = nI r := hI1.1.1.2.2.2.2.2.1.trans er
  refine Cw.of ok10_whole rfl (rfl : argL _ _ = [.ref 102, .int x, .int w, .null, .null, .null, .null, .null, .null]) ?_
  refine e_aload_n rfl rfl ?_
  refine e_iconst (v := nI 0) rfl ic_0N ?_
  refine e_putI rfl f10_151 hM.k rfl rfl ?_
  refine e_iload_n rfl rfl ?_
  refine e_if_lt (tgt := 24) rfl rfl (fun y => ?_) (fun y0 => ?_)
  · exact no (fun q => (inN_lo (k := 6) (by omega) q.1).1 y) _ _ _ _ _ _
  · refine e_iload_n rfl rfl ?_
    refine e_bipush (v := nI 6) rfl bp_6N ?_
    refine e_icmp_gt (tgt := 24) rfl rfl (fun y => ?_) (fun y1 => ?_)
    · exact no (fun q => absurd (inN_lo (k := 6) (by omega) q.1).2 (Int32.not_le.mpr y)) _ _ _ _ _ _
    · have hx : inN 7 x = true := inN_hi (k := 6) (by omega) y0 (Int32.not_lt.mp y1)
      refine e_iload_n rfl rfl ?_
      refine e_if_lt (tgt := 24) rfl rfl (fun y => ?_) (fun y2 => ?_)
      · exact no (fun q => (inN_lo (k := 1) (by omega) q.2).1 y) _ _ _ _ _ _
      · refine e_iload_n rfl rfl ?_
        refine e_iconst (v := nI 1) rfl ic_1N ?_
        refine e_icmp_le (tgt := 28) rfl rfl (fun y3 => ?_) (fun y3 => ?_)
        · have hw : inN 2 w = true := inN_hi (k := 1) (by omega) y2 y3
          obtain ⟨N, hN, rfl⟩ := inN_of (by omega) hx
          obtain ⟨v, hv, rfl⟩ := inN_of (by omega) hw
          rw [a_whole, if_pos ⟨hx, hw⟩, er, nI_clamp (by omega), nI_clamp (by omega)]
          refine e_lconst (v := 1) rfl rfl ?_
          refine e_lst3 rfl rfl rfl ?_
          refine e_lconst (v := 1) rfl rfl ?_
          refine e_lst5 rfl rfl rfl ?_
          refine e_iconst (v := nI 0) rfl ic_0N ?_
          refine e_ist7 rfl rfl rfl ?_
          refine mwhole_loop (r := r) hM hr (by omega) er2 N 0 (by omega) ?_
          obtain ⟨h1, h2⟩ := abF_le (r := r) (N := N) (by omega)
          have p0 : 0 < 100 ^ N := Nat.pow_pos (by omega)
          have gp : 0 < Nat.gcd (abF r N) (100 ^ N) := Nat.gcd_pos_of_pos_right _ p0
          have gl : Nat.gcd (abF r N) (100 ^ N) ≤ 100 ^ N := Nat.le_of_dvd p0 (Nat.gcd_dvd_right _ _)
          have g0' : ¬ lN (Nat.gcd (abF r N) (100 ^ N)) = 0 := fun q => absurd ((pk_lEQ (by omega) (by omega : (0 : Nat) < 2 ^ 63)).mp q) (by omega)
          refine e_lload_n rfl rfl ?_
          refine e_lload rfl rfl ?_
          refine e_callSp (M2 := m10_common) rfl v10_457 ok10_common (c10_common (d := d) (by omega) (by omega)) rfl rfl rfl ?_
          refine e_lst7 rfl rfl rfl ?_
          refine e_iload_n rfl rfl ?_
          first | refine e_if_neB (tgt := 89) rfl rfl (fun z => ?_) (fun z => ?_) | refine e_if_neN (tgt := 89) rfl rfl (by omega) (fun z => ?_) (fun z => ?_) | refine e_if_ne (tgt := 89) rfl rfl (fun z => ?_) (fun z => ?_)
          · have y : v ≠ 0 := by assumption
            refine e_lload rfl rfl ?_
            refine e_lload rfl rfl ?_
            refine e_ldiv rfl (by first | assumption | decide) ?_
            refine e_lreturn rfl rfl ?_
            rw [pk_lDiv (by omega) gp (by omega), if_neg (ne42 y (by omega) (by omega))]
            exact ⟨rfl, hI.fin g0⟩
          · have y : v = 0 := by assumption
            refine e_lload_n rfl rfl ?_
            refine e_lload rfl rfl ?_
            refine e_ldiv rfl (by first | assumption | decide) ?_
            refine e_goto (tgt := 94) rfl rfl ?_
            refine e_lreturn rfl rfl ?_
            rw [pk_lDiv (by omega) gp (by omega), if_pos (by rw [y])]
            exact ⟨rfl, hI.fin g0⟩
        · exact no (fun q => absurd (inN_lo (k := 1) (by omega) q.2).2 y3) _ _ _ _ _ _
end MRest
