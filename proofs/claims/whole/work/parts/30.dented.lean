/-! ===== dented; which, ask, note, see, strike, known ===== -/
section MDen
variable {l : Launch} {G : GG} {d : Nat} {I : IM} {J : JM} {K : Kt} {Q : Option Value → Hp → Prop} {P : Pl} {S : SM} {im : Bool} {SI : SM} {m : Nat} {T : SM} {kn : Int32} {u : Nat} {Hs : Nat → SM} {B n : Nat}
theorem seen_loop (hG : GK K) (hW : wfP P) (hn : P.1 1 = n) {c : Int32} {N : Nat} (hN : N ≤ 60) : ∀ k i I J S, i + k = N → RP I 33 P → RT I 86 m T kn → RC I J 70 n S → I 60 2 = bI false → I 60 3 = nI 0 → (∀ I' J', FQ I J I' J' → I' 60 = I 60 → Q (some (.int (bI (seF P n m T c k (i + 1) S)))) (I', J', K)) → Gw l G (d + 6) m9_isSeenSo 11 [.ref 0, .int c, .int (nI N), .int (nI (i + 1))] [] (I, J, K) Q := by
  have hG2 := hG
  obtain ⟨⟨k9, t0, t2, t3, t4, t5, t6, t7, t9, t10, t11, t12⟩, -, -, -, hP, hD, hS6, hS, -, hT8, -⟩ := hG2
  have h0 := hD.1
  have h8 := hT8.1
  intro k
  induction k with
  | zero =>
    intro i I J S hi hR hT hC d2 d3 kk
    have := kk I J FQ.rf rfl
    refine e_iload_n rfl rfl ?_
    refine e_iload_n rfl rfl ?_
    first | refine e_icmp_gtN (tgt := 51) rfl rfl (by omega) (by omega) (fun z => ?_) (fun z => ?_) | refine e_icmp_gt (tgt := 51) rfl rfl (fun z => ?_) (fun z => ?_)
    · refine e_iconst (v := nI 1) rfl ic_1N ?_
      refine e_zreturn rfl rfl ?_ ?_
      · exact Or.inr rfl
      · exact this
    · omega
  | succ k ih =>
    intro i I J S hi hR hT hC d2 d3 kk
    refine e_iload_n rfl rfl ?_
    refine e_iload_n rfl rfl ?_
    first | refine e_icmp_gtN (tgt := 51) rfl rfl (by omega) (by omega) (fun z => ?_) (fun z => ?_) | refine e_icmp_gt (tgt := 51) rfl rfl (fun z => ?_) (fun z => ?_)
    · omega
    · refine e_aload_n rfl rfl ?_
      refine e_getP rfl f9_34 (by assumption) rfl (by assumption) ?_
      refine e_aload_n rfl rfl ?_
      refine e_getP rfl f9_45 (by assumption) rfl (by assumption) ?_
      refine e_callV (kd := 0) (M2 := m0_pass) rfl v9_212 ok0_pass (c0_pass hG.hd70 hR hW hC hn d2 d3 rfl) rfl (by assumption) rfl rfl rfl rfl (fun r1 h1 q1 => ?_)
      obtain ⟨rfl, I1, J1, rfl, f1, C1⟩ := q1
      rw [pa_sp (sp' := nI 0) (by decide)] at C1
      have e60 := f1.c60 (by omega)
      have q1 := f1.fq
      have es : ssF T c (nI (i + 1)) n (I1 (70 + 1)) 0 m = ssF T c (nI (i + 1)) n (pa0 P false n S 0) 0 m := ssF_congr (by have := C1.2.1; omega) (fun t ht => (C1.2.2.1 t ht).1) m 0
      refine e_aload_n rfl rfl ?_
      refine e_getP rfl f9_54 (by assumption) rfl (by assumption) ?_
      refine e_iload_n rfl rfl ?_
      refine e_iload_n rfl rfl ?_
      refine e_aload_n rfl rfl ?_
      refine e_getP rfl f9_45 (by assumption) rfl (by assumption) ?_
      refine e_callVp (kd := 8) (M2 := m8_isSeenSo) rfl v9_340 ok8_isSeenSo (c8_isSeenSo hT8 (q1.rt hT) hS C1.1 C1.2.1 c (nI (i + 1))) rfl (by assumption) rfl rfl rfl rfl ?_
      rw [es]
      first | refine e_if_neB (tgt := 45) rfl rfl (fun z => ?_) (fun z => ?_) | refine e_if_neN (tgt := 45) rfl rfl (by omega) (fun z => ?_) (fun z => ?_) | refine e_if_ne (tgt := 45) rfl rfl (fun z => ?_) (fun z => ?_)
      · have y := z
        first | refine e_inc3 rfl rfl rfl (incN1 _) ?_ | refine e_inc3 rfl rfl rfl rfl ?_
        refine e_goto (tgt := 11) rfl rfl ?_
        refine ih (i + 1) I1 J1 _ (by omega) (q1.rp hR) (q1.rt hT) C1 (by rw [e60]; exact d2) (by rw [e60]; exact d3) (fun I2 J2 f2 e2 => ?_)
        have := kk I2 J2 (q1.tr f2) (e2.trans e60)
        rw [seF, if_pos y] at this
        exact this
      · have y := z
        have := kk I1 J1 q1 e60
        rw [seF, if_neg (by rw [y]; decide)] at this
        refine e_iconst (v := nI 0) rfl ic_0N ?_
        refine e_zreturn rfl rfl ?_ ?_
        · exact Or.inl rfl
        · exact this
theorem lsF_in {T : SM} {c : Int32} (hT : ∀ i, i < m → T 0 i = nI 2 → ∃ j, j ≤ 60 ∧ T 1 i = nI j) : ∀ k i v, i + k ≤ m → v ≤ 60 → ∃ j, j ≤ 60 ∧ lsF T c i k (nI v) = nI j
  | 0, _, v, _, hv => ⟨v, hv, rfl⟩
  | k + 1, i, v, hi, hv => by
    rw [lsF]
    by_cases q : bitOf c (nI i) = true ∧ T 0 i = nI 2
    · obtain ⟨j, hj, e⟩ := hT i (by omega) q.2
      rw [if_pos q, e]
      by_cases q2 : nI v < nI j
      · rw [if_pos q2]; exact lsF_in hT k (i + 1) j (by omega) hj
      · rw [if_neg q2]; exact lsF_in hT k (i + 1) v (by omega) hv
    · rw [if_neg q]; exact lsF_in hT k (i + 1) v (by omega) hv
/-- what is told is in order -/
def wfT (n m : Nat) (T : SM) (kn : Int32) : Prop := (∀ i, i < m → T 0 i = nI 2 → ∃ j, j ≤ 60 ∧ T 1 i = nI j) ∧ (∀ i, i < m → T 0 i = nI 2 → ∃ j, j < n ∧ T 2 i = nI j) ∧ (∀ i, i < m → T 0 i = nI 3 → ∃ j, j < i ∧ T 1 i = nI j) ∧ (kn = -1 ∨ ∃ j, j ≤ m ∧ kn = nI j) ∧ (∀ i, i < m → T 0 i = nI 0 ∨ T 0 i = nI 1 ∨ T 0 i = nI 2 ∨ T 0 i = nI 3) ∧ m ≤ 24
/-- how many count -/
def kwn (kn : Int32) (m : Nat) : Nat := if kn = -1 then m else kn.toNatClampNeg
theorem hmk_kwn {m : Nat} {T : SM} {kn : Int32} (h : wfT n m T kn) : hmk kn m = nI (kwn kn m) ∧ kwn kn m ≤ m := by
  obtain ⟨-, -, -, h, -, hm⟩ := h
  unfold hmk kwn
  rcases h with rfl | ⟨j, hj, rfl⟩
  · rw [if_pos rfl, if_pos rfl]
    exact ⟨rfl, Nat.le_refl m⟩
  · have e : ¬ nI j = -1 := fun q => absurd (q ▸ nI_pos' (by omega) : (0 : Int32) ≤ -1) (by decide)
    rw [if_neg e, if_neg e, nI_clamp (by omega), if_neg (fun q => absurd ((nI_ltI (by omega) (by omega)).mp q) (by omega))]
    exact ⟨rfl, hj⟩
theorem c9_isSeenSo (hG : GK K) (hR : RP I 33 P) (hW : wfP P) (hT : RT I 86 m T kn) (hwT : wfT n m T kn) (hC : RC I J 70 n S) (hn : P.1 1 = n) (c : Int32) (d2 : I 60 2 = bI false) (d3 : I 60 3 = nI 0) : Cw l G (d + 6) m9_isSeenSo [.ref 0, .int c] (I, J, K) (fun r h' => r = some (.int (bI (seF P n m T c (lsF T c 0 m (nI 0)).toNatClampNeg 1 S))) ∧ ∃ I' J', h' = (I', J', K) ∧ FQ I J I' J' ∧ I' 60 = I 60) := by
  have hG2 := hG
  obtain ⟨⟨k9, t0, t2, t3, t4, t5, t6, t7, t9, t10, t11, t12⟩, -, -, -, hP, hD, hS, hS7, -, hT8, -⟩ := hG2
  have h8 := hT8.1
  obtain ⟨N, hN, eN⟩ := lsF_in (c := c) hwT.1 m 0 0 (by omega) (by omega)
  refine Cw.of ok9_isSeenSo rfl (rfl : argL _ _ = [.ref 0, .int c, .null, .null]) ?_
  refine e_aload_n rfl rfl ?_
  refine e_getP rfl f9_54 (by assumption) rfl (by assumption) ?_
  refine e_iload_n rfl rfl ?_
  refine e_callVp (kd := 8) (M2 := m8_lastSeen) rfl v9_337 ok8_lastSeen (c8_lastSeen hT8 hT c) rfl (by assumption) rfl rfl rfl rfl ?_
  rw [eN, if_neg (fun q => absurd ((nI_ltI (by omega) (by omega)).mp q) (by omega)), nI_clamp (by omega)]
  refine e_ist2 rfl rfl rfl ?_
  refine e_iconst (v := nI 1) rfl ic_1N ?_
  refine e_ist3 rfl rfl rfl ?_
  exact seen_loop hG hW hn hN N 0 I J S (by omega) hR hT hC d2 d3 (fun I1 J1 q1 e1 => ⟨rfl, I1, J1, rfl, q1, e1⟩)
/-- the days begin with so many DENTS on one -/
def deF (P : Pl) (n m : Nat) (T : SM) (c : Int32) (t q : Nat) : Bool := seF P n m T c (lsF T c 0 m (nI 0)).toNatClampNeg 1 (u2 (beg P) 1 t (nI q))
theorem dented_loop (hG : GK K) (hW : wfP P) (hwT : wfT n m T kn) (hn : P.1 1 = n) {t : Nat} (ht : t < n) {c : Int32} : ∀ k q I J b, q + k = 10 → RP I 33 P → RT I 86 m T kn → I 60 2 = bI false → I 60 3 = nI 0 → (∀ I' J', FQ I J I' J' → Q (some (.int (bitF (deF P n m T c t) q k b))) (I', J', K)) → Gw l G (d + 7) m9_dented 33 [.ref 0, .int (nI t), .int b, .int c, .int (nI q)] [] (I, J, K) Q := by
  have hG2 := hG
  obtain ⟨⟨k9, t0, t2, t3, t4, t5, t6, t7, t9, t10, t11, t12⟩, -, -, -, hP, hD, hS6, hS, -⟩ := hG2
  have hS2 := hS
  obtain ⟨h6, p0, p1, p2, p3, p4, p5, p6, a1, a2, a3, a4, a5, a6, a7⟩ := hS2
  intro k
  induction k with
  | zero =>
    intro q I J b hq hR hT d2 d3 kk
    obtain rfl : q = 10 := by omega
    have := kk I J FQ.rf
    refine e_iload rfl rfl ?_
    refine e_bipush (v := nI 9) rfl bp_9N ?_
    first | refine e_icmp_gtN (tgt := 83) rfl rfl (by omega) (by omega) (fun z => ?_) (fun z => ?_) | refine e_icmp_gt (tgt := 83) rfl rfl (fun z => ?_) (fun z => ?_)
    · refine e_iload_n rfl rfl ?_
      refine e_ireturn rfl rfl ?_
      exact this
    · omega
  | succ k ih =>
    intro q I J b hq hR hT d2 d3 kk
    have hn8 : n ≤ 8 := hn ▸ hR.2.2.1.2
    refine e_iload rfl rfl ?_
    refine e_bipush (v := nI 9) rfl bp_9N ?_
    first | refine e_icmp_gtN (tgt := 83) rfl rfl (by omega) (by omega) (fun z => ?_) (fun z => ?_) | refine e_icmp_gt (tgt := 83) rfl rfl (fun z => ?_) (fun z => ?_)
    · omega
    · refine e_aload_n rfl rfl ?_
      refine e_getP rfl f9_45 (by assumption) rfl (by assumption) ?_
      refine e_aload_n rfl rfl ?_
      refine e_getP rfl f9_25 (by assumption) rfl (by assumption) ?_
      refine e_callV (kd := 6) (M2 := m6_begin) rfl v9_72 ok6_begin (c6_begin hS hP (by omega) hR) rfl (by assumption) rfl rfl rfl rfl (fun r1 h1 q1 => ?_)
      obtain ⟨rfl, I1, J1, rfl, f1, g1, C1, H1'⟩ := q1
      refine e_aload_n rfl rfl ?_
      refine e_getP rfl f9_45 (by assumption) rfl (by assumption) ?_
      refine e_getP rfl f9_136 (by assumption) rfl (by assumption) ?_
      refine e_iload_n rfl rfl ?_
      refine e_iload rfl rfl ?_
      first | refine e_iastoreN rfl (by assumption) (by omega) (by omega) ?_ | (refine e_iastore rfl (by assumption) ?_ ?_; rotate_left)
      rw [hn] at C1
      have C2 : RC (u2 I1 (70 + 2) t (nI q)) J1 70 n (u2 (beg P) 1 t (nI q)) := C1.up1 ht _
      have q1 : FQ I J (u2 I1 (70 + 2) t (nI q)) J1 := ⟨fun c b1 b2 b3 b4 b5 => by rw [u2_row _ _ (by omega)]; exact f1 c (by omega), fun c b1 b2 => g1 c b2⟩
      have e1 : u2 I1 (70 + 2) t (nI q) 60 = I 60 := by rw [u2_row _ _ (by omega)]; exact f1 60 (by omega)
      refine e_aload_n rfl rfl ?_
      refine e_iload_n rfl rfl ?_
      refine e_callV (kd := 9) (M2 := m9_isSeenSo) rfl v9_334 ok9_isSeenSo (c9_isSeenSo hG (q1.rp hR) hW (q1.rt hT) hwT C2 hn c (by rw [e1]; exact d2) (by rw [e1]; exact d3)) rfl (by assumption) rfl rfl rfl rfl (fun r1 h1 q1 => ?_)
      obtain ⟨rfl, I2, J2, rfl, q2, e2⟩ := q1
      first | refine e_if_eqB (tgt := 77) rfl rfl (fun z => ?_) (fun z => ?_) | refine e_if_eqN (tgt := 77) rfl rfl (by omega) (fun z => ?_) (fun z => ?_) | refine e_if_eq (tgt := 77) rfl rfl (fun z => ?_) (fun z => ?_)
      · have y : deF P n m T c t q = false := z
        have q3 := q1.tr q2
        have e3 : I2 60 = I 60 := e2.trans e1
        first | refine e_inc4 rfl rfl rfl (incN1 _) ?_ | refine e_inc4 rfl rfl rfl rfl ?_
        refine e_goto (tgt := 33) rfl rfl ?_
        refine ih (q + 1) I2 J2 b (by omega) (q3.rp hR) (q3.rt hT) (by rw [e3]; exact d2) (by rw [e3]; exact d3) (fun I4 J4 q4 => ?_)
        have := kk I4 J4 (q3.tr q4)
        rw [bitF, if_neg (by rw [y]; decide)] at this
        exact this
      · have y : deF P n m T c t q = true := z
        have q3 := q1.tr q2
        have e3 : I2 60 = I 60 := e2.trans e1
        refine e_iload_n rfl rfl ?_
        refine e_iconst (v := nI 1) rfl ic_1N ?_
        refine e_iload rfl rfl ?_
        refine e_ishl rfl ?_
        refine e_ior rfl ?_
        refine e_ist2 rfl rfl rfl ?_
        first | refine e_inc4 rfl rfl rfl (incN1 _) ?_ | refine e_inc4 rfl rfl rfl rfl ?_
        refine e_goto (tgt := 33) rfl rfl ?_
        refine ih (q + 1) I2 J2 _ (by omega) (q3.rp hR) (q3.rt hT) (by rw [e3]; exact d2) (by rw [e3]; exact d3) (fun I4 J4 q4 => ?_)
        have := kk I4 J4 (q3.tr q4)
        rw [bitF, if_pos y] at this
        exact this
def a_dented (P : Pl) (n m : Nat) (T : SM) (kn t : Int32) : Int32 := if inN n t = true then bitF (deF P n m T (cntd T (kwn kn m) (nI 0) (nI 0)) t.toNatClampNeg) 0 10 (nI 0) else -1
theorem c9_dented (hG : GK K) (hI : CI I J P S im SI m T kn u Hs B) (hwT : wfT n m T kn) (hn : P.1 1 = n) (t : Int32) : Cw l G (d + 7) m9_dented [.ref 0, .int t] (I, J, K) (fun r h' => r = some (.int (a_dented P n m T kn t)) ∧ Pst I J K h' P S im SI m T kn u Hs (B + 1)) := by
  have hG2 := hG
  obtain ⟨⟨k9, t0, t2, t3, t4, t5, t6, t7, t9, t10, t11, t12⟩, -, -, -, hP, hD, hS, hS7, -, hT8, -⟩ := hG2
  have hI2 := hI
  obtain ⟨hR, hW, hC, hHC, hIm, hImg, hRT, U, hRU, hUB⟩ := hI2
  rw [hn] at hC hHC hUB
  have h6 := hS.1
  have h0 := hD.1
  have h8 := hT8.1
  have hn8 := hC.2.1
  obtain ⟨ek, hk⟩ := hmk_kwn hwT
  refine Cw.of ok9_dented rfl (rfl : argL _ _ = [.ref 0, .int t, .null, .null, .null]) ?_
  refine e_aload_n rfl rfl ?_
  refine e_getP rfl f9_41 (by assumption) rfl (by assumption) ?_
  refine e_iload_n rfl rfl ?_
  refine e_callVp (kd := 6) (M2 := m6_has) rfl v9_121 ok6_has (c6_has h6 hC.1 t) rfl (by assumption) rfl rfl rfl rfl ?_
  first | refine e_if_neB (tgt := 13) rfl rfl (fun z => ?_) (fun z => ?_) | refine e_if_neN (tgt := 13) rfl rfl (by omega) (fun z => ?_) (fun z => ?_) | refine e_if_ne (tgt := 13) rfl rfl (fun z => ?_) (fun z => ?_)
  · have hin : inN n t = true := by assumption
    obtain ⟨j, hj, rfl⟩ := inN_of (by omega) hin
    rw [a_dented, if_pos hin, nI_clamp (by omega)]
    refine e_iconst (v := nI 0) rfl ic_0N ?_
    refine e_ist2 rfl rfl rfl ?_
    refine e_aload_n rfl rfl ?_
    refine e_getP rfl f9_54 (by assumption) rfl (by assumption) ?_
    refine e_callVp (kd := 8) (M2 := m8_counted) rfl v9_312 ok8_counted (c8_counted hT8 hRT ek hk) rfl (by assumption) rfl rfl rfl rfl ?_
    refine e_ist3 rfl rfl rfl ?_
    refine e_aload_n rfl rfl ?_
    refine e_getP rfl f9_34 (by assumption) rfl (by assumption) ?_
    refine e_callV (kd := 0) (M2 := m0_asItGoes) rfl v9_216 ok0_asItGoes (c0_asItGoes h0) rfl (by assumption) rfl rfl rfl rfl (fun r1 h1 q1 => ?_)
    obtain ⟨rfl, rfl⟩ := q1
    refine e_iconst (v := nI 0) rfl ic_0N ?_
    refine e_ist4 rfl rfl rfl ?_
    have q1 : FQ I J (u2 (u2 I 60 2 (nI 0)) 60 3 (nI 0)) J := (FQ.rf.u60 _ _).u60 _ _
    refine dented_loop hG hW hwT hn hj 10 0 _ _ _ (by omega) (q1.rp hR) (q1.rt hRT) (by rw [u2_nk _ _ (by omega), u2_at]; rfl) (by rw [u2_at]) (fun I2 J2 f2 => ?_)
    have q2 := q1.tr f2
    exact ⟨rfl, I2, J2, rfl, q2.fx, (hI.frame q2).mono (by omega)⟩
  · refine e_iconst rfl ic_m1 ?_
    refine e_ireturn rfl rfl ?_
    rw [a_dented, if_neg (by rw [z]; decide)]
    exact ⟨rfl, I, J, rfl, FX.rf, hI.mono (by omega)⟩
end MDen
