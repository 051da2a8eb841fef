/-! ===== TinNation: calls that look at it, calls that change it ===== -/
/-- the other cells stay -/
def FX (I : IM) (J : JM) (I' : IM) (J' : JM) : Prop := (∀ c, (0 < c ∧ c < 33 ∨ 101 < c) → I' c = I c) ∧ (∀ c, (c < 33 ∨ 101 < c) → J' c = J c) ∧ ∀ k, k ≠ 8 → I' 0 k = I 0 k
theorem FX.rf {I : IM} {J : JM} : FX I J I J := ⟨fun _ _ => rfl, fun _ _ => rfl, fun _ _ => rfl⟩
theorem FX.tr {I I1 I2 : IM} {J J1 J2 : JM} (h1 : FX I J I1 J1) (h2 : FX I1 J1 I2 J2) : FX I J I2 J2 := ⟨fun c h => (h2.1 c h).trans (h1.1 c h), fun c h => (h2.2.1 c h).trans (h1.2.1 c h), fun k h => (h2.2.2 k h).trans (h1.2.2 k h)⟩
theorem FQ.fx {I I1 : IM} {J J1 : JM} (h : FQ I J I1 J1) : FX I J I1 J1 := ⟨fun c hc => h.1 c (by omega) (by omega) (by omega) (by omega) (by omega), fun c hc => h.2 c (by omega) (by omega), fun k _ => by rw [h.1 0 (by omega) (by omega) (by omega) (by omega) (by omega)]⟩
theorem HC.mono {I : IM} {s n B B' : Nat} (h : HC I s n B) (hb : B ≤ B') : HC I s n B' := ⟨fun t ht => by obtain ⟨j, h1, h2⟩ := h.1 t ht; exact ⟨j, by omega, h2⟩, h.2⟩
/-- of what a call that changes the state may change: days, names, now, steps -/
def FN (I : IM) (J : JM) (I' : IM) (J' : JM) : Prop := (∀ c, c ≠ 60 → c ≠ 61 → (c < 62 ∨ 69 < c) → (c < 93 ∨ 99 < c) → I' c = I c) ∧ ∀ c, c ≠ 59 → c ≠ 62 → J' c = J c
theorem FN.fx {I I1 : IM} {J J1 : JM} (h : FN I J I1 J1) : FX I J I1 J1 := ⟨fun c hc => h.1 c (by omega) (by omega) (by omega) (by omega), fun c hc => h.2 c (by omega) (by omega), fun k _ => by rw [h.1 0 (by omega) (by omega) (by omega) (by omega)]⟩
theorem CI.now {I : IM} {J : JM} {P : Pl} {S : SM} {im : Bool} {SI : SM} {m : Nat} {T : SM} {kn : Int32} {u : Nat} {Hs : Nat → SM} {B : Nat} {I' : IM} {J' : JM} {S' : SM} {u' : Nat} {Hs' : Nat → SM} {B' : Nat} (h : CI I J P S im SI m T kn u Hs B) (hf : FN I J I' J') (hB : B ≤ B') (hC : RC I' J' 62 (P.1 1) S') (hH : HC I' 62 (P.1 1) B') (hU : UV I' J' (P.1 1) B' u' Hs') : CI I' J' P S' im SI m T kn u' Hs' B' := by
  obtain ⟨h1, h2, -, -, h5, h6, h7, -⟩ := h
  obtain ⟨f, g⟩ := hf
  refine ⟨h1.frame (fun c a b => f c (by omega) (by omega) (by omega) (by omega)), h2, hC, hH, by rw [f 0 (by omega) (by omega) (by omega) (by omega)]; exact h5, fun hi => ?_, h7.frame (fun c a b => f c (by omega) (by omega) (by omega) (by omega)), hU⟩
  obtain ⟨a1, a2⟩ := h6 hi
  exact ⟨a1.frame (fun c a b => f c (by omega) (by omega) (by omega) (by omega)) (by rw [g 78 (by omega) (by omega)]), (a2.frame (f _ (by omega) (by omega) (by omega) (by omega)) (f _ (by omega) (by omega) (by omega) (by omega))).mono hB⟩
/-- a state that is in order -/
def wfS (P : Pl) (S : SM) : Prop := (∀ t, t < P.1 1 → ∃ st de fr, st ≤ 3 ∧ de ≤ 10 ∧ fr ≤ 9 ∧ S 0 t = nI st ∧ S 1 t = nI de ∧ S 4 t = nI fr ∧ (st = 0 → fr = 0) ∧ (st = 1 → 1 ≤ fr)) ∧ (∃ k, k ≤ 99 ∧ S 9 0 = nI k) ∧ (∃ d, d ≤ 20000 ∧ S 8 0 = nI d)
theorem wfS.fr0 {P : Pl} {S : SM} (h : wfS P S) {t : Nat} (ht : t < P.1 1) (h0 : S 0 t = 0) : S 4 t = 0 := by
  obtain ⟨st, de, fr, a, b, c, e0, e1, e4, f, g⟩ := h.1 t ht
  rw [e4, f ((nI_eq (by omega) (by omega : (0 : Nat) < 2 ^ 31)).mp (e0.symm.trans h0))]
  rfl
section MTin2
variable {l : Launch} {G : GG} {d : Nat} {I : IM} {J : JM} {K : Kt} {Q : Option Value → Hp → Prop} {P : Pl} {S : SM} {im : Bool} {SI : SM} {m : Nat} {T : SM} {kn : Int32} {u : Nat} {Hs : Nat → SM} {B n : Nat}
theorem rc_top {s : Nat} (hC : RC I J s n S) {t : Nat} (ht : t < n) : (decide (I (s + 1) t = 0) && decide (cnt (abv I s t) n = 0)) = topS S n t := by rw [(hC.2.2.1 t ht).1, hC.cnt ht, topS]
/-- top(): the TIN that is ON TOP, from i on -/
def topF (S : SM) (n : Nat) (x : Int32) : Nat → Nat → Int32
  | _, 0 => -2
  | i, k + 1 => if S 2 i = x ∧ topS S n i = true then nI i else topF S n x (i + 1) k
theorem top_loop (hG : GK K) (hC : RC I J 62 n S) (x : Int32) : ∀ k i, i + k = n → Q (some (.int (topF S n x i k))) (I, J, K) → Gw l G (d + 3) m9_top 13 [.ref 0, .int x, .int (nI i)] [] (I, J, K) Q := by
  obtain ⟨⟨k9, t0, t2, t3, t4, t5, t6, t7, t9, t10, t11, t12⟩, -, -, -, -, -, hS, -⟩ := hG
  have hS2 := hS
  obtain ⟨h6, p0, p1, p2, p3, p4, p5, p6, a1, a2, a3, a4, a5, a6, a7⟩ := hS2
  have hn7 := hC.1
  have hn8 := hC.2.1
  intro k
  induction k with
  | zero =>
    intro i hi hq
    refine e_iload_n rfl rfl ?_
    refine e_aload_n rfl rfl ?_
    refine e_getP rfl f9_41 (by assumption) rfl (by assumption) ?_
    refine e_getI rfl f9_160 (by assumption) rfl ?_
    rw [hn7]
    first | refine e_icmp_geN (tgt := 56) rfl rfl (by omega) (by omega) (fun z => ?_) (fun z => ?_) | refine e_icmp_ge (tgt := 56) rfl rfl (fun z => ?_) (fun z => ?_)
    · refine e_bipush rfl bp_m2 ?_
      refine e_ireturn rfl rfl ?_
      exact hq
    · omega
  | succ k ih =>
    intro i hi hq
    have e2 : I (62 + 3) i = S 2 i := (hC.2.2.1 i (by omega)).2.2.1
    have next : ¬ (S 2 i = x ∧ topS S n i = true) → Gw l G (d + 3) m9_top 50 [.ref 0, .int x, .int (nI i)] [] (I, J, K) Q := by
      intro hno
      rw [topF, if_neg hno] at hq
      first | refine e_inc2 rfl rfl rfl (incN1 _) ?_ | refine e_inc2 rfl rfl rfl rfl ?_
      refine e_goto (tgt := 13) rfl rfl ?_
      exact ih (i + 1) (by omega) hq
    refine e_iload_n rfl rfl ?_
    refine e_aload_n rfl rfl ?_
    refine e_getP rfl f9_41 (by assumption) rfl (by assumption) ?_
    refine e_getI rfl f9_160 (by assumption) rfl ?_
    rw [hn7]
    first | refine e_icmp_geN (tgt := 56) rfl rfl (by omega) (by omega) (fun z => ?_) (fun z => ?_) | refine e_icmp_ge (tgt := 56) rfl rfl (fun z => ?_) (fun z => ?_)
    · omega
    · refine e_aload_n rfl rfl ?_
      refine e_getP rfl f9_41 (by assumption) rfl (by assumption) ?_
      refine e_getP rfl f9_139 (by assumption) rfl (by assumption) ?_
      refine e_iload_n rfl rfl ?_
      first | refine e_ialoadN rfl (by assumption) (by omega) (by omega) ?_ | (refine e_iaload rfl (by assumption) ?_ ?_; rotate_left)
      rw [e2]
      refine e_iload_n rfl rfl ?_
      first | refine e_icmp_neN (tgt := 50) rfl rfl (by omega) (by omega) (fun z => ?_) (fun z => ?_) | refine e_icmp_ne (tgt := 50) rfl rfl (fun z => ?_) (fun z => ?_)
      · exact next (fun q => absurd q.1 (by assumption))
      · have y : S 2 i = x := by assumption
        refine e_aload_n rfl rfl ?_
        refine e_getP rfl f9_41 (by assumption) rfl (by assumption) ?_
        refine e_iload_n rfl rfl ?_
        refine e_callVp (kd := 6) (M2 := m6_isOnTop) rfl v9_167 ok6_isOnTop (c6_isOnTop hS hn7 hn8 (nI i)) rfl (by assumption) rfl rfl rfl rfl ?_
        first | refine e_if_eqB (tgt := 50) rfl rfl (fun z => ?_) (fun z => ?_) | refine e_if_eqN (tgt := 50) rfl rfl (by omega) (fun z => ?_) (fun z => ?_) | refine e_if_eq (tgt := 50) rfl rfl (fun z => ?_) (fun z => ?_)
        · rw [inN_nI (by omega) (by omega), decide_eq_true (by omega), Bool.true_and, nI_clamp (by omega), rc_top hC (by omega)] at z
          exact next (fun q => absurd q.2 (by rw [z]; decide))
        · rw [inN_nI (by omega) (by omega), decide_eq_true (by omega), Bool.true_and, nI_clamp (by omega), rc_top hC (by omega)] at z
          rw [topF, if_pos ⟨y, z⟩] at hq
          refine e_iload_n rfl rfl ?_
          refine e_ireturn rfl rfl ?_
          exact hq
def a_top (S : SM) (n : Nat) (x : Int32) : Int32 := if inN 4 x = true then topF S n x 0 n else -1
theorem c9_top (hG : GK K) (hC : RC I J 62 n S) (x : Int32) : Cp l G (d + 3) m9_top [.ref 0, .int x] (I, J, K) (.int (a_top S n x)) := by
  refine Cp.of ok9_top rfl (rfl : argL _ _ = [.ref 0, .int x, .null]) ?_
  refine e_iload_n rfl rfl ?_
  first | refine e_if_ltN (tgt := 9) rfl rfl (by omega) ?_ | refine e_if_lt (tgt := 9) rfl rfl (fun z => ?_) (fun z => ?_)
  · refine e_iconst rfl ic_m1 ?_
    refine e_ireturn rfl rfl ?_
    rw [a_top, if_neg (fun q : inN 4 x = true => absurd z (Int32.not_lt.mpr (of_decide_eq_true q).1))]
    exact ⟨rfl, rfl⟩
  · have y0 : ¬ x < 0 := by assumption
    refine e_iload_n rfl rfl ?_
    refine e_iconst (v := nI 4) rfl ic_4N ?_
    first | refine e_icmp_ltN (tgt := 11) rfl rfl (by omega) (by omega) (fun z => ?_) (fun z => ?_) | refine e_icmp_lt (tgt := 11) rfl rfl (fun z => ?_) (fun z => ?_)
    · have y1 : x < nI 4 := by assumption
      refine e_iconst (v := nI 0) rfl ic_0N ?_
      refine e_ist2 rfl rfl rfl ?_
      rw [a_top, if_pos (show inN 4 x = true from decide_eq_true ⟨Int32.not_lt.mp y0, y1⟩)]
      exact top_loop hG hC x n 0 (by omega) ⟨rfl, rfl⟩
    · refine e_iconst rfl ic_m1 ?_
      refine e_ireturn rfl rfl ?_
      rw [a_top, if_neg (fun q : inN 4 x = true => absurd (of_decide_eq_true q).2 (by assumption))]
      exact ⟨rfl, rfl⟩
def a_above (S : SM) (n : Nat) (t : Int32) : Int32 := if inN n t = true then (if S 0 t.toNatClampNeg = 0 then nI (cnt (abS S t.toNatClampNeg) n) else -2) else -1
theorem c9_above (hG : GK K) (hC : RC I J 62 n S) (t : Int32) : Cp l G (d + 3) m9_above [.ref 0, .int t] (I, J, K) (.int (a_above S n t)) := by
  obtain ⟨⟨k9, t0, t2, t3, t4, t5, t6, t7, t9, t10, t11, t12⟩, -, -, -, -, -, hS, -⟩ := hG
  have h6 := hS.1
  have hn7 := hC.1
  have hn8 := hC.2.1
  refine Cp.of ok9_above rfl (rfl : argL _ _ = [.ref 0, .int t]) ?_
  refine e_aload_n rfl rfl ?_
  refine e_getP rfl f9_41 (by assumption) rfl (by assumption) ?_
  refine e_iload_n rfl rfl ?_
  refine e_callVp (kd := 6) (M2 := m6_has) rfl v9_121 ok6_has (c6_has h6 hn7 t) rfl (by assumption) rfl rfl rfl rfl ?_
  first | refine e_if_neB (tgt := 13) rfl rfl (fun z => ?_) (fun z => ?_) | refine e_if_neN (tgt := 13) rfl rfl (by omega) (fun z => ?_) (fun z => ?_) | refine e_if_ne (tgt := 13) rfl rfl (fun z => ?_) (fun z => ?_)
  · have hin : inN n t = true := by assumption
    obtain ⟨j, hj, rfl⟩ := inN_of (by omega) hin
    have e0 : I (62 + 1) j = S 0 j := (hC.2.2.1 j hj).1
    rw [a_above, if_pos hin, nI_clamp (by omega)]
    refine e_aload_n rfl rfl ?_
    refine e_getP rfl f9_41 (by assumption) rfl (by assumption) ?_
    refine e_iload_n rfl rfl ?_
    refine e_callVp (kd := 6) (M2 := m6_isClosed) rfl v9_203 ok6_isClosed (c6_isClosed hS hn7 hn8 (nI j)) rfl (by assumption) rfl rfl rfl rfl ?_
    first | refine e_if_eqB (tgt := 35) rfl rfl (fun z => ?_) (fun z => ?_) | refine e_if_eqN (tgt := 35) rfl rfl (by omega) (fun z => ?_) (fun z => ?_) | refine e_if_eq (tgt := 35) rfl rfl (fun z => ?_) (fun z => ?_)
    · rw [hin, Bool.true_and, nI_clamp (by omega), e0] at z
      refine e_bipush rfl bp_m2 ?_
      refine e_ireturn rfl rfl ?_
      rw [if_neg (of_decide_eq_false z)]
      exact ⟨rfl, rfl⟩
    · rw [hin, Bool.true_and, nI_clamp (by omega), e0] at z
      refine e_aload_n rfl rfl ?_
      refine e_getP rfl f9_41 (by assumption) rfl (by assumption) ?_
      refine e_iload_n rfl rfl ?_
      refine e_callVp (kd := 6) (M2 := m6_closedAbove) rfl v9_233 ok6_closedAbove (c6_closedAbove hS hn7 hn8 hj) rfl (by assumption) rfl rfl rfl rfl ?_
      refine e_goto (tgt := 37) rfl rfl ?_
      refine e_ireturn rfl rfl ?_
      rw [if_pos (of_decide_eq_true z), hC.cnt hj]
      exact ⟨rfl, rfl⟩
  · refine e_iconst rfl ic_m1 ?_
    refine e_ireturn rfl rfl ?_
    rw [a_above, if_neg (by rw [z]; decide)]
    exact ⟨rfl, rfl⟩
def isOp (S : SM) (n : Nat) (t : Int32) : Bool := inN n t && (topS S n t.toNatClampNeg && decide (0 < S 9 0))
def a_open (P : Pl) (S : SM) (n : Nat) (t : Int32) : Int32 := if inN n t = true then (if isOp S n t = true then unsS P S t.toNatClampNeg 4 t.toNatClampNeg else -2) else -1
theorem c9_open (hG : GK K) (hI : CI I J P S im SI m T kn u Hs B) (hV : wfS P S) (hn : P.1 1 = n) (t : Int32) : Cw l G (d + 4) m9_open [.ref 0, .int t] (I, J, K) (fun r h' => r = some (.int (a_open P S n t)) ∧ ∃ I' J', h' = (I', J', K) ∧ FX I J I' J' ∧ (if isOp S n t = true then CI I' J' P (unsS P S t.toNatClampNeg) im SI m T kn (u1 u) (H1 u Hs S) B else I' = I ∧ J' = J)) := by
  have hG2 := hG
  obtain ⟨⟨k9, t0, t2, t3, t4, t5, t6, t7, t9, t10, t11, t12⟩, -, -, -, -, hD, hS, -, -, -, hU9⟩ := hG2
  have hI2 := hI
  obtain ⟨hR, hW, hC, hHC, hIm, hImg, hRT, U, hRU, hUB⟩ := hI2
  rw [hn] at hC hHC hUB
  have hS2 := hS
  obtain ⟨h6, p0, p1, p2, p3, p4, p5, p6, a1, a2, a3, a4, a5, a6, a7⟩ := hS2
  have h0 := hD.1
  have h7 := hU9.1
  have hn7 := hC.1
  have hn8 := hC.2.1
  have k9' : I 62 9 = S 9 0 := hC.2.2.2.2.2.1.2.1
  refine Cw.of ok9_open rfl (rfl : argL _ _ = [.ref 0, .int t]) ?_
  refine e_aload_n rfl rfl ?_
  refine e_getP rfl f9_41 (by assumption) rfl (by assumption) ?_
  refine e_iload_n rfl rfl ?_
  refine e_callVp (kd := 6) (M2 := m6_has) rfl v9_121 ok6_has (c6_has h6 hn7 t) rfl (by assumption) rfl rfl rfl rfl ?_
  first | refine e_if_neB (tgt := 13) rfl rfl (fun z => ?_) (fun z => ?_) | refine e_if_neN (tgt := 13) rfl rfl (by omega) (fun z => ?_) (fun z => ?_) | refine e_if_ne (tgt := 13) rfl rfl (fun z => ?_) (fun z => ?_)
  · have hin : inN n t = true := by assumption
    obtain ⟨j, hj, rfl⟩ := inN_of (by omega) hin
    have eOp : isOp S n (nI j) = (topS S n j && decide (0 < S 9 0)) := by rw [isOp, hin, Bool.true_and, nI_clamp (by omega)]
    rw [a_open, if_pos hin, nI_clamp (by omega)]
    have no : isOp S n (nI j) = false → Gw l G (d + 4) m9_open 34 [.ref 0, .int (nI j)] [] (I, J, K) (fun r h' => r = some (.int (if isOp S n (nI j) = true then unsS P S j 4 j else -2)) ∧ ∃ I' J', h' = (I', J', K) ∧ FX I J I' J' ∧ (if isOp S n (nI j) = true then CI I' J' P (unsS P S j) im SI m T kn (u1 u) (H1 u Hs S) B else I' = I ∧ J' = J)) := by
      intro hno
      rw [hno]
      refine e_bipush rfl bp_m2 ?_
      refine e_ireturn rfl rfl ?_
      exact ⟨rfl, I, J, rfl, FX.rf, rfl, rfl⟩
    refine e_aload_n rfl rfl ?_
    refine e_getP rfl f9_41 (by assumption) rfl (by assumption) ?_
    refine e_iload_n rfl rfl ?_
    refine e_callVp (kd := 6) (M2 := m6_isOnTop) rfl v9_167 ok6_isOnTop (c6_isOnTop hS hn7 hn8 (nI j)) rfl (by assumption) rfl rfl rfl rfl ?_
    first | refine e_if_eqB (tgt := 34) rfl rfl (fun z => ?_) (fun z => ?_) | refine e_if_eqN (tgt := 34) rfl rfl (by omega) (fun z => ?_) (fun z => ?_) | refine e_if_eq (tgt := 34) rfl rfl (fun z => ?_) (fun z => ?_)
    · rw [hin, Bool.true_and, nI_clamp (by omega), rc_top hC hj] at z
      exact no (by rw [eOp, z]; rfl)
    · rw [hin, Bool.true_and, nI_clamp (by omega), rc_top hC hj] at z
      have ztop := z
      refine e_aload_n rfl rfl ?_
      refine e_getP rfl f9_41 (by assumption) rfl (by assumption) ?_
      refine e_getI rfl f9_186 (by assumption) rfl ?_
      rw [k9']
      first | refine e_if_gtN (tgt := 37) rfl rfl (by omega) (fun z => ?_) (fun z => ?_) | refine e_if_gt (tgt := 37) rfl rfl (fun z => ?_) (fun z => ?_)
      · have yes : isOp S n (nI j) = true := by rw [eOp, ztop, decide_eq_true (by assumption)]; rfl
        rw [if_pos yes]
        refine e_aload_n rfl rfl ?_
        refine e_getP rfl f9_34 (by assumption) rfl (by assumption) ?_
        refine e_aload_n rfl rfl ?_
        refine e_getP rfl f9_41 (by assumption) rfl (by assumption) ?_
        refine e_iload_n rfl rfl ?_
        refine e_callV (kd := 0) (M2 := m0_unseal) rfl v9_189 ok0_unseal (c0_unseal hG.hd62 hR hW hC hn hj) rfl (by assumption) rfl rfl rfl rfl (fun r1 h1 q1 => ?_)
        obtain ⟨rfl, I1, J1, rfl, f1, C1⟩ := q1
        have hRU1 : RU I1 93 u U := hRU.frame (fun c h1 h2 => f1.1 c (by omega) (by omega))
        refine e_aload_n rfl rfl ?_
        refine e_getP rfl f9_61 (by assumption) rfl (by assumption) ?_
        refine e_iconst (v := nI 0) rfl ic_0N ?_
        refine e_iload_n rfl rfl ?_
        refine e_iconst (v := nI 0) rfl ic_0N ?_
        refine e_iconst (v := nI 0) rfl ic_0N ?_
        refine e_callV (kd := 7) (M2 := m7_add) rfl v9_193 ok7_add (c7_add hU9 hRU1 _ _ _ _) rfl (by assumption) rfl rfl rfl rfl (fun r1 h1 q1 => ?_)
        obtain ⟨rfl, I2, rfl, f2, U2⟩ := q1
        have C2 : RC I2 J1 62 n (unsS P S j) := C1.frame (fun c h1 h2 => f2 c (by omega)) rfl
        have e4 : I2 (62 + 5) j = unsS P S j 4 j := (C2.2.2.1 j hj).2.2.2.1
        refine e_aload_n rfl rfl ?_
        refine e_getP rfl f9_41 (by assumption) rfl (by assumption) ?_
        refine e_getP rfl f9_145 (by assumption) rfl (by assumption) ?_
        refine e_iload_n rfl rfl ?_
        first | refine e_ialoadN rfl (by assumption) (by omega) (by omega) ?_ | (refine e_iaload rfl (by assumption) ?_ ?_; rotate_left)
        rw [e4]
        refine e_ireturn rfl rfl ?_
        have hfn : FN I J I2 J1 := ⟨fun c b1 b2 b3 b4 => by rw [f2 c (by omega), f1.1 c (by omega) (by omega)], fun c b1 b2 => f1.2.1 c (by omega) (by omega)⟩
        refine ⟨rfl, I2, J1, rfl, hfn.fx, ?_⟩
        rw [if_pos yes]
        have s0 : S 0 j = 0 := of_decide_eq_true (by rw [topS, Bool.and_eq_true] at ztop; exact ztop.1)
        have s4 : S 4 j = 0 := hV.fr0 (by omega) s0
        have H2 : HC I2 62 n B := hHC.frame (by rw [f2 _ (by omega), f1.2.2.1]) (by rw [f2 _ (by omega), f1.2.2.2])
        refine hI.now hfn (Nat.le_refl _) (by rw [hn]; exact C2) (by rw [hn]; exact H2) ?_
        rw [hn]
        have et : tbk I2 62 (nI 0) (nI j) (nI 0) (nI 0) n = u2 (u2 (u2 I2 63 j (nI 0)) 67 j (nI 0)) 62 9 (I2 62 9 + nI 1) := by
          unfold tbk
          rw [if_neg (by decide), if_pos hin, if_pos (show nI 0 = 0 from rfl), nI_clamp (by omega)]
        have eS : u2 (u2 (u2 (unsS P S j) 0 j (nI 0)) 4 j (nI 0)) 9 0 (unsS P S j 9 0 + nI 1) = S := by
          funext a b
          by_cases q9 : a = 9 ∧ b = 0
          · obtain ⟨rfl, rfl⟩ := q9
            simp [u2, unsS]
          · by_cases q4 : a = 4 ∧ b = j
            · obtain ⟨rfl, rfl⟩ := q4
              simp [u2, s4]
              rfl
            · by_cases q0 : a = 0 ∧ b = j
              · obtain ⟨rfl, rfl⟩ := q0
                simp [u2, s0]
                rfl
              · simp [u2, unsS, q9, q4, q0]
        have C3 := ((C2.up0 hj (nI 0)).up4 hj (nI 0)).up9 (unsS P S j 9 0 + nI 1)
        rw [eS] at C3
        have k92 : I2 62 9 = unsS P S j 9 0 := C2.2.2.2.2.2.1.2.1
        refine UV.add (by omega) hRU.2.2.1 hUB hC hHC (Nat.le_refl _) U2 ?_ (by rw [C2.2.2.2.2.2.2, hC.2.2.2.2.2.2]; rfl)
        rw [et, k92]
        refine Sm.ofRC hC C3 (fun t ht => ?_)
        rw [u2_ne _ _ (by omega), u2_ne _ _ (by omega), u2_ne _ _ (by omega), f2 _ (by omega), f1.2.2.2]
      · exact no (by rw [eOp, decide_eq_false (by assumption), Bool.and_false])
  · refine e_iconst rfl ic_m1 ?_
    refine e_ireturn rfl rfl ?_
    rw [a_open, if_neg (by rw [z]; decide), isOp, z, Bool.false_and]
    exact ⟨rfl, I, J, rfl, FX.rf, rfl, rfl⟩
end MTin2
