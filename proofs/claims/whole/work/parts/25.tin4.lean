/-! ===== TinNation: dent, find, law, undo, keep, back, count ===== -/
section MTin4
variable {l : Launch} {G : GG} {d : Nat} {I : IM} {J : JM} {K : Kt} {Q : Option Value → Hp → Prop} {P : Pl} {S : SM} {im : Bool} {SI : SM} {m : Nat} {T : SM} {kn : Int32} {u : Nat} {Hs : Nat → SM} {B n : Nat}
def isDent (S : SM) (n : Nat) (t : Int32) : Bool := inN n t && (decide (S 0 t.toNatClampNeg = 0) && decide (S 1 t.toNatClampNeg < nI 10))
def a_dent (S : SM) (n : Nat) (t : Int32) : Int32 := if isDent S n t = true then S 1 t.toNatClampNeg + nI 1 else -1
theorem c9_dent (hG : GK K) (hI : CI I J P S im SI m T kn u Hs B) (hn : P.1 1 = n) (t : Int32) : Cw l G (d + 3) m9_dent [.ref 0, .int t] (I, J, K) (fun r h' => r = some (.int (a_dent S n t)) ∧ Pst I J K h' P (if isDent S n t = true then u2 S 1 t.toNatClampNeg (S 1 t.toNatClampNeg + nI 1) else S) im SI m T kn (if isDent S n t = true then u1 u else u) (if isDent S n t = true then H1 u Hs S else Hs) (B + 1)) := by
  have hG2 := hG
  obtain ⟨⟨k9, t0, t2, t3, t4, t5, t6, t7, t9, t10, t11, t12⟩, -, -, -, -, hD, hS, -, -, -, hU9⟩ := hG2
  have hI2 := hI
  obtain ⟨hR, hW, hC, hHC, hIm, hImg, hRT, U, hRU, hUB⟩ := hI2
  rw [hn] at hC hHC hUB
  have hS2 := hS
  obtain ⟨h6, p0, p1, p2, p3, p4, p5, p6, a1, a2, a3, a4, a5, a6, a7⟩ := hS2
  have h7 := hU9.1
  have hn7 := hC.1
  have hn8 := hC.2.1
  have no : isDent S n t = false → Gw l G (d + 3) m9_dent 25 [.ref 0, .int t] [] (I, J, K) (fun r h' => r = some (.int (a_dent S n t)) ∧ Pst I J K h' P (if isDent S n t = true then u2 S 1 t.toNatClampNeg (S 1 t.toNatClampNeg + nI 1) else S) im SI m T kn (if isDent S n t = true then u1 u else u) (if isDent S n t = true then H1 u Hs S else Hs) (B + 1)) := by
    intro hno
    rw [a_dent, hno]
    refine e_iconst rfl ic_m1 ?_
    refine e_ireturn rfl rfl ?_
    exact ⟨rfl, I, J, rfl, FX.rf, hI.mono (by omega)⟩
  refine Cw.of ok9_dent rfl (rfl : argL _ _ = [.ref 0, .int t]) ?_
  refine e_aload_n rfl rfl ?_
  refine e_getP rfl f9_41 (by assumption) rfl (by assumption) ?_
  refine e_iload_n rfl rfl ?_
  refine e_callVp (kd := 6) (M2 := m6_isClosed) rfl v9_203 ok6_isClosed (c6_isClosed hS hn7 hn8 t) rfl (by assumption) rfl rfl rfl rfl ?_
  first | refine e_if_eqB (tgt := 25) rfl rfl (fun z => ?_) (fun z => ?_) | refine e_if_eqN (tgt := 25) rfl rfl (by omega) (fun z => ?_) (fun z => ?_) | refine e_if_eq (tgt := 25) rfl rfl (fun z => ?_) (fun z => ?_)
  · refine no ?_
    by_cases hin : inN n t = true
    · obtain ⟨j, hj, rfl⟩ := inN_of (by omega) hin
      rw [hin, Bool.true_and, nI_clamp (by omega), show I (62 + 1) j = S 0 j from (hC.2.2.1 j hj).1] at z
      rw [isDent, nI_clamp (by omega), z, Bool.false_and, Bool.and_false]
    · rw [isDent, Bool.eq_false_iff.mpr hin, Bool.false_and]
  · rw [Bool.and_eq_true] at z
    obtain ⟨hin, z0⟩ := z
    obtain ⟨j, hj, rfl⟩ := inN_of (by omega) hin
    have e0 : I (62 + 1) j = S 0 j := (hC.2.2.1 j hj).1
    have e1 : I (62 + 2) j = S 1 j := (hC.2.2.1 j hj).2.1
    rw [nI_clamp (by omega), e0] at z0
    have eD : isDent S n (nI j) = decide (S 1 j < nI 10) := by rw [isDent, hin, Bool.true_and, nI_clamp (by omega), z0, Bool.true_and]
    refine e_aload_n rfl rfl ?_
    refine e_getP rfl f9_41 (by assumption) rfl (by assumption) ?_
    refine e_getP rfl f9_136 (by assumption) rfl (by assumption) ?_
    refine e_iload_n rfl rfl ?_
    first | refine e_ialoadN rfl (by assumption) (by omega) (by omega) ?_ | (refine e_iaload rfl (by assumption) ?_ ?_; rotate_left)
    rw [e1]
    refine e_bipush (v := nI 10) rfl bp_10N ?_
    first | refine e_icmp_ltN (tgt := 27) rfl rfl (by omega) (by omega) (fun z => ?_) (fun z => ?_) | refine e_icmp_lt (tgt := 27) rfl rfl (fun z => ?_) (fun z => ?_)
    · have y : S 1 j < nI 10 := by assumption
      have yes : isDent S n (nI j) = true := by rw [eD, decide_eq_true y]
      rw [a_dent, if_pos yes, if_pos yes, if_pos yes, if_pos yes, nI_clamp (by omega)]
      refine e_aload_n rfl rfl ?_
      refine e_getP rfl f9_41 (by assumption) rfl (by assumption) ?_
      refine e_getP rfl f9_136 (by assumption) rfl (by assumption) ?_
      refine e_iload_n rfl rfl ?_
      refine e_dup2 rfl rfl rfl ?_
      first | refine e_ialoadN rfl (by assumption) (by omega) (by omega) ?_ | (refine e_iaload rfl (by assumption) ?_ ?_; rotate_left)
      rw [e1]
      refine e_iconst (v := nI 1) rfl ic_1N ?_
      refine e_iadd rfl ?_
      have C1 : RC (u2 I (62 + 2) j (S 1 j + nI 1)) J 62 n (u2 S 1 j (S 1 j + nI 1)) := hC.up1 hj _
      have hRU1 : RU (u2 I (62 + 2) j (S 1 j + nI 1)) 93 u U := hRU.frame (fun c h1 h2 => u2_row _ _ (by omega))
      first | refine e_iastoreN rfl (by assumption) (by omega) (by omega) ?_ | (refine e_iastore rfl (by assumption) ?_ ?_; rotate_left)
      refine e_aload_n rfl rfl ?_
      refine e_getP rfl f9_61 (by assumption) rfl (by assumption) ?_
      refine e_iconst (v := nI 2) rfl ic_2N ?_
      refine e_iload_n rfl rfl ?_
      refine e_iconst (v := nI 0) rfl ic_0N ?_
      refine e_iconst (v := nI 0) rfl ic_0N ?_
      refine e_callV (kd := 7) (M2 := m7_add) rfl v9_193 ok7_add (c7_add hU9 hRU1 _ _ _ _) rfl (by assumption) rfl rfl rfl rfl (fun r1 h1 q1 => ?_)
      obtain ⟨rfl, I2, rfl, f2, U2⟩ := q1
      have C2 : RC I2 J 62 n (u2 S 1 j (S 1 j + nI 1)) := C1.frame (fun c h1 h2 => f2 c (by omega)) rfl
      have e2 : I2 (62 + 2) j = S 1 j + nI 1 := by rw [(C2.2.2.1 j hj).2.1, u2_at]
      refine e_aload_n rfl rfl ?_
      refine e_getP rfl f9_41 (by assumption) rfl (by assumption) ?_
      refine e_getP rfl f9_136 (by assumption) rfl (by assumption) ?_
      refine e_iload_n rfl rfl ?_
      first | refine e_ialoadN rfl (by assumption) (by omega) (by omega) ?_ | (refine e_iaload rfl (by assumption) ?_ ?_; rotate_left)
      rw [e2]
      refine e_ireturn rfl rfl ?_
      have hfn : FN I J I2 J := ⟨fun c b1 b2 b3 b4 => by rw [f2 c (by omega), u2_row _ _ (by omega)], fun c b1 b2 => rfl⟩
      refine ⟨rfl, _, _, rfl, hfn.fx, ?_⟩
      refine hI.now hfn (by omega) (by rw [hn]; exact C2) (by rw [hn]; exact (hHC.frame (by rw [f2 _ (by omega), u2_row _ _ (by omega)]) (by rw [f2 _ (by omega), u2_row _ _ (by omega)])).mono (by omega)) ?_
      rw [hn]
      refine UV.add (by omega) hRU.2.2.1 hUB hC hHC (by omega) U2 ?_ rfl
      have et : tbk I2 62 (nI 2) (nI j) (nI 0) (nI 0) n = u2 I2 (62 + 2) j (I2 (62 + 2) j - nI 1) := by
        unfold tbk
        rw [if_neg (by decide), if_pos hin, if_neg (by decide), if_neg (by decide), nI_clamp (by omega)]
      rw [et, e2]
      have C3 := C2.up1 hj (S 1 j + nI 1 - nI 1)
      have eS : u2 (u2 S 1 j (S 1 j + nI 1)) 1 j (S 1 j + nI 1 - nI 1) = S := by
        funext a b
        by_cases q : a = 1 ∧ b = j
        · obtain ⟨rfl, rfl⟩ := q
          rw [u2_at, Int32.add_sub_cancel]
        · simp [u2, q]
      rw [eS] at C3
      refine Sm.ofRC hC C3 (fun t ht => ?_)
      rw [u2_ne _ _ (by omega), f2 _ (by omega), u2_ne _ _ (by omega)]
    · exact no (by rw [eD, decide_eq_false (by assumption)])
def isFind (S : SM) (k : Int32) : Bool := decide (nI 1 ≤ k ∧ k ≤ nI 9 ∧ S 9 0 + k ≤ nI 99)
def a_find (S : SM) (k : Int32) : Int32 := if isFind S k = true then S 9 0 + k else -1
theorem c9_find (hG : GK K) (hI : CI I J P S im SI m T kn u Hs B) (hn : P.1 1 = n) (k : Int32) : Cw l G (d + 3) m9_find [.ref 0, .int k] (I, J, K) (fun r h' => r = some (.int (a_find S k)) ∧ Pst I J K h' P (if isFind S k = true then u2 S 9 0 (S 9 0 + k) else S) im SI m T kn (if isFind S k = true then u1 u else u) (if isFind S k = true then H1 u Hs S else Hs) (B + 1)) := by
  have hG2 := hG
  obtain ⟨⟨k9, t0, t2, t3, t4, t5, t6, t7, t9, t10, t11, t12⟩, -, -, -, -, hD, hS, -, -, -, hU9⟩ := hG2
  have hI2 := hI
  obtain ⟨hR, hW, hC, hHC, hIm, hImg, hRT, U, hRU, hUB⟩ := hI2
  rw [hn] at hC hHC hUB
  have h6 := hS.1
  have h7 := hU9.1
  have hn8 := hC.2.1
  have e9 : I 62 9 = S 9 0 := hC.2.2.2.2.2.1.2.1
  have no : isFind S k = false → Gw l G (d + 3) m9_find 25 [.ref 0, .int k] [] (I, J, K) (fun r h' => r = some (.int (a_find S k)) ∧ Pst I J K h' P (if isFind S k = true then u2 S 9 0 (S 9 0 + k) else S) im SI m T kn (if isFind S k = true then u1 u else u) (if isFind S k = true then H1 u Hs S else Hs) (B + 1)) := by
    intro hno
    rw [a_find, hno]
    refine e_iconst rfl ic_m1 ?_
    refine e_ireturn rfl rfl ?_
    exact ⟨rfl, I, J, rfl, FX.rf, hI.mono (by omega)⟩
  refine Cw.of ok9_find rfl (rfl : argL _ _ = [.ref 0, .int k]) ?_
  refine e_iload_n rfl rfl ?_
  refine e_iconst (v := nI 1) rfl ic_1N ?_
  first | refine e_icmp_ltN (tgt := 25) rfl rfl (by omega) (by omega) (fun z => ?_) (fun z => ?_) | refine e_icmp_lt (tgt := 25) rfl rfl (fun z => ?_) (fun z => ?_)
  · have y : k < nI 1 := by assumption
    exact no (decide_eq_false (fun q => absurd y (Int32.not_lt.mpr q.1)))
  · have y0 : ¬ k < nI 1 := by assumption
    refine e_iload_n rfl rfl ?_
    refine e_bipush (v := nI 9) rfl bp_9N ?_
    first | refine e_icmp_gtN (tgt := 25) rfl rfl (by omega) (by omega) (fun z => ?_) (fun z => ?_) | refine e_icmp_gt (tgt := 25) rfl rfl (fun z => ?_) (fun z => ?_)
    · have y : nI 9 < k := by assumption
      exact no (decide_eq_false (fun q => absurd y (Int32.not_lt.mpr q.2.1)))
    · have y1 : ¬ nI 9 < k := by assumption
      refine e_aload_n rfl rfl ?_
      refine e_getP rfl f9_41 (by assumption) rfl (by assumption) ?_
      refine e_getI rfl f9_186 (by assumption) rfl ?_
      refine e_iload_n rfl rfl ?_
      rw [e9]
      refine e_iadd rfl ?_
      refine e_bipush (v := nI 99) rfl bp_99N ?_
      first | refine e_icmp_leN (tgt := 27) rfl rfl (by omega) (by omega) (fun z => ?_) (fun z => ?_) | refine e_icmp_le (tgt := 27) rfl rfl (fun z => ?_) (fun z => ?_)
      · have y2 : S 9 0 + k ≤ nI 99 := by assumption
        have yes : isFind S k = true := decide_eq_true ⟨Int32.not_lt.mp y0, Int32.not_lt.mp y1, y2⟩
        rw [a_find, if_pos yes, if_pos yes, if_pos yes, if_pos yes]
        refine e_aload_n rfl rfl ?_
        refine e_getP rfl f9_41 (by assumption) rfl (by assumption) ?_
        refine e_dup rfl rfl ?_
        refine e_getI rfl f9_186 (by assumption) rfl ?_
        refine e_iload_n rfl rfl ?_
        rw [e9]
        refine e_iadd rfl ?_
        have C1 : RC (u2 I 62 9 (S 9 0 + k)) J 62 n (u2 S 9 0 (S 9 0 + k)) := hC.up9 _
        have hRU1 : RU (u2 I 62 9 (S 9 0 + k)) 93 u U := hRU.frame (fun c h1 h2 => u2_row _ _ (by omega))
        refine e_putI rfl f9_186 (by assumption) rfl rfl ?_
        refine e_aload_n rfl rfl ?_
        refine e_getP rfl f9_61 (by assumption) rfl (by assumption) ?_
        refine e_iconst (v := nI 3) rfl ic_3N ?_
        refine e_iload_n rfl rfl ?_
        refine e_iconst (v := nI 0) rfl ic_0N ?_
        refine e_iconst (v := nI 0) rfl ic_0N ?_
        refine e_callV (kd := 7) (M2 := m7_add) rfl v9_193 ok7_add (c7_add hU9 hRU1 _ _ _ _) rfl (by assumption) rfl rfl rfl rfl (fun r1 h1 q1 => ?_)
        obtain ⟨rfl, I2, rfl, f2, U2⟩ := q1
        have C2 : RC I2 J 62 n (u2 S 9 0 (S 9 0 + k)) := C1.frame (fun c h1 h2 => f2 c (by omega)) rfl
        have e92 : I2 62 9 = S 9 0 + k := by rw [C2.2.2.2.2.2.1.2.1, u2_at]
        refine e_aload_n rfl rfl ?_
        refine e_getP rfl f9_41 (by assumption) rfl (by assumption) ?_
        refine e_getI rfl f9_186 (by assumption) rfl ?_
        rw [e92]
        refine e_ireturn rfl rfl ?_
        have hfn : FN I J I2 J := ⟨fun c b1 b2 b3 b4 => by rw [f2 c (by omega), u2_row _ _ (by omega)], fun c b1 b2 => rfl⟩
        refine ⟨rfl, _, _, rfl, hfn.fx, ?_⟩
        refine hI.now hfn (by omega) (by rw [hn]; exact C2) (by rw [hn]; exact (hHC.frame (by rw [f2 _ (by omega), u2_row _ _ (by omega)]) (by rw [f2 _ (by omega), u2_row _ _ (by omega)])).mono (by omega)) ?_
        rw [hn]
        refine UV.add (by omega) hRU.2.2.1 hUB hC hHC (by omega) U2 ?_ rfl
        have et : tbk I2 62 (nI 3) k (nI 0) (nI 0) n = u2 I2 62 9 (I2 62 9 - k) := by
          unfold tbk
          rw [if_pos rfl]
        rw [et, e92]
        have C3 := C2.up9 (S 9 0 + k - k)
        have eS : u2 (u2 S 9 0 (S 9 0 + k)) 9 0 (S 9 0 + k - k) = S := by
          funext a b
          by_cases q : a = 9 ∧ b = 0
          · obtain ⟨rfl, rfl⟩ := q
            rw [u2_at, Int32.add_sub_cancel]
          · simp [u2, q]
        rw [eS] at C3
        refine Sm.ofRC hC C3 (fun t ht => ?_)
        rw [u2_ne _ _ (by omega), f2 _ (by omega), u2_ne _ _ (by omega)]
      · exact no (decide_eq_false (fun q => absurd q.2.2 (by assumption)))
theorem c9_undo (hG : GK K) (hI : CI I J P S im SI m T kn u Hs B) (hn : P.1 1 = n) : Cw l G (d + 4) m9_undo [.ref 0] (I, J, K) (fun r h' => r = some (.int (if u = 0 then -1 else nI (u - 1))) ∧ Pst I J K h' P (if u = 0 then S else Hs (u - 1)) im SI m T kn (u - 1) Hs (B + 1)) := by
  have hG2 := hG
  obtain ⟨⟨k9, t0, t2, t3, t4, t5, t6, t7, t9, t10, t11, t12⟩, -, -, -, -, hD, hS, -, -, -, hU9⟩ := hG2
  have hI2 := hI
  obtain ⟨hR, hW, hC, hHC, hIm, hImg, hRT, U, hRU, hUB⟩ := hI2
  rw [hn] at hC hHC hUB
  have h6 := hS.1
  have hU2 := hU9
  obtain ⟨h7, r0, hr⟩ := hU2
  have g4 := hr.1
  have hn8 := hC.2.1
  have hn7 := hC.1
  have ez : I (93 + 1) 2 = nI u := hRU.2.1
  have eu := hRU.2.2.1
  refine Cw.of ok9_undo rfl (rfl : argL _ _ = [.ref 0]) ?_
  refine e_aload_n rfl rfl ?_
  refine e_getP rfl f9_61 (by assumption) rfl (by assumption) ?_
  refine e_getP rfl f9_350 (by assumption) rfl (by assumption) ?_
  refine e_getI rfl f9_300 (by assumption) rfl ?_
  rw [ez]
  first | refine e_if_neB (tgt := 15) rfl rfl (fun z => ?_) (fun z => ?_) | refine e_if_neN (tgt := 15) rfl rfl (by omega) (fun z => ?_) (fun z => ?_) | refine e_if_ne (tgt := 15) rfl rfl (fun z => ?_) (fun z => ?_)
  · have y : u ≠ 0 := by assumption
    obtain ⟨v, rfl⟩ : ∃ v, u = v + 1 := ⟨u - 1, by omega⟩
    refine e_aload_n rfl rfl ?_
    refine e_getP rfl f9_61 (by assumption) rfl (by assumption) ?_
    refine e_aload_n rfl rfl ?_
    refine e_getP rfl f9_41 (by assumption) rfl (by assumption) ?_
    refine e_callV (kd := 7) (M2 := m7_takeBack) rfl v9_351 ok7_takeBack (c7_takeBack hU9 hRU hS hn7 hn8 (by omega)) rfl (by assumption) rfl rfl rfl rfl (fun r1 h1 q1 => ?_)
    obtain ⟨rfl, rfl⟩ := q1
    refine e_aload_n rfl rfl ?_
    refine e_getP rfl f9_61 (by assumption) rfl (by assumption) ?_
    refine e_getP rfl f9_350 (by assumption) rfl (by assumption) ?_
    refine e_getI rfl f9_300 (by assumption) rfl ?_
    rw [u2_at, if_neg (by omega), if_neg (by omega), Nat.add_sub_cancel]
    refine e_ireturn rfl rfl ?_
    obtain ⟨C1, H1', B1⟩ := hUB
    have rows : ∀ c, (c < 62 ∨ 66 < c) → c ≠ 67 → tbk I 62 (U 0 v) (U 1 v) (U 2 v) (U 3 v) n c = I c := by
      intro c h1 h2
      unfold tbk
      split
      · exact u2_row _ _ (by omega)
      · split
        · split
          · rw [u2_row _ _ (by omega), u2_row _ _ (by omega), u2_row _ _ (by omega)]
          · split
            · rw [u2_row _ _ (by omega), u2_row _ _ (by omega)]
            · rw [u2_row _ _ (by omega)]
        · rfl
    have hfn : FN I J (u2 (tbk I 62 (U 0 v) (U 1 v) (U 2 v) (U 3 v) n) 94 2 (nI v)) J := ⟨fun c b1 b2 b3 b4 => by rw [u2_row _ _ (by omega), rows c (by omega) (by omega)], fun c b1 b2 => rfl⟩
    refine ⟨rfl, _, _, rfl, hfn.fx, ?_⟩
    refine hI.now hfn (by omega) (by rw [hn]; exact C1.frame (fun c h1 h2 => u2_row _ _ (by omega)) rfl) (by rw [hn]; exact (H1'.frame (u2_row _ _ (by omega)) (u2_row _ _ (by omega))).mono (by omega)) ?_
    rw [hn]
    refine ⟨U, ⟨?_, ?_, by omega, fun j hj i hi => ?_⟩, B1.sm (by omega) rfl (by omega) ⟨fun r r1 r2 t ht => u2_ne _ _ (by omega), fun w hw => u2_ne _ _ (by omega), fun k b1 b2 => u2_ne _ _ (by omega)⟩⟩
    · rw [u2_nk _ _ (by omega), rows _ (by omega) (by omega)]; exact hRU.1
    · rw [u2_at]
    · rw [u2_ne _ _ (by omega), rows _ (by omega) (by omega)]; exact hRU.2.2.2 j hj i (by omega)
  · have y : u = 0 := by assumption
    subst y
    refine e_iconst rfl ic_m1 ?_
    refine e_ireturn rfl rfl ?_
    exact ⟨rfl, I, J, rfl, FX.rf, hI.mono (by omega)⟩
end MTin4
