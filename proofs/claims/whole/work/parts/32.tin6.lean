/-! ===== note, see, strike, known, which, ask, unmet ===== -/
theorem CI.told {I : IM} {J : JM} {P : Pl} {S : SM} {im : Bool} {SI : SM} {m : Nat} {T : SM} {kn : Int32} {u : Nat} {Hs : Nat → SM} {B : Nat} {I' : IM} {m' : Nat} {T' : SM} {kn' : Int32} (h : CI I J P S im SI m T kn u Hs B) (hf : ∀ c, (c < 86 ∨ 92 < c) → I' c = I c) (hT : RT I' 86 m' T' kn') : CI I' J P S im SI m' T' kn' u Hs B := by
  obtain ⟨h1, h2, h3, h4, h5, h6, h7, U, h8, h9⟩ := h
  refine ⟨h1.frame (fun c a b => hf c (by omega)), h2, h3.frame (fun c a b => hf c (by omega)) rfl, h4.frame (hf _ (by omega)) (hf _ (by omega)), by rw [hf 0 (by omega)]; exact h5, fun q => ⟨(h6 q).1.frame (fun c a b => hf c (by omega)) rfl, (h6 q).2.frame (hf _ (by omega)) (hf _ (by omega))⟩, hT, U, h8.frame (fun c a b => hf c (by omega)), h9.sm (by have := h3.2.1; omega) rfl (Nat.le_refl _) ⟨fun r r1 r2 t ht => by rw [hf _ (by omega)], fun w hw => by rw [hf _ (by omega)], fun k a b => by rw [hf _ (by omega)]⟩⟩
def addT (m : Nat) (T : SM) (so mu ti : Int32) (is : Bool) : SM := if 24 ≤ m then T else fun j i => if i = m then (if j = 0 then so else if j = 1 then mu else if j = 2 then ti else bI is) else T j i
def addM (m : Nat) : Nat := if 24 ≤ m then m else m + 1
def addA (m : Nat) : Int32 := if 24 ≤ m then -1 else nI m
section MTin6
variable {l : Launch} {G : GG} {d : Nat} {I : IM} {J : JM} {K : Kt} {Q : Option Value → Hp → Prop} {P : Pl} {S : SM} {im : Bool} {SI : SM} {m : Nat} {T : SM} {kn : Int32} {u : Nat} {Hs : Nat → SM} {B n : Nat}
theorem Pst.told {I' : IM} {so mu ti : Int32} {is : Bool} (hI : CI I J P S im SI m T kn u Hs B) (f : ∀ c, (c ≤ 86 ∨ 86 + 6 < c) → I' c = I c) (hT : RT I' 86 (if 24 ≤ m then m else m + 1) (if 24 ≤ m then T else fun j i => if i = m then (if j = 0 then so else if j = 1 then mu else if j = 2 then ti else bI is) else T j i) kn) : Pst I J K (I', J, K) P S im SI (addM m) (addT m T so mu ti is) kn u Hs (B + 1) :=
  ⟨I', J, rfl, ⟨fun c hc => f c (by omega), fun _ _ => rfl, fun k _ => by rw [f 0 (by omega)]⟩, (hI.told (fun c hc => f c (by omega)) hT).mono (by omega)⟩
def isNote (w x : Int32) : Bool := inN 2 w && inN (if w = nI 0 then 100 else 10) x
theorem c9_note (hG : GK K) (hI : CI I J P S im SI m T kn u Hs B) (w x : Int32) (is : Bool) : Cw l G (d + 3) m9_note [.ref 0, .int w, .int x, .int (bI is)] (I, J, K) (fun r h' => r = some (.int (if isNote w x = true then addA m else -1)) ∧ Pst I J K h' P S im SI (if isNote w x = true then addM m else m) (if isNote w x = true then addT m T w x (nI 0) is else T) kn u Hs (B + 1)) := by
  have hG2 := hG
  obtain ⟨⟨k9, t0, t2, t3, t4, t5, t6, t7, t9, t10, t11, t12⟩, -, -, -, hP, hD, hS, hS7, -, hT8, -⟩ := hG2
  have hI2 := hI
  obtain ⟨hR, hW, hC, hHC, hIm, hImg, hRT, U, hRU, hUB⟩ := hI2
  have h8 := hT8.1
  have no : isNote w x = false → Gw l G (d + 3) m9_note 28 [.ref 0, .int w, .int x, .int (bI is)] [] (I, J, K) (fun r h' => r = some (.int (if isNote w x = true then addA m else -1)) ∧ Pst I J K h' P S im SI (if isNote w x = true then addM m else m) (if isNote w x = true then addT m T w x (nI 0) is else T) kn u Hs (B + 1)) := by
    intro hno
    rw [hno]
    refine e_iconst rfl ic_m1 ?_
    refine e_ireturn rfl rfl ?_
    exact ⟨rfl, I, J, rfl, FX.rf, hI.mono (by omega)⟩
  refine Cw.of ok9_note rfl (rfl : argL _ _ = [.ref 0, .int w, .int x, .int (bI is)]) ?_
  refine e_iload_n rfl rfl ?_
  first | refine e_if_ltN (tgt := 28) rfl rfl (by omega) ?_ | refine e_if_lt (tgt := 28) rfl rfl (fun z => ?_) (fun z => ?_)
  · have y : w < 0 := by assumption
    exact no (by rw [isNote, Bool.eq_false_iff.mpr (fun q => (inN_lo (k := 1) (by omega) q).1 y), Bool.false_and])
  · have y0 : ¬ w < 0 := by assumption
    refine e_iload_n rfl rfl ?_
    refine e_iconst (v := nI 1) rfl ic_1N ?_
    first | refine e_icmp_gtN (tgt := 28) rfl rfl (by omega) (by omega) (fun z => ?_) (fun z => ?_) | refine e_icmp_gt (tgt := 28) rfl rfl (fun z => ?_) (fun z => ?_)
    · have y : nI 1 < w := by assumption
      exact no (by rw [isNote, Bool.eq_false_iff.mpr (fun q => absurd (inN_lo (k := 1) (by omega) q).2 (Int32.not_le.mpr y)), Bool.false_and])
    · have y1 : ¬ nI 1 < w := by assumption
      have hw : inN 2 w = true := inN_hi (k := 1) (by omega) y0 (Int32.not_lt.mp y1)
      refine e_iload_n rfl rfl ?_
      first | refine e_if_ltN (tgt := 28) rfl rfl (by omega) ?_ | refine e_if_lt (tgt := 28) rfl rfl (fun z => ?_) (fun z => ?_)
      · have y : x < 0 := by assumption
        refine no ?_
        rw [isNote, Bool.eq_false_iff.mpr (fun q : inN (if w = nI 0 then 100 else 10) x = true => absurd y (Int32.not_lt.mpr (of_decide_eq_true q).1)), Bool.and_false]
      · have y2 : ¬ x < 0 := by assumption
        obtain ⟨i, hi, rfl⟩ := inN_of (by omega) hw
        refine e_iload_n rfl rfl ?_
        refine e_iload_n rfl rfl ?_
        first | refine e_if_neB (tgt := 23) rfl rfl (fun z => ?_) (fun z => ?_) | refine e_if_neN (tgt := 23) rfl rfl (by omega) (fun z => ?_) (fun z => ?_) | refine e_if_ne (tgt := 23) rfl rfl (fun z => ?_) (fun z => ?_)
        · have yi : i ≠ 0 := by assumption
          obtain rfl : i = 1 := by omega
          refine e_bipush (v := nI 9) rfl bp_9N ?_
          first | refine e_icmp_leN (tgt := 30) rfl rfl (by omega) (by omega) (fun z => ?_) (fun z => ?_) | refine e_icmp_le (tgt := 30) rfl rfl (fun z => ?_) (fun z => ?_)
          · have y3 : x ≤ nI 9 := by assumption
            have yes : isNote (nI 1) x = true := by rw [isNote, hw, Bool.true_and, if_neg (by decide)]; exact inN_hi (k := 9) (by omega) y2 y3
            rw [if_pos yes, if_pos yes, if_pos yes]
            refine e_aload_n rfl rfl ?_
            refine e_getP rfl f9_54 (by assumption) rfl (by assumption) ?_
            refine e_iload_n rfl rfl ?_
            first | refine e_if_neB (tgt := 42) rfl rfl (fun z => ?_) (fun z => ?_) | refine e_if_neN (tgt := 42) rfl rfl (by omega) (fun z => ?_) (fun z => ?_) | refine e_if_ne (tgt := 42) rfl rfl (fun z => ?_) (fun z => ?_)
            · refine e_iconst (v := nI 1) rfl ic_1N ?_
              refine e_iload_n rfl rfl ?_
              refine e_iconst (v := nI 0) rfl ic_0N ?_
              refine e_iload_n rfl rfl ?_
              refine e_callV (kd := 8) (M2 := m8_add) rfl v9_303 ok8_add (c8_add hT8 hRT _ _ _ _) rfl (by assumption) rfl rfl rfl rfl (fun r1 h1 q1 => ?_)
              obtain ⟨rfl, I1, rfl, f1, R1⟩ := q1
              exact e_ireturn rfl rfl ⟨rfl, Pst.told hI f1 R1⟩
            · omega
          · exact no (by rw [isNote, hw, Bool.true_and, if_neg (by decide)]; exact Bool.eq_false_iff.mpr (fun q => absurd (inN_lo (k := 9) (by omega) q).2 (by assumption)))
        · have yi : i = 0 := by assumption
          subst yi
          refine e_bipush (v := nI 99) rfl bp_99N ?_
          refine e_goto (tgt := 25) rfl rfl ?_
          first | refine e_icmp_leN (tgt := 30) rfl rfl (by omega) (by omega) (fun z => ?_) (fun z => ?_) | refine e_icmp_le (tgt := 30) rfl rfl (fun z => ?_) (fun z => ?_)
          · have y3 : x ≤ nI 99 := by assumption
            have yes : isNote (nI 0) x = true := by rw [isNote, hw, Bool.true_and, if_pos rfl]; exact inN_hi (k := 99) (by omega) y2 y3
            rw [if_pos yes, if_pos yes, if_pos yes]
            refine e_aload_n rfl rfl ?_
            refine e_getP rfl f9_54 (by assumption) rfl (by assumption) ?_
            refine e_iload_n rfl rfl ?_
            first | refine e_if_neB (tgt := 42) rfl rfl (fun z => ?_) (fun z => ?_) | refine e_if_neN (tgt := 42) rfl rfl (by omega) (fun z => ?_) (fun z => ?_) | refine e_if_ne (tgt := 42) rfl rfl (fun z => ?_) (fun z => ?_)
            · omega
            · refine e_iconst (v := nI 0) rfl ic_0N ?_
              refine e_goto (tgt := 43) rfl rfl ?_
              refine e_iload_n rfl rfl ?_
              refine e_iconst (v := nI 0) rfl ic_0N ?_
              refine e_iload_n rfl rfl ?_
              refine e_callV (kd := 8) (M2 := m8_add) rfl v9_303 ok8_add (c8_add hT8 hRT _ _ _ _) rfl (by assumption) rfl rfl rfl rfl (fun r1 h1 q1 => ?_)
              obtain ⟨rfl, I1, rfl, f1, R1⟩ := q1
              exact e_ireturn rfl rfl ⟨rfl, Pst.told hI f1 R1⟩
          · exact no (by rw [isNote, hw, Bool.true_and, if_pos rfl]; exact Bool.eq_false_iff.mpr (fun q => absurd (inN_lo (k := 99) (by omega) q).2 (by assumption)))
def isSee (n : Nat) (x t : Int32) : Bool := inN 61 x && (!decide (x = nI 0) && inN n t)
theorem c9_see (hG : GK K) (hI : CI I J P S im SI m T kn u Hs B) (hn : P.1 1 = n) (x t : Int32) (is : Bool) : Cw l G (d + 3) m9_see [.ref 0, .int x, .int t, .int (bI is)] (I, J, K) (fun r h' => r = some (.int (if isSee n x t = true then addA m else -1)) ∧ Pst I J K h' P S im SI (if isSee n x t = true then addM m else m) (if isSee n x t = true then addT m T (nI 2) x t is else T) kn u Hs (B + 1)) := by
  have hG2 := hG
  obtain ⟨⟨k9, t0, t2, t3, t4, t5, t6, t7, t9, t10, t11, t12⟩, -, -, -, hP, hD, hS, hS7, -, hT8, -⟩ := hG2
  have hI2 := hI
  obtain ⟨hR, hW, hC, hHC, hIm, hImg, hRT, U, hRU, hUB⟩ := hI2
  rw [hn] at hC
  have h8 := hT8.1
  have h6 := hS.1
  have no : isSee n x t = false → Gw l G (d + 3) m9_see 22 [.ref 0, .int x, .int t, .int (bI is)] [] (I, J, K) (fun r h' => r = some (.int (if isSee n x t = true then addA m else -1)) ∧ Pst I J K h' P S im SI (if isSee n x t = true then addM m else m) (if isSee n x t = true then addT m T (nI 2) x t is else T) kn u Hs (B + 1)) := by
    intro hno
    rw [hno]
    refine e_iconst rfl ic_m1 ?_
    refine e_ireturn rfl rfl ?_
    exact ⟨rfl, I, J, rfl, FX.rf, hI.mono (by omega)⟩
  refine Cw.of ok9_see rfl (rfl : argL _ _ = [.ref 0, .int x, .int t, .int (bI is)]) ?_
  refine e_iload_n rfl rfl ?_
  refine e_iconst (v := nI 1) rfl ic_1N ?_
  first | refine e_icmp_ltN (tgt := 22) rfl rfl (by omega) (by omega) (fun z => ?_) (fun z => ?_) | refine e_icmp_lt (tgt := 22) rfl rfl (fun z => ?_) (fun z => ?_)
  · have y1 : x < nI 1 := by assumption
    refine no ?_
    by_cases q : inN 61 x = true
    · obtain ⟨j, hj, rfl⟩ := inN_of (by omega) q
      have := (nI_ltI (by omega) (by omega)).mp y1
      obtain rfl : j = 0 := by omega
      rw [isSee, decide_eq_true rfl, Bool.not_true, Bool.false_and, Bool.and_false]
    · rw [isSee, Bool.eq_false_iff.mpr q, Bool.false_and]
  · have y1 : ¬ x < nI 1 := by assumption
    have y10 : ¬ x < 0 := fun q => y1 (Int32.lt_trans q (by decide))
    have yx0 : ¬ x = nI 0 := fun q => y1 (by rw [q]; decide)
    refine e_iload_n rfl rfl ?_
    refine e_bipush (v := nI 60) rfl bp_60N ?_
    first | refine e_icmp_gtN (tgt := 22) rfl rfl (by omega) (by omega) (fun z => ?_) (fun z => ?_) | refine e_icmp_gt (tgt := 22) rfl rfl (fun z => ?_) (fun z => ?_)
    · have y2 : nI 60 < x := by assumption
      exact no (by rw [isSee, Bool.eq_false_iff.mpr (fun q => absurd (inN_lo (k := 60) (by omega) q).2 (Int32.not_le.mpr y2)), Bool.false_and])
    · have y2 : ¬ nI 60 < x := by assumption
      have hx : inN 61 x = true := inN_hi (k := 60) (by omega) y10 (Int32.not_lt.mp y2)
      have eS : isSee n x t = inN n t := by rw [isSee, hx, Bool.true_and, decide_eq_false yx0, Bool.not_false, Bool.true_and]
      refine e_aload_n rfl rfl ?_
      refine e_getP rfl f9_41 (by assumption) rfl (by assumption) ?_
      refine e_iload_n rfl rfl ?_
      refine e_callVp (kd := 6) (M2 := m6_has) rfl v9_121 ok6_has (c6_has h6 hC.1 t) rfl (by assumption) rfl rfl rfl rfl ?_
      first | refine e_if_neB (tgt := 24) rfl rfl (fun z => ?_) (fun z => ?_) | refine e_if_neN (tgt := 24) rfl rfl (by omega) (fun z => ?_) (fun z => ?_) | refine e_if_ne (tgt := 24) rfl rfl (fun z => ?_) (fun z => ?_)
      · have yes : isSee n x t = true := by rw [eS]; exact z
        rw [if_pos yes, if_pos yes, if_pos yes]
        refine e_aload_n rfl rfl ?_
        refine e_getP rfl f9_54 (by assumption) rfl (by assumption) ?_
        refine e_iconst (v := nI 2) rfl ic_2N ?_
        refine e_iload_n rfl rfl ?_
        refine e_iload_n rfl rfl ?_
        refine e_iload_n rfl rfl ?_
        refine e_callV (kd := 8) (M2 := m8_add) rfl v9_303 ok8_add (c8_add hT8 hRT _ _ _ _) rfl (by assumption) rfl rfl rfl rfl (fun r1 h1 q1 => ?_)
        obtain ⟨rfl, I1, rfl, f1, R1⟩ := q1
        exact e_ireturn rfl rfl ⟨rfl, Pst.told hI f1 R1⟩
      · exact no (by rw [eS]; exact z)
theorem c9_strike (hG : GK K) (hI : CI I J P S im SI m T kn u Hs B) (x : Int32) : Cw l G (d + 3) m9_strike [.ref 0, .int x] (I, J, K) (fun r h' => r = some (.int (if inN m x = true then addA m else -1)) ∧ Pst I J K h' P S im SI (if inN m x = true then addM m else m) (if inN m x = true then addT m T (nI 3) x (nI 0) true else T) kn u Hs (B + 1)) := by
  have hG2 := hG
  obtain ⟨⟨k9, t0, t2, t3, t4, t5, t6, t7, t9, t10, t11, t12⟩, -, -, -, hP, hD, hS, hS7, -, hT8, -⟩ := hG2
  have hI2 := hI
  obtain ⟨hR, hW, hC, hHC, hIm, hImg, hRT, U, hRU, hUB⟩ := hI2
  have hT2 := hT8
  obtain ⟨h8, s0, hs⟩ := hT2
  have g8 := hs.1
  refine Cw.of ok9_strike rfl (rfl : argL _ _ = [.ref 0, .int x]) ?_
  refine e_aload_n rfl rfl ?_
  refine e_getP rfl f9_54 (by assumption) rfl (by assumption) ?_
  refine e_getP rfl f9_306 (by assumption) rfl (by assumption) ?_
  refine e_iload_n rfl rfl ?_
  refine e_callVp (kd := 4) (M2 := m4_has) rfl v9_156 ok4_has (c4_hasN g8 hRT.2.1 x) rfl (by assumption) rfl rfl rfl rfl ?_
  first | refine e_if_neB (tgt := 16) rfl rfl (fun z => ?_) (fun z => ?_) | refine e_if_neN (tgt := 16) rfl rfl (by omega) (fun z => ?_) (fun z => ?_) | refine e_if_ne (tgt := 16) rfl rfl (fun z => ?_) (fun z => ?_)
  · rw [if_pos z, if_pos z, if_pos z]
    refine e_aload_n rfl rfl ?_
    refine e_getP rfl f9_54 (by assumption) rfl (by assumption) ?_
    refine e_iconst (v := nI 3) rfl ic_3N ?_
    refine e_iload_n rfl rfl ?_
    refine e_iconst (v := nI 0) rfl ic_0N ?_
    refine e_iconst (v := nI 1) rfl ic_1N ?_
    refine e_callV (kd := 8) (M2 := m8_add) rfl v9_303 ok8_add (c8_add (is := true) hT8 hRT _ _ _) rfl (by assumption) rfl rfl rfl rfl (fun r1 h1 q1 => ?_)
    obtain ⟨rfl, I1, rfl, f1, R1⟩ := q1
    exact e_ireturn rfl rfl ⟨rfl, Pst.told hI f1 R1⟩
  · rw [z]
    refine e_iconst rfl ic_m1 ?_
    refine e_ireturn rfl rfl ?_
    exact ⟨rfl, I, J, rfl, FX.rf, hI.mono (by omega)⟩
def isKnown (m : Nat) (x : Int32) : Bool := decide (-1 ≤ x ∧ x ≤ nI m)
theorem c9_known (hG : GK K) (hI : CI I J P S im SI m T kn u Hs B) (x : Int32) : Cw l G (d + 3) m9_known [.ref 0, .int x] (I, J, K) (fun r h' => r = some (.int (bI (isKnown m x))) ∧ Pst I J K h' P S im SI m T (if isKnown m x = true then x else kn) u Hs (B + 1)) := by
  have hG2 := hG
  obtain ⟨⟨k9, t0, t2, t3, t4, t5, t6, t7, t9, t10, t11, t12⟩, -, -, -, hP, hD, hS, hS7, -, hT8, -⟩ := hG2
  have hI2 := hI
  obtain ⟨hR, hW, hC, hHC, hIm, hImg, hRT, U, hRU, hUB⟩ := hI2
  have hT2 := hT8
  obtain ⟨h8, s0, hs⟩ := hT2
  have g8 := hs.1
  have ez : I (86 + 1) 2 = nI m := hRT.2.1
  have no : isKnown m x = false → Gw l G (d + 3) m9_known 19 [.ref 0, .int x] [] (I, J, K) (fun r h' => r = some (.int (bI (isKnown m x))) ∧ Pst I J K h' P S im SI m T (if isKnown m x = true then x else kn) u Hs (B + 1)) := by
    intro hno
    rw [hno]
    refine e_iconst (v := nI 0) rfl ic_0N ?_
    refine e_zreturn rfl rfl ?_ ?_
    · exact Or.inl rfl
    · exact ⟨rfl, I, J, rfl, FX.rf, hI.mono (by omega)⟩
  refine Cw.of ok9_known rfl (rfl : argL _ _ = [.ref 0, .int x]) ?_
  refine e_iload_n rfl rfl ?_
  refine e_iconst rfl ic_m1 ?_
  first | refine e_icmp_ltN (tgt := 19) rfl rfl (by omega) (by omega) (fun z => ?_) (fun z => ?_) | refine e_icmp_lt (tgt := 19) rfl rfl (fun z => ?_) (fun z => ?_)
  · have y : x < -1 := by assumption
    exact no (decide_eq_false (fun q => absurd y (Int32.not_lt.mpr q.1)))
  · have y0 : ¬ x < -1 := by assumption
    refine e_iload_n rfl rfl ?_
    refine e_aload_n rfl rfl ?_
    refine e_getP rfl f9_54 (by assumption) rfl (by assumption) ?_
    refine e_getP rfl f9_306 (by assumption) rfl (by assumption) ?_
    refine e_getI rfl f9_300 (by assumption) rfl ?_
    rw [ez]
    first | refine e_icmp_leN (tgt := 21) rfl rfl (by omega) (by omega) (fun z => ?_) (fun z => ?_) | refine e_icmp_le (tgt := 21) rfl rfl (fun z => ?_) (fun z => ?_)
    · have y1 : x ≤ nI m := by assumption
      have yes : isKnown m x = true := decide_eq_true ⟨Int32.not_lt.mp y0, y1⟩
      rw [if_pos yes, yes]
      refine e_aload_n rfl rfl ?_
      refine e_getP rfl f9_54 (by assumption) rfl (by assumption) ?_
      refine e_iload_n rfl rfl ?_
      refine e_putI rfl f9_309 (by assumption) rfl rfl ?_
      refine e_iconst (v := nI 1) rfl ic_1N ?_
      refine e_zreturn rfl rfl ?_ ?_
      · exact Or.inr rfl
      · have f : ∀ c, c ≠ 86 → u2 I 86 1 x c = I c := fun c h => u2_row _ _ h
        refine ⟨rfl, _, _, rfl, ⟨fun c hc => f c (by omega), fun _ _ => rfl, fun k _ => by rw [f 0 (by omega)]⟩, (hI.told (fun c hc => f c (by omega)) ?_).mono (by omega)⟩
        obtain ⟨r1, r2, r3, r4, r5⟩ := hRT
        refine ⟨?_, ?_, r3, fun j hj i hi => ?_, ?_⟩
        · rw [f _ (by omega)]; exact r1
        · rw [f _ (by omega)]; exact r2
        · rw [f _ (by omega)]; exact r4 j hj i hi
        · rw [u2_at]
    · exact no (decide_eq_false (fun q => absurd q.2 (by assumption)))
/-- may it be this KIND -/
def kdF (P : Pl) (m : Nat) (T : SM) (kn : Int32) (k : Nat) : Bool := mbF T (cntd T (kwn kn m) (nI 0) (nI 0)) (P.2 1 k) (P.2 2 k) 0 m
theorem which_loop (hG : GK K) (hR : RP I 33 P) (hRT : RT I 86 m T kn) : ∀ k i b v4 v5, i + k = P.1 0 → Q (some (.int (bitF (kdF P m T kn) i k b))) (I, J, K) → Gw l G (d + 3) m9_which 12 [.ref 0, .int b, .int (cntd T (kwn kn m) (nI 0) (nI 0)), .int (nI i), v4, v5] [] (I, J, K) Q := by
  have hG2 := hG
  obtain ⟨⟨k9, t0, t2, t3, t4, t5, t6, t7, t9, t10, t11, t12⟩, -, -, -, hP, hD, hS, hS7, -, hT8, -⟩ := hG2
  obtain ⟨h3, q0, q1, q2, q3, q4, r1, r2, r3, r4, r5⟩ := hP
  have g1 := r1.1
  have h8 := hT8.1
  have ez : I (33 + 1) 2 = nI (P.1 0) := hR.2.1.1
  have b6 := hR.2.1.2
  intro k
  induction k with
  | zero =>
    intro i b v4 v5 hi hq
    refine e_iload_n rfl rfl ?_
    refine e_aload_n rfl rfl ?_
    refine e_getP rfl f9_25 (by assumption) rfl (by assumption) ?_
    refine e_getP rfl f9_108 (by assumption) rfl (by assumption) ?_
    refine e_getI rfl f9_300 (by assumption) rfl ?_
    rw [ez]
    first | refine e_icmp_geN (tgt := 81) rfl rfl (by omega) (by omega) (fun z => ?_) (fun z => ?_) | refine e_icmp_ge (tgt := 81) rfl rfl (fun z => ?_) (fun z => ?_)
    · refine e_iload_n rfl rfl ?_
      refine e_ireturn rfl rfl ?_
      exact hq
    · omega
  | succ k ih =>
    intro i b v4 v5 hi hq
    have e1 : rAt I (33 + 1) (P.1 0) 1 (nI i) = P.2 1 i := (rAt_nI (by omega) (by omega)).trans (hR.2.2.2.2.2.1 1 (by omega) i (by omega))
    have e2 : rAt I (33 + 1) (P.1 0) 2 (nI i) = P.2 2 i := (rAt_nI (by omega) (by omega)).trans (hR.2.2.2.2.2.1 2 (by omega) i (by omega))
    rw [bitF] at hq
    refine e_iload_n rfl rfl ?_
    refine e_aload_n rfl rfl ?_
    refine e_getP rfl f9_25 (by assumption) rfl (by assumption) ?_
    refine e_getP rfl f9_108 (by assumption) rfl (by assumption) ?_
    refine e_getI rfl f9_300 (by assumption) rfl ?_
    rw [ez]
    first | refine e_icmp_geN (tgt := 81) rfl rfl (by omega) (by omega) (fun z => ?_) (fun z => ?_) | refine e_icmp_ge (tgt := 81) rfl rfl (fun z => ?_) (fun z => ?_)
    · omega
    · refine e_aload_n rfl rfl ?_
      refine e_getP rfl f9_25 (by assumption) rfl (by assumption) ?_
      refine e_getP rfl f9_108 (by assumption) rfl (by assumption) ?_
      refine e_iload_n rfl rfl ?_
      refine e_iconst (v := nI 1) rfl ic_1N ?_
      refine e_callVp (kd := 4) (M2 := m4_at) rfl v9_132 ok4_at (c4_at r1 ez b6 (by omega) _) rfl (by assumption) rfl rfl rfl rfl ?_
      rw [e1]
      refine e_ist4 rfl rfl rfl ?_
      refine e_aload_n rfl rfl ?_
      refine e_getP rfl f9_25 (by assumption) rfl (by assumption) ?_
      refine e_getP rfl f9_108 (by assumption) rfl (by assumption) ?_
      refine e_iload_n rfl rfl ?_
      refine e_iconst (v := nI 2) rfl ic_2N ?_
      refine e_callVp (kd := 4) (M2 := m4_at) rfl v9_132 ok4_at (c4_at r1 ez b6 (by omega) _) rfl (by assumption) rfl rfl rfl rfl ?_
      rw [e2]
      refine e_ist5 rfl rfl rfl ?_
      refine e_aload_n rfl rfl ?_
      refine e_getP rfl f9_54 (by assumption) rfl (by assumption) ?_
      refine e_iload_n rfl rfl ?_
      refine e_iload rfl rfl ?_
      refine e_iload rfl rfl ?_
      refine e_callVp (kd := 8) (M2 := m8_mayBe) rfl v9_315 ok8_mayBe (c8_mayBe hT8 hRT _ _ _) rfl (by assumption) rfl rfl rfl rfl ?_
      first | refine e_if_eqB (tgt := 75) rfl rfl (fun z => ?_) (fun z => ?_) | refine e_if_eqN (tgt := 75) rfl rfl (by omega) (fun z => ?_) (fun z => ?_) | refine e_if_eq (tgt := 75) rfl rfl (fun z => ?_) (fun z => ?_)
      · have y : kdF P m T kn i = false := z
        rw [if_neg (by rw [y]; decide)] at hq
        first | refine e_inc3 rfl rfl rfl (incN1 _) ?_ | refine e_inc3 rfl rfl rfl rfl ?_
        refine e_goto (tgt := 12) rfl rfl ?_
        exact ih (i + 1) b _ _ (by omega) hq
      · have y : kdF P m T kn i = true := z
        rw [if_pos y] at hq
        refine e_iload_n rfl rfl ?_
        refine e_iconst (v := nI 1) rfl ic_1N ?_
        refine e_iload_n rfl rfl ?_
        refine e_ishl rfl ?_
        refine e_ior rfl ?_
        refine e_ist1 rfl rfl rfl ?_
        first | refine e_inc3 rfl rfl rfl (incN1 _) ?_ | refine e_inc3 rfl rfl rfl rfl ?_
        refine e_goto (tgt := 12) rfl rfl ?_
        exact ih (i + 1) _ _ _ (by omega) hq
def a_which (P : Pl) (m : Nat) (T : SM) (kn : Int32) : Int32 := bitF (kdF P m T kn) 0 (P.1 0) (nI 0)
theorem c9_which (hG : GK K) (hR : RP I 33 P) (hRT : RT I 86 m T kn) (hwT : wfT n m T kn) : Cp l G (d + 3) m9_which [.ref 0] (I, J, K) (.int (a_which P m T kn)) := by
  have hG2 := hG
  obtain ⟨⟨k9, t0, t2, t3, t4, t5, t6, t7, t9, t10, t11, t12⟩, -, -, -, hP, hD, hS, hS7, -, hT8, -⟩ := hG2
  have h8 := hT8.1
  obtain ⟨ek, hk⟩ := hmk_kwn hwT
  refine Cp.of ok9_which rfl (rfl : argL _ _ = [.ref 0, .null, .null, .null, .null, .null]) ?_
  refine e_iconst (v := nI 0) rfl ic_0N ?_
  refine e_ist1 rfl rfl rfl ?_
  refine e_aload_n rfl rfl ?_
  refine e_getP rfl f9_54 (by assumption) rfl (by assumption) ?_
  refine e_callVp (kd := 8) (M2 := m8_counted) rfl v9_312 ok8_counted (c8_counted hT8 hRT ek hk) rfl (by assumption) rfl rfl rfl rfl ?_
  refine e_ist2 rfl rfl rfl ?_
  refine e_iconst (v := nI 0) rfl ic_0N ?_
  refine e_ist3 rfl rfl rfl ?_
  exact which_loop hG hR hRT (P.1 0) 0 _ _ _ (by omega) ⟨rfl, rfl⟩
/-- how many are left at worst, asked by a weight -/
def hvy (P : Pl) (g : Nat → Bool) (w : Nat) : Nat := cnt (fun k => g k && decide (nI w ≤ P.2 1 k)) (P.1 0)
def wrs (P : Pl) (g : Nat → Bool) (w : Nat) : Nat := if hvy P g w < cnt g (P.1 0) - hvy P g w then cnt g (P.1 0) - hvy P g w else hvy P g w
def akF (f : Nat → Nat) : Nat → Nat → Nat → Nat → Nat × Nat
  | 0, _, fe, be => (fe, be)
  | k + 1, w, fe, be => if f w < fe then akF f k (w + 1) (f w) w else akF f k (w + 1) fe be
theorem cF_mono {f g : Nat → Bool} (h : ∀ i, f i = true → g i = true) : ∀ k i, cF f i k ≤ cF g i k
  | 0, _ => Nat.le_refl 0
  | k + 1, i => by
    have := cF_mono h k (i + 1)
    rw [cF, cF]
    by_cases c : f i = true
    · rw [if_pos c, if_pos (h i c)]; omega
    · rw [if_neg c]
      split <;> omega
theorem ask_in (hG : GK K) (hR : RP I 33 P) {g : Nat → Bool} {w : Nat} (hw : w ≤ 99) {x fe be : Int32} : ∀ k i hv, i + k = P.1 0 → hv ≤ i → Gw l G (d + 3) m9_ask 90 [.ref 0, .int x, .int (bitF g 0 (P.1 0) (nI 0)), .int fe, .int be, .int (nI w), .int (nI (hv + cF (fun k => g k && decide (nI w ≤ P.2 1 k)) i k)), .int (nI (P.1 0))] [] (I, J, K) Q → Gw l G (d + 3) m9_ask 39 [.ref 0, .int x, .int (bitF g 0 (P.1 0) (nI 0)), .int fe, .int be, .int (nI w), .int (nI hv), .int (nI i)] [] (I, J, K) Q := by
  have hG2 := hG
  obtain ⟨⟨k9, t0, t2, t3, t4, t5, t6, t7, t9, t10, t11, t12⟩, -, -, -, hP, hD, hS, hS7, -, hT8, -⟩ := hG2
  obtain ⟨h3, q0, q1, q2, q3, q4, r1, r2, r3, r4, r5⟩ := hP
  have g1 := r1.1
  have ez : I (33 + 1) 2 = nI (P.1 0) := hR.2.1.1
  have b6 := hR.2.1.2
  intro k
  induction k with
  | zero =>
    intro i hv hi hh kk
    obtain rfl : i = P.1 0 := by omega
    refine e_iload rfl rfl ?_
    refine e_aload_n rfl rfl ?_
    refine e_getP rfl f9_25 (by assumption) rfl (by assumption) ?_
    refine e_getP rfl f9_108 (by assumption) rfl (by assumption) ?_
    refine e_getI rfl f9_300 (by assumption) rfl ?_
    rw [ez]
    first | refine e_icmp_geN (tgt := 90) rfl rfl (by omega) (by omega) (fun z => ?_) (fun z => ?_) | refine e_icmp_ge (tgt := 90) rfl rfl (fun z => ?_) (fun z => ?_)
    · exact kk
    · omega
  | succ k ih =>
    intro i hv hi hh kk
    have e1 : rAt I (33 + 1) (P.1 0) 1 (nI i) = P.2 1 i := (rAt_nI (by omega) (by omega)).trans (hR.2.2.2.2.2.1 1 (by omega) i (by omega))
    rw [cF] at kk
    refine e_iload rfl rfl ?_
    refine e_aload_n rfl rfl ?_
    refine e_getP rfl f9_25 (by assumption) rfl (by assumption) ?_
    refine e_getP rfl f9_108 (by assumption) rfl (by assumption) ?_
    refine e_getI rfl f9_300 (by assumption) rfl ?_
    rw [ez]
    first | refine e_icmp_geN (tgt := 90) rfl rfl (by omega) (by omega) (fun z => ?_) (fun z => ?_) | refine e_icmp_ge (tgt := 90) rfl rfl (fun z => ?_) (fun z => ?_)
    · omega
    · refine e_iload_n rfl rfl ?_
      refine e_iload rfl rfl ?_
      refine e_callSp (M2 := m9_isBit) rfl v9_324 ok9_isBit (c9_isBit _ _) rfl rfl rfl ?_
      rw [bitF_0 (by omega) (by omega)]
      first | refine e_if_eqB (tgt := 84) rfl rfl (fun z => ?_) (fun z => ?_) | refine e_if_eqN (tgt := 84) rfl rfl (by omega) (fun z => ?_) (fun z => ?_) | refine e_if_eq (tgt := 84) rfl rfl (fun z => ?_) (fun z => ?_)
      · have y : g i = false := z
        rw [y, Bool.false_and, if_neg (by decide), Nat.zero_add] at kk
        first | refine e_inc7 rfl rfl rfl (incN1 _) ?_ | refine e_inc7 rfl rfl rfl rfl ?_
        refine e_goto (tgt := 39) rfl rfl ?_
        exact ih (i + 1) hv (by omega) (by omega) kk
      · have y : g i = true := z
        rw [y, Bool.true_and] at kk
        refine e_aload_n rfl rfl ?_
        refine e_getP rfl f9_25 (by assumption) rfl (by assumption) ?_
        refine e_getP rfl f9_108 (by assumption) rfl (by assumption) ?_
        refine e_iload rfl rfl ?_
        refine e_iconst (v := nI 1) rfl ic_1N ?_
        refine e_callVp (kd := 4) (M2 := m4_at) rfl v9_132 ok4_at (c4_at r1 ez b6 (by omega) _) rfl (by assumption) rfl rfl rfl rfl ?_
        rw [e1]
        refine e_iload rfl rfl ?_
        first | refine e_icmp_ltN (tgt := 84) rfl rfl (by omega) (by omega) (fun z => ?_) (fun z => ?_) | refine e_icmp_lt (tgt := 84) rfl rfl (fun z => ?_) (fun z => ?_)
        · have y2 : P.2 1 i < nI w := by assumption
          rw [decide_eq_false (Int32.not_le.mpr y2), if_neg (by decide), Nat.zero_add] at kk
          first | refine e_inc7 rfl rfl rfl (incN1 _) ?_ | refine e_inc7 rfl rfl rfl rfl ?_
          refine e_goto (tgt := 39) rfl rfl ?_
          exact ih (i + 1) hv (by omega) (by omega) kk
        · have y2 : ¬ P.2 1 i < nI w := by assumption
          rw [decide_eq_true (Int32.not_lt.mp y2), if_pos rfl, ← Nat.add_assoc] at kk
          first | refine e_inc6 rfl rfl rfl (incN1 _) ?_ | refine e_inc6 rfl rfl rfl rfl ?_
          first | refine e_inc7 rfl rfl rfl (incN1 _) ?_ | refine e_inc7 rfl rfl rfl rfl ?_
          refine e_goto (tgt := 39) rfl rfl ?_
          exact ih (i + 1) (hv + 1) (by omega) (by omega) kk
theorem ask_loop (hG : GK K) (hR : RP I 33 P) {g : Nat → Bool} {x : Nat} (hx : x < 2) : ∀ k w fe be v6 v7, w + k = 100 → fe ≤ 6 → be ≤ 99 → Q (some (.int (nI (if x = 0 then (akF (wrs P g) k w fe be).2 else (akF (wrs P g) k w fe be).1)))) (I, J, K) → Gw l G (d + 3) m9_ask 26 [.ref 0, .int (nI x), .int (bitF g 0 (P.1 0) (nI 0)), .int (nI fe), .int (nI be), .int (nI w), v6, v7] [] (I, J, K) Q := by
  have b6 := hR.2.1.2
  intro k
  induction k with
  | zero =>
    intro w fe be v6 v7 hw hfe hbe hq
    obtain rfl : w = 100 := by omega
    rw [akF] at hq
    refine e_iload rfl rfl ?_
    refine e_bipush (v := nI 99) rfl bp_99N ?_
    first | refine e_icmp_gtN (tgt := 123) rfl rfl (by omega) (by omega) (fun z => ?_) (fun z => ?_) | refine e_icmp_gt (tgt := 123) rfl rfl (fun z => ?_) (fun z => ?_)
    · refine e_iload_n rfl rfl ?_
      first | refine e_if_neB (tgt := 132) rfl rfl (fun z => ?_) (fun z => ?_) | refine e_if_neN (tgt := 132) rfl rfl (by omega) (fun z => ?_) (fun z => ?_) | refine e_if_ne (tgt := 132) rfl rfl (fun z => ?_) (fun z => ?_)
      · have y : x ≠ 0 := by assumption
        rw [if_neg y] at hq
        refine e_iload_n rfl rfl ?_
        refine e_ireturn rfl rfl ?_
        exact hq
      · have y : x = 0 := by assumption
        rw [if_pos y] at hq
        refine e_iload rfl rfl ?_
        refine e_goto (tgt := 133) rfl rfl ?_
        refine e_ireturn rfl rfl ?_
        exact hq
    · omega
  | succ k ih =>
    intro w fe be v6 v7 hw hfe hbe hq
    have hle : hvy P g w ≤ cnt g (P.1 0) := cF_mono (fun i h => by rw [Bool.and_eq_true] at h; exact h.1) _ _
    have hc6 : cnt g (P.1 0) ≤ P.1 0 := cF_le _ _ _
    refine e_iload rfl rfl ?_
    refine e_bipush (v := nI 99) rfl bp_99N ?_
    first | refine e_icmp_gtN (tgt := 123) rfl rfl (by omega) (by omega) (fun z => ?_) (fun z => ?_) | refine e_icmp_gt (tgt := 123) rfl rfl (fun z => ?_) (fun z => ?_)
    · omega
    · refine e_iconst (v := nI 0) rfl ic_0N ?_
      refine e_ist6 rfl rfl rfl ?_
      refine e_iconst (v := nI 0) rfl ic_0N ?_
      refine e_ist7 rfl rfl rfl ?_
      refine ask_in hG hR (by omega) (P.1 0) 0 0 (by omega) (by omega) ?_
      rw [Nat.zero_add]
      have eh : cF (fun k => g k && decide (nI w ≤ P.2 1 k)) 0 (P.1 0) = hvy P g w := rfl
      rw [eh]
      refine e_iload rfl rfl ?_
      refine e_iload_n rfl rfl ?_
      refine e_callSp (M2 := mJ_bitCount) rfl v9_328 okJ_bitCount (cJ_bitCount _) rfl rfl rfl ?_
      rw [bc_cnt b6]
      refine e_iload rfl rfl ?_
      first | refine e_isubN rfl (by omega) ?_ | refine e_isub rfl ?_
      refine e_max rfl v9_331 rfl ?_
      have ew : (if nI (hvy P g w) < nI (cnt g (P.1 0) - hvy P g w) then nI (cnt g (P.1 0) - hvy P g w) else nI (hvy P g w)) = nI (wrs P g w) := by
        unfold wrs
        by_cases c : hvy P g w < cnt g (P.1 0) - hvy P g w
        · rw [if_pos c, if_pos ((nI_ltI (by omega) (by omega)).mpr c)]
        · rw [if_neg c, if_neg (fun q => c ((nI_ltI (by omega) (by omega)).mp q))]
      have hw6 : wrs P g w ≤ 6 := by
        unfold wrs
        split <;> omega
      rw [ew]
      refine e_ist7 rfl rfl rfl ?_
      refine e_iload rfl rfl ?_
      refine e_iload_n rfl rfl ?_
      first | refine e_icmp_geN (tgt := 117) rfl rfl (by omega) (by omega) (fun z => ?_) (fun z => ?_) | refine e_icmp_ge (tgt := 117) rfl rfl (fun z => ?_) (fun z => ?_)
      · have y : fe ≤ wrs P g w := by assumption
        rw [show akF (wrs P g) (k + 1) w fe be = akF (wrs P g) k (w + 1) fe be by rw [akF, if_neg (by omega)]] at hq
        first | refine e_inc5 rfl rfl rfl (incN1 _) ?_ | refine e_inc5 rfl rfl rfl rfl ?_
        refine e_goto (tgt := 26) rfl rfl ?_
        exact ih (w + 1) fe be _ _ (by omega) hfe hbe hq
      · have y : wrs P g w < fe := by assumption
        rw [show akF (wrs P g) (k + 1) w fe be = akF (wrs P g) k (w + 1) (wrs P g w) w by rw [akF, if_pos y]] at hq
        refine e_iload rfl rfl ?_
        refine e_ist3 rfl rfl rfl ?_
        refine e_iload rfl rfl ?_
        refine e_ist4 rfl rfl rfl ?_
        first | refine e_inc5 rfl rfl rfl (incN1 _) ?_ | refine e_inc5 rfl rfl rfl rfl ?_
        refine e_goto (tgt := 26) rfl rfl ?_
        exact ih (w + 1) _ w _ _ (by omega) hw6 (by omega) hq
end MTin6
