/-! ===== the reference: NOTES, SIGHTS, STRIKES told ===== -/
theorem MI.told {I I' : IM} {P : Pl} {S : SM} {im : Bool} {SI : SM} {m m' : Nat} {T T' : SM} {kn kn' : Int32} {u : Nat} {Hs : Nat → SM} {B : Nat} (h : MI I P S im SI m T kn u Hs B) (hf : ∀ c, c ≠ 102 → (c < 140 ∨ 143 < c) → I' c = I c) (ho : ∀ k, k ≠ 59 → k ≠ 60 → I' 102 k = I 102 k) (hT : MT I' m' T' kn') : MI I' P S im SI m' T' kn' u Hs B := by
  obtain ⟨h1, h2, h3, h4, h5, -, ⟨u1, u2, u3⟩, h8, h9⟩ := h
  have h8n := h2.1.1.2.1
  have fr : ∀ f c i, onF f c i → I' c i = I c i := fun f c i o => by rw [hf c (by unfold onF at o; omega) (by unfold onF at o; omega)]
  exact ⟨h1.frame (fun c a b => hf c (by omega) (by omega)), h2, h3.frame h8n (fr _), by rw [ho 50 (by omega) (by omega)]; exact h4, fun q => (h5 q).frame h8n (fr _), hT, ⟨by rw [ho 51 (by omega) (by omega)]; exact u1, u2, fun i hi => (u3 i hi).frame h8n (fr _)⟩, by rw [ho 52 (by omega) (by omega)]; exact h8, by rw [ho 53 (by omega) (by omega)]; exact h9⟩
theorem nar_b (b : Bool) : vp_nar .boolean (bI b) = bI b := by cases b <;> decide
theorem bI_in {a b : Bool} (h : bI a = bI b) : a = b := by cases a <;> cases b <;> first | rfl | exact absurd h (by decide)
theorem bI_1 {b : Bool} : bI b = nI 1 ↔ b = true := by cases b <;> decide
def wfB (m : Nat) (T : SM) : Prop := ∀ i, i < m → ∃ b, T 3 i = bI b
section MTold2
variable {l : Launch} {G : GG} {d : Nat} {I : IM} {J : JM} {K : Kt} {Q : Option Value → Hp → Prop} {P : Pl} {S : SM} {im : Bool} {SI : SM} {m : Nat} {T : SM} {kn : Int32} {u : Nat} {Hs : Nat → SM} {B n : Nat}
theorem c10_noted (hM : MK K) (hI : MI I P S im SI m T kn u Hs B) (hm : m < 24) (so mu ti ti' : Int32) (is is' : Bool) (h2 : so = nI 2 → ti = ti') (h3 : ¬ so = nI 3 → is = is') : Cw l G d m10_noted [.ref 102, .int so, .int mu, .int ti, .int (bI is)] (I, J, K) (fun r h' => r = some (.int (nI m)) ∧ MPst I J K h' P S im SI (m + 1) (fun j i => if i = m then (if j = 0 then so else if j = 1 then mu else if j = 2 then ti' else bI is') else T j i) kn u Hs B) := by
  obtain ⟨t1, t2, t3, t4⟩ := hI.2.2.2.2.2.1
  refine Cw.of ok10_noted rfl (rfl : argL _ _ = [.ref 102, .int so, .int mu, .int ti, .int (bI is)]) ?_
  refine e_aload_n rfl rfl ?_
  refine e_getP rfl f10_132 hM.k rfl hM.p61 ?_
  refine e_aload_n rfl rfl ?_
  refine e_getI rfl f10_300 hM.k rfl ?_
  rw [t1]
  refine e_iload_n rfl rfl ?_
  first | refine e_iastoreN rfl hM.a61 (by omega) (by omega) ?_ | (refine e_iastore rfl hM.a61 ?_ ?_; rotate_left)
  refine e_aload_n rfl rfl ?_
  refine e_getP rfl f10_135 hM.k rfl hM.p62 ?_
  refine e_aload_n rfl rfl ?_
  refine e_getI rfl f10_300 hM.k rfl ?_
  rw [u2_ne _ _ (by omega), t1]
  refine e_iload_n rfl rfl ?_
  first | refine e_iastoreN rfl hM.a62 (by omega) (by omega) ?_ | (refine e_iastore rfl hM.a62 ?_ ?_; rotate_left)
  refine e_aload_n rfl rfl ?_
  refine e_getP rfl f10_138 hM.k rfl hM.p63 ?_
  refine e_aload_n rfl rfl ?_
  refine e_getI rfl f10_300 hM.k rfl ?_
  rw [u2_ne _ _ (by omega), u2_ne _ _ (by omega), t1]
  refine e_iload_n rfl rfl ?_
  first | refine e_iastoreN rfl hM.a63 (by omega) (by omega) ?_ | (refine e_iastore rfl hM.a63 ?_ ?_; rotate_left)
  refine e_aload_n rfl rfl ?_
  refine e_getP rfl f10_141 hM.k rfl hM.p64 ?_
  refine e_aload_n rfl rfl ?_
  refine e_getI rfl f10_300 hM.k rfl ?_
  rw [u2_ne _ _ (by omega), u2_ne _ _ (by omega), u2_ne _ _ (by omega), t1]
  refine e_iload rfl rfl ?_
  first | refine e_zastoreN rfl hM.a64 (by omega) (by omega) ?_ | (refine e_zastore rfl hM.a64 ?_ ?_; rotate_left)
  refine e_aload_n rfl rfl ?_
  refine e_dup rfl rfl ?_
  refine e_getI rfl f10_300 hM.k rfl ?_
  rw [nar_b, u2_ne _ _ (by omega), u2_ne _ _ (by omega), u2_ne _ _ (by omega), u2_ne _ _ (by omega), t1]
  refine e_iconst (v := nI 1) rfl ic_1N ?_
  first | refine e_iaddN rfl ?_ | refine e_iadd rfl ?_
  refine e_putI rfl f10_300 hM.k rfl rfl ?_
  refine e_aload_n rfl rfl ?_
  refine e_getI rfl f10_300 hM.k rfl ?_
  rw [u2_at]
  refine e_iconst (v := nI 1) rfl ic_1N ?_
  first | refine e_isubN rfl (by omega) ?_ | refine e_isub rfl ?_
  refine e_ireturn rfl rfl ?_
  rw [show m + 1 - 1 = m by omega]
  have row : ∀ c, c ≠ 102 → (c < 140 ∨ 143 < c) → u2 (u2 (u2 (u2 (u2 I 140 m so) 141 m mu) 142 m ti) 143 m (bI is)) 102 59 (nI (m + 1)) c = I c := fun c a b => by
    rw [u2_row _ _ a, u2_row _ _ (by omega), u2_row _ _ (by omega), u2_row _ _ (by omega), u2_row _ _ (by omega)]
  have obj : ∀ k, k ≠ 59 → u2 (u2 (u2 (u2 (u2 I 140 m so) 141 m mu) 142 m ti) 143 m (bI is)) 102 59 (nI (m + 1)) 102 k = I 102 k := fun k a => by
    rw [u2_nk _ _ a, u2_ne _ _ (by omega), u2_ne _ _ (by omega), u2_ne _ _ (by omega), u2_ne _ _ (by omega)]
  refine ⟨rfl, _, J, rfl, ⟨fun c a => row c (by omega) (by omega), fun _ _ => rfl, fun k a => obj k (by omega)⟩, hI.told row (fun k a _ => obj k a) ⟨u2_at _ _ _ _, by omega, (obj 60 (by omega)).trans t3, fun i hi => ?_⟩⟩
  by_cases c : i = m
  · subst c
    refine ⟨?_, ?_, fun z => ?_, fun z => ?_⟩
    · simp (disch := omega) only [u2_ne, u2_at]; rfl
    · simp (disch := omega) only [u2_ne, u2_at]; rfl
    · dsimp only at z
      rw [if_pos rfl] at z
      simp (disch := omega) only [u2_ne, u2_at]; exact h2 z
    · dsimp only at z
      rw [if_pos rfl] at z
      simp (disch := omega) only [u2_ne, u2_at]; exact congrArg bI (h3 z)
  · simp (disch := omega) only [u2_ne, u2_nk]
    rw [if_neg c, if_neg c, if_neg c, if_neg c]
    exact t4 i (by omega)
theorem c10_note (hM : MK K) (hI : MI I P S im SI m T kn u Hs B) (w x : Int32) (is : Bool) : Cw l G (d + 1) m10_note [.ref 102, .int w, .int x, .int (bI is)] (I, J, K) (fun r h' => r = some (.int (if isNote w x = true then addA m else -1)) ∧ MPst I J K h' P S im SI (if isNote w x = true then addM m else m) (if isNote w x = true then addT m T w x (nI 0) is else T) kn u Hs (B + 2)) := by
  have g0 : FQm I J (u2 I 102 0 (nI 0)) J := FQm.w0
  have hI1 := hI.t0 J
  obtain ⟨t1, t2, -, -⟩ := hI1.2.2.2.2.2.1
  have no : (isNote w x = false ∨ m = 24) → Gw l G (d + 1) m10_note 42 [.ref 102, .int w, .int x, .int (bI is)] [] (u2 I 102 0 (nI 0), J, K) (fun r h' => r = some (.int (if isNote w x = true then addA m else -1)) ∧ MPst I J K h' P S im SI (if isNote w x = true then addM m else m) (if isNote w x = true then addT m T w x (nI 0) is else T) kn u Hs (B + 2)) := by
    intro hno
    refine e_iconst rfl ic_m1 ?_
    refine e_ireturn rfl rfl ?_
    rcases hno with h | h
    · rw [h]; exact ⟨rfl, hI.fin g0⟩
    · rw [show addA m = -1 from if_pos (by omega), show addM m = m from if_pos (by omega), show addT m T w x (nI 0) is = T from if_pos (by omega), ite_self, ite_self, ite_self]
      exact ⟨rfl, hI.fin g0⟩
  have tail : isNote w x = true → (w = nI 0 ∨ w = nI 1) → Gw l G (d + 1) m10_note 33 [.ref 102, .int w, .int x, .int (bI is)] [] (u2 I 102 0 (nI 0), J, K) (fun r h' => r = some (.int (if isNote w x = true then addA m else -1)) ∧ MPst I J K h' P S im SI (if isNote w x = true then addM m else m) (if isNote w x = true then addT m T w x (nI 0) is else T) kn u Hs (B + 2)) := by
    intro yes hw
    refine e_aload_n rfl rfl ?_
    refine e_getI rfl f10_300 hM.k rfl ?_
    rw [t1]
    refine e_bipush (v := nI 24) rfl bp_24N ?_
    first | refine e_icmp_neN (tgt := 44) rfl rfl (by omega) (by omega) (fun z => ?_) (fun z => ?_) | refine e_icmp_ne (tgt := 44) rfl rfl (fun z => ?_) (fun z => ?_)
    · have y : m ≠ 24 := by assumption
      rw [if_pos yes, if_pos yes, if_pos yes, show addA m = nI m from if_neg (by omega), show addM m = m + 1 from if_neg (by omega), show addT m T w x (nI 0) is = _ from if_neg (by omega)]
      refine e_aload_n rfl rfl ?_
      refine e_iload_n rfl rfl ?_
      refine e_iload_n rfl rfl ?_
      refine e_iconst rfl ic_m1 ?_
      refine e_iload_n rfl rfl ?_
      refine e_callV (kd := 10) (M2 := m10_noted) rfl v10_460 ok10_noted (c10_noted (d := d) hM hI1 (by omega) w x (-1) (nI 0) is is (fun z => hw.elim (fun q => absurd (q.symm.trans z) (by decide)) (fun q => absurd (q.symm.trans z) (by decide))) (fun _ => rfl)) rfl hM.k rfl rfl rfl rfl (fun r1 h1 q1 => ?_)
      obtain ⟨rfl, I1, J1, rfl, z1, M1⟩ := q1
      exact e_ireturn rfl rfl ⟨rfl, I1, J1, rfl, g0.fz.tr z1, M1.mono (by omega)⟩
    · exact no (Or.inr (by assumption))
  refine Cw.of ok10_note rfl (rfl : argL _ _ = [.ref 102, .int w, .int x, .int (bI is)]) ?_
  refine e_aload_n rfl rfl ?_
  refine e_iconst (v := nI 0) rfl ic_0N ?_
  refine e_putI rfl f10_151 hM.k rfl rfl ?_
  refine e_iload_n rfl rfl ?_
  refine e_if_lt (tgt := 42) rfl rfl (fun y => ?_) (fun y0 => ?_)
  · exact no (Or.inl (by rw [isNote, Bool.eq_false_iff.mpr (fun q => (inN_lo (k := 1) (by omega) q).1 y), Bool.false_and]))
  · refine e_iload_n rfl rfl ?_
    refine e_iconst (v := nI 1) rfl ic_1N ?_
    refine e_icmp_gt (tgt := 42) rfl rfl (fun y => ?_) (fun y1 => ?_)
    · exact no (Or.inl (by rw [isNote, Bool.eq_false_iff.mpr (fun q => absurd (inN_lo (k := 1) (by omega) q).2 (Int32.not_le.mpr y)), Bool.false_and]))
    · have hw : inN 2 w = true := inN_hi (k := 1) (by omega) y0 (Int32.not_lt.mp y1)
      refine e_iload_n rfl rfl ?_
      refine e_if_lt (tgt := 42) rfl rfl (fun y => ?_) (fun y2 => ?_)
      · refine no (Or.inl ?_)
        rw [isNote, Bool.eq_false_iff.mpr (fun q : inN (if w = nI 0 then 100 else 10) x = true => absurd y (Int32.not_lt.mpr (of_decide_eq_true q).1)), Bool.and_false]
      · obtain ⟨i, hi, rfl⟩ := inN_of (by omega) hw
        refine e_iload_n rfl rfl ?_
        refine e_iload_n rfl rfl ?_
        first | refine e_if_neB (tgt := 28) rfl rfl (fun z => ?_) (fun z => ?_) | refine e_if_neN (tgt := 28) rfl rfl (by omega) (fun z => ?_) (fun z => ?_) | refine e_if_ne (tgt := 28) rfl rfl (fun z => ?_) (fun z => ?_)
        · have yi : i ≠ 0 := by assumption
          obtain rfl : i = 1 := by omega
          refine e_bipush (v := nI 9) rfl bp_9N ?_
          refine e_icmp_gt (tgt := 42) rfl rfl (fun y => ?_) (fun y3 => ?_)
          · exact no (Or.inl (by rw [isNote, hw, Bool.true_and, if_neg (by decide)]; exact Bool.eq_false_iff.mpr (fun q => absurd (inN_lo (k := 9) (by omega) q).2 (Int32.not_le.mpr y))))
          · exact tail (by rw [isNote, hw, Bool.true_and, if_neg (by decide)]; exact inN_hi (k := 9) (by omega) y2 (Int32.not_lt.mp y3)) (Or.inr rfl)
        · have yi : i = 0 := by assumption
          subst yi
          refine e_bipush (v := nI 99) rfl bp_99N ?_
          refine e_goto (tgt := 30) rfl rfl ?_
          refine e_icmp_gt (tgt := 42) rfl rfl (fun y => ?_) (fun y3 => ?_)
          · exact no (Or.inl (by rw [isNote, hw, Bool.true_and, if_pos rfl]; exact Bool.eq_false_iff.mpr (fun q => absurd (inN_lo (k := 99) (by omega) q).2 (Int32.not_le.mpr y))))
          · exact tail (by rw [isNote, hw, Bool.true_and, if_pos rfl]; exact inN_hi (k := 99) (by omega) y2 (Int32.not_lt.mp y3)) (Or.inl rfl)
theorem c10_see (hM : MK K) (hI : MI I P S im SI m T kn u Hs B) (hn : P.1 1 = n) (x t : Int32) (is : Bool) : Cw l G (d + 1) m10_see [.ref 102, .int x, .int t, .int (bI is)] (I, J, K) (fun r h' => r = some (.int (if isSee n x t = true then addA m else -1)) ∧ MPst I J K h' P S im SI (if isSee n x t = true then addM m else m) (if isSee n x t = true then addT m T (nI 2) x t is else T) kn u Hs (B + 2)) := by
  have g0 : FQm I J (u2 I 102 0 (nI 0)) J := FQm.w0
  have hI1 := hI.t0 J
  obtain ⟨t1, t2, -, -⟩ := hI1.2.2.2.2.2.1
  have hn1 : (u2 I 102 0 (nI 0)) 104 1 = nI n := by rw [← hn]; exact hI1.1.1.2.1
  have no : (isSee n x t = false ∨ m = 24) → Gw l G (d + 1) m10_see 33 [.ref 102, .int x, .int t, .int (bI is)] [] (u2 I 102 0 (nI 0), J, K) (fun r h' => r = some (.int (if isSee n x t = true then addA m else -1)) ∧ MPst I J K h' P S im SI (if isSee n x t = true then addM m else m) (if isSee n x t = true then addT m T (nI 2) x t is else T) kn u Hs (B + 2)) := by
    intro hno
    refine e_iconst rfl ic_m1 ?_
    refine e_ireturn rfl rfl ?_
    rcases hno with h | h
    · rw [h]; exact ⟨rfl, hI.fin g0⟩
    · rw [show addA m = -1 from if_pos (by omega), show addM m = m from if_pos (by omega), show addT m T (nI 2) x t is = T from if_pos (by omega), ite_self, ite_self, ite_self]
      exact ⟨rfl, hI.fin g0⟩
  refine Cw.of ok10_see rfl (rfl : argL _ _ = [.ref 102, .int x, .int t, .int (bI is)]) ?_
  refine e_aload_n rfl rfl ?_
  refine e_iconst (v := nI 0) rfl ic_0N ?_
  refine e_putI rfl f10_151 hM.k rfl rfl ?_
  refine e_iload_n rfl rfl ?_
  refine e_iconst (v := nI 1) rfl ic_1N ?_
  refine e_icmp_lt (tgt := 33) rfl rfl (fun y1 => ?_) (fun y1 => ?_)
  · refine no (Or.inl ?_)
    by_cases q : inN 61 x = true
    · obtain ⟨j, hj, rfl⟩ := inN_of (by omega) q
      have := (nI_ltI (by omega) (by omega)).mp y1
      obtain rfl : j = 0 := by omega
      rw [isSee, decide_eq_true rfl, Bool.not_true, Bool.false_and, Bool.and_false]
    · rw [isSee, Bool.eq_false_iff.mpr q, Bool.false_and]
  · have y10 : ¬ x < 0 := fun q => y1 (Int32.lt_trans q (by decide))
    have yx0 : ¬ x = nI 0 := fun q => y1 (by rw [q]; decide)
    refine e_iload_n rfl rfl ?_
    refine e_bipush (v := nI 60) rfl bp_60N ?_
    refine e_icmp_gt (tgt := 33) rfl rfl (fun y2 => ?_) (fun y2 => ?_)
    · exact no (Or.inl (by rw [isSee, Bool.eq_false_iff.mpr (fun q => absurd (inN_lo (k := 60) (by omega) q).2 (Int32.not_le.mpr y2)), Bool.false_and]))
    · have hx : inN 61 x = true := inN_hi (k := 60) (by omega) y10 (Int32.not_lt.mp y2)
      have eS : isSee n x t = inN n t := by rw [isSee, hx, Bool.true_and, decide_eq_false yx0, Bool.not_false, Bool.true_and]
      refine e_aload_n rfl rfl ?_
      refine e_iload_n rfl rfl ?_
      refine e_callVp (kd := 10) (M2 := m10_isTin) rfl v10_397 ok10_isTin (c10_isTin (d := d) hM hn1 t) rfl hM.k rfl rfl rfl rfl ?_
      refine e_if_eqB (tgt := 33) rfl rfl (fun z => ?_) (fun z => ?_)
      · exact no (Or.inl (by rw [eS]; exact z))
      · have yes : isSee n x t = true := by rw [eS]; exact z
        refine e_aload_n rfl rfl ?_
        refine e_getI rfl f10_300 hM.k rfl ?_
        rw [t1]
        refine e_bipush (v := nI 24) rfl bp_24N ?_
        first | refine e_icmp_neN (tgt := 35) rfl rfl (by omega) (by omega) (fun z => ?_) (fun z => ?_) | refine e_icmp_ne (tgt := 35) rfl rfl (fun z => ?_) (fun z => ?_)
        · have y : m ≠ 24 := by assumption
          rw [if_pos yes, if_pos yes, if_pos yes, show addA m = nI m from if_neg (by omega), show addM m = m + 1 from if_neg (by omega), show addT m T (nI 2) x t is = _ from if_neg (by omega)]
          refine e_aload_n rfl rfl ?_
          refine e_iconst (v := nI 2) rfl ic_2N ?_
          refine e_iload_n rfl rfl ?_
          refine e_iload_n rfl rfl ?_
          refine e_iload_n rfl rfl ?_
          refine e_callV (kd := 10) (M2 := m10_noted) rfl v10_460 ok10_noted (c10_noted (d := d) hM hI1 (by omega) (nI 2) x t t is is (fun _ => rfl) (fun _ => rfl)) rfl hM.k rfl rfl rfl rfl (fun r1 h1 q1 => ?_)
          obtain ⟨rfl, I1, J1, rfl, z1, M1⟩ := q1
          exact e_ireturn rfl rfl ⟨rfl, I1, J1, rfl, g0.fz.tr z1, M1.mono (by omega)⟩
        · exact no (Or.inr (by assumption))
theorem c10_strike (hM : MK K) (hI : MI I P S im SI m T kn u Hs B) (x : Int32) : Cw l G (d + 1) m10_strike [.ref 102, .int x] (I, J, K) (fun r h' => r = some (.int (if inN m x = true then addA m else -1)) ∧ MPst I J K h' P S im SI (if inN m x = true then addM m else m) (if inN m x = true then addT m T (nI 3) x (nI 0) true else T) kn u Hs (B + 2)) := by
  have g0 : FQm I J (u2 I 102 0 (nI 0)) J := FQm.w0
  have hI1 := hI.t0 J
  obtain ⟨t1, t2, -, -⟩ := hI1.2.2.2.2.2.1
  have no : (inN m x = false ∨ m = 24) → Gw l G (d + 1) m10_strike 26 [.ref 102, .int x] [] (u2 I 102 0 (nI 0), J, K) (fun r h' => r = some (.int (if inN m x = true then addA m else -1)) ∧ MPst I J K h' P S im SI (if inN m x = true then addM m else m) (if inN m x = true then addT m T (nI 3) x (nI 0) true else T) kn u Hs (B + 2)) := by
    intro hno
    refine e_iconst rfl ic_m1 ?_
    refine e_ireturn rfl rfl ?_
    rcases hno with h | h
    · rw [h]; exact ⟨rfl, hI.fin g0⟩
    · rw [show addA m = -1 from if_pos (by omega), show addM m = m from if_pos (by omega), show addT m T (nI 3) x (nI 0) true = T from if_pos (by omega), ite_self, ite_self, ite_self]
      exact ⟨rfl, hI.fin g0⟩
  refine Cw.of ok10_strike rfl (rfl : argL _ _ = [.ref 102, .int x]) ?_
  refine e_aload_n rfl rfl ?_
  refine e_iconst (v := nI 0) rfl ic_0N ?_
  refine e_putI rfl f10_151 hM.k rfl rfl ?_
  refine e_iload_n rfl rfl ?_
  refine e_if_lt (tgt := 26) rfl rfl (fun y0 => ?_) (fun y0 => ?_)
  · exact no (Or.inl (decide_eq_false (fun q => absurd y0 (Int32.not_lt.mpr q.1))))
  · refine e_iload_n rfl rfl ?_
    refine e_aload_n rfl rfl ?_
    refine e_getI rfl f10_300 hM.k rfl ?_
    rw [t1]
    refine e_icmp_ge (tgt := 26) rfl rfl (fun y1 => ?_) (fun y1 => ?_)
    · exact no (Or.inl (decide_eq_false (fun q => absurd y1 (Int32.not_le.mpr q.2))))
    · have yes : inN m x = true := decide_eq_true ⟨Int32.not_lt.mp y0, Int32.not_le.mp y1⟩
      refine e_aload_n rfl rfl ?_
      refine e_getI rfl f10_300 hM.k rfl ?_
      rw [t1]
      refine e_bipush (v := nI 24) rfl bp_24N ?_
      first | refine e_icmp_neN (tgt := 28) rfl rfl (by omega) (by omega) (fun z => ?_) (fun z => ?_) | refine e_icmp_ne (tgt := 28) rfl rfl (fun z => ?_) (fun z => ?_)
      · have y : m ≠ 24 := by assumption
        rw [if_pos yes, if_pos yes, if_pos yes, show addA m = nI m from if_neg (by omega), show addM m = m + 1 from if_neg (by omega), show addT m T (nI 3) x (nI 0) true = _ from if_neg (by omega)]
        refine e_aload_n rfl rfl ?_
        refine e_iconst (v := nI 3) rfl ic_3N ?_
        refine e_iload_n rfl rfl ?_
        refine e_iconst rfl ic_m1 ?_
        refine e_iconst (v := nI 0) rfl ic_0N ?_
        refine e_callV (kd := 10) (M2 := m10_noted) rfl v10_460 ok10_noted (c10_noted (d := d) (is := false) hM hI1 (by omega) (nI 3) x (-1) (nI 0) true (fun z => absurd z (by decide)) (fun z => absurd rfl z)) rfl hM.k rfl rfl rfl rfl (fun r1 h1 q1 => ?_)
        obtain ⟨rfl, I1, J1, rfl, z1, M1⟩ := q1
        exact e_ireturn rfl rfl ⟨rfl, I1, J1, rfl, g0.fz.tr z1, M1.mono (by omega)⟩
      · exact no (Or.inr (by assumption))
theorem c10_known (hM : MK K) (hI : MI I P S im SI m T kn u Hs B) (x : Int32) : Cw l G d m10_known [.ref 102, .int x] (I, J, K) (fun r h' => r = some (.int (bI (isKnown m x))) ∧ MPst I J K h' P S im SI m T (if isKnown m x = true then x else kn) u Hs (B + 2)) := by
  have g0 : FQm I J (u2 I 102 0 (nI 0)) J := FQm.w0
  have hI1 := hI.t0 J
  obtain ⟨t1, t2, t3, t4⟩ := hI1.2.2.2.2.2.1
  have no : isKnown m x = false → Gw l G d m10_known 18 [.ref 102, .int x] [] (u2 I 102 0 (nI 0), J, K) (fun r h' => r = some (.int (bI (isKnown m x))) ∧ MPst I J K h' P S im SI m T (if isKnown m x = true then x else kn) u Hs (B + 2)) := by
    intro hno
    rw [hno]
    refine e_iconst (v := nI 0) rfl ic_0N ?_
    refine e_zreturn rfl rfl ?_ ?_
    · exact Or.inl rfl
    · exact ⟨rfl, hI.fin g0⟩
  refine Cw.of ok10_known rfl (rfl : argL _ _ = [.ref 102, .int x]) ?_
  refine e_aload_n rfl rfl ?_
  refine e_iconst (v := nI 0) rfl ic_0N ?_
  refine e_putI rfl f10_151 hM.k rfl rfl ?_
  refine e_iload_n rfl rfl ?_
  refine e_iconst rfl ic_m1 ?_
  refine e_icmp_lt (tgt := 18) rfl rfl (fun y => ?_) (fun y0 => ?_)
  · exact no (decide_eq_false (fun q => absurd y (Int32.not_lt.mpr q.1)))
  · refine e_iload_n rfl rfl ?_
    refine e_aload_n rfl rfl ?_
    refine e_getI rfl f10_300 hM.k rfl ?_
    rw [t1]
    refine e_icmp_le (tgt := 20) rfl rfl (fun y1 => ?_) (fun y1 => ?_)
    · have yes : isKnown m x = true := decide_eq_true ⟨Int32.not_lt.mp y0, y1⟩
      rw [if_pos yes, yes]
      refine e_aload_n rfl rfl ?_
      refine e_iload_n rfl rfl ?_
      refine e_putI rfl f10_129 hM.k rfl rfl ?_
      refine e_iconst (v := nI 1) rfl ic_1N ?_
      refine e_zreturn rfl rfl ?_ ?_
      · exact Or.inr rfl
      · refine ⟨rfl, _, J, rfl, g0.fz.tr (FZ.wo (by omega)), (hI1.told (fun c a _ => u2_row _ _ a) (fun k _ a => u2_nk _ _ a) ⟨(u2_nk _ _ (by omega)).trans t1, t2, u2_at _ _ _ _, fun i hi => ?_⟩).mono (by omega)⟩
        dsimp only
        rw [u2_ne _ _ (by omega), u2_ne _ _ (by omega), u2_ne _ _ (by omega), u2_ne _ _ (by omega)]
        exact t4 i hi
    · exact no (decide_eq_false (fun q => absurd q.2 y1))
end MTold2
