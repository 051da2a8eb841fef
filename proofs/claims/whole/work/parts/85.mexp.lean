/-! ===== the reference: KNOTS, E behind a FAULT ===== -/
/-- while an E is read, in op brackets -/
def Ez (I : IM) (n op : Nat) (zz : PR) : Prop := Tz I n zz ∧ match zz with
  | .inl _ => True
  | .inr s => I 104 15 = nI ((pP s).1 4) ∧ I 102 33 = nI ((pP s).1 5) ∧ Okp n s ∧ (∀ i, i < (pP s).1 4 → I 120 (64 + i) = kS ((pP s).2 13 i) ∧ I 121 (64 + i) = kV ((pP s).2 13 i)) ∧ I 102 32 = nI op
def FE (I I' : IM) : Prop := ∀ c x, ¬ (c = 102 ∧ (24 ≤ x ∧ x ≤ 29 ∨ x = 32 ∨ x = 33)) → ¬ (c = 104 ∧ x = 15) → ¬ ((c = 120 ∨ c = 121) ∧ 64 ≤ x) → I' c x = I c x
theorem FE.rf {I : IM} : FE I I := fun _ _ _ _ _ => rfl
theorem FE.tr {I I1 I2 : IM} (h : FE I I1) (g : FE I1 I2) : FE I I2 := fun c x q1 q2 q3 => (g c x q1 q2 q3).trans (h c x q1 q2 q3)
theorem FT.fe {I I' : IM} (h : FT I I') : FE I I' := fun c x q _ _ => h c x (fun w => q ⟨w.1, Or.inl w.2⟩)
theorem TX.fe {I I' : IM} {f : Nat → Nat} {n : Nat} (h : TX I f n) (g : FE I I') : TX I' f n := ⟨by rw [g 102 23 (by omega) (by omega) (by omega)]; exact h.1, h.2.1, fun j hj => by rw [g 103 j (by omega) (by omega) (by omega)]; exact h.2.2.1 j hj, h.2.2.2⟩
/-- one that only moves on in the TEXT -/
theorem Ez.ft {I I' : IM} {n op : Nat} {zz : PR} {g : PSt → PR} (h : Ez I n op zz) (hf : FT I I') (ht : Tz I' n (bnd zz g)) (hg : ∀ s s', zz = .inr s → g s = .inr s' → s'.2 = s.2) : Ez I' n op (bnd zz g) := by
  cases zz with
  | inl e => exact ⟨ht, trivial⟩
  | inr s =>
    show Ez I' n op (g s)
    have ht : Tz I' n (g s) := ht
    have hg := fun s' => hg s s' rfl
    cases eg : g s with
    | inl e => rw [eg] at ht; exact ⟨ht, trivial⟩
    | inr s' =>
      rw [eg] at ht
      have e2 := hg s' eg
      have eP : pP s' = pP s := congrArg Prod.fst e2
      obtain ⟨-, h1, h2, h3, h4, h5⟩ := h
      refine ⟨ht, ?_⟩
      show I' 104 15 = nI ((pP s').1 4) ∧ I' 102 33 = nI ((pP s').1 5) ∧ Okp n s' ∧ (∀ i, i < (pP s').1 4 → I' 120 (64 + i) = kS ((pP s').2 13 i) ∧ I' 121 (64 + i) = kV ((pP s').2 13 i)) ∧ I' 102 32 = nI op
      unfold Okp
      rw [eP, hf 104 15 (by omega), hf 102 33 (by omega), hf 102 32 (by omega)]
      exact ⟨h1, h2, ⟨ht.2.2.1, h3.2⟩, fun i hi => by rw [hf 120 _ (by omega), hf 121 _ (by omega)]; exact h4 i hi, h5⟩
theorem avS_2 {f : Nat → Nat} {n : Nat} {s s' : PSt} (h : avS f n s = .inr s') : s'.2 = s.2 := by
  unfold avS at h
  split at h <;> rw [← Sum.inr.inj h]
/-- a KNOT counted, not yet gone on -/
def kcS (s : PSt) : PR := if 64 ≤ (pP s).1 5 then flS 2 s else .inr (stP s (knP (pP s)))
theorem kc_kn {f : Nat → Nat} {n : Nat} (s : PSt) : bnd (kcS s) (avS f n) = knS f n s := by
  unfold kcS knS
  split <;> rfl
theorem kc_tk {s s1 : PSt} (h : kcS s = .inr s1) : pTk s1 = pTk s ∧ s1.1 = s.1 := by
  unfold kcS at h
  split at h
  · exact absurd h (by simp [flS])
  · rw [← Sum.inr.inj h]; exact ⟨rfl, rfl⟩
section MExpr
variable {l : Launch} {G : GG} {d : Nat} {I : IM} {J : JM} {K : Kt} {h : Hp} {Q : Option Value → Hp → Prop} {f : Nat → Nat} {n op : Nat} {zz : PR}
abbrev CE (l : Launch) (G : GG) (d : Nat) (M : MD) (as : List Value) (I : IM) (J : JM) (K : Kt) (n op : Nat) (zz : PR) : Prop := Cw l G d M as (I, J, K) (fun r h' => r = none ∧ ∃ I', h' = (I', J, K) ∧ FE I I' ∧ Ez I' n op zz)
theorem c10_goOnE (hM : MK K) (hX : TX I f n) (hz : Ez I n op zz) (ht : ∀ s, zz = .inr s → ¬ pTk s = -1) : CE l G (d + 6) m10_goOn [.ref 102] I J K n op (bnd zz (avS f n)) := Cw.mono (c10_goOn hM hX hz.1 ht) (fun r h' q => by
  obtain ⟨q1, I', q2, q3, q4⟩ := q
  exact ⟨q1, I', q2, q3.fe, hz.ft q3 q4 (fun s s' _ w => avS_2 w)⟩)
theorem c10_tokenE (hM : MK K) (hX : TX I f n) {s : PSt} (hz : Ez I n op (.inr s)) (ht : ¬ pTk s = -1) : CE l G (d + 5) m10_token [.ref 102] I J K n op (avS f n s) := Cw.mono (c10_tokenM hM hX hz.1 ht) (fun r h' q => by
  obtain ⟨q1, I', q2, q3, q4⟩ := q
  exact ⟨q1, I', q2, q3.fe, hz.ft (g := avS f n) q3 q4 (fun s s' _ w => avS_2 w)⟩)
theorem c10_wrongE (hM : MK K) (hz : Ez I n op zz) {k : Nat} (hk : k ≠ 0) (hk4 : k ≤ 4) : CE l G d m10_wrong [.ref 102, .int (nI k)] I J K n op (bnd zz (flS k)) := Cw.mono (c10_wrongM hM hz.1 hk hk4) (fun r h' q => by
  obtain ⟨q1, I', q2, q3, q4⟩ := q
  exact ⟨q1, I', q2, q3.fe, hz.ft q3 q4 (fun s s' _ w => absurd w (by simp [flS]))⟩)
theorem c10_knotD (hM : MK K) {e : Nat × Nat} (hz : Ez I n op (.inl e)) : CE l G (d + 1) m10_knot [.ref 102] I J K n op (.inl e) := by
  have h3 := hz.1.2.2.1
  have h1 := hz.1.1
  have h2 := hz.1.2.1
  refine Cw.of ok10_knot rfl (rfl : argL _ _ = [.ref 102]) ?_
  refine e_aload_n rfl rfl ?_
  refine e_getI rfl f10_205 hM.k rfl ?_
  rw [h3]
  first | refine e_if_eqB (tgt := 8) rfl rfl (fun z => ?_) (fun z => ?_) | refine e_if_eqN (tgt := 8) rfl rfl (by omega) (fun z => ?_) (fun z => ?_) | refine e_if_eq (tgt := 8) rfl rfl (fun z => ?_) (fun z => ?_)
  · exact absurd (by assumption) h1
  · refine e_return rfl rfl ?_
    exact ⟨rfl, I, rfl, FE.rf, hz⟩
theorem c10_knotF (hM : MK K) {s : PSt} (hz : Ez I n op (.inr s)) : Cw l G (d + 1) m10_knot [.ref 102] (I, J, K) (fun r h' => r = none ∧ ∃ I', h' = (I', J, K) ∧ (∀ c x, ¬ (c = 102 ∧ (x = 28 ∨ x = 29 ∨ x = 33)) → I' c x = I c x) ∧ FE I I' ∧ Ez I' n op (bnd (.inr s) kcS)) := by
  have hz2 := hz
  obtain ⟨⟨h3, t1, t2, t3, t4⟩, e1, e2, e3, e4, e5⟩ := hz2
  have h64 := e3.2.1
  refine Cw.of ok10_knot rfl (rfl : argL _ _ = [.ref 102]) ?_
  refine e_aload_n rfl rfl ?_
  refine e_getI rfl f10_205 hM.k rfl ?_
  rw [h3]
  first | refine e_if_eqB (tgt := 8) rfl rfl (fun z => ?_) (fun z => ?_) | refine e_if_eqN (tgt := 8) rfl rfl (by omega) (fun z => ?_) (fun z => ?_) | refine e_if_eq (tgt := 8) rfl rfl (fun z => ?_) (fun z => ?_)
  · refine e_aload_n rfl rfl ?_
    refine e_getI rfl f10_261 hM.k rfl ?_
    rw [e2]
    refine e_bipush (v := nI 64) rfl bp_64N ?_
    first | refine e_icmp_neN (tgt := 25) rfl rfl (by omega) (by omega) (fun z => ?_) (fun z => ?_) | refine e_icmp_ne (tgt := 25) rfl rfl (fun z => ?_) (fun z => ?_)
    · have y : ¬ (pP s).1 5 = 64 := by assumption
      refine e_aload_n rfl rfl ?_
      refine e_dup rfl rfl ?_
      refine e_getI rfl f10_261 hM.k rfl ?_
      rw [e2]
      refine e_iconst (v := nI 1) rfl ic_1N ?_
      first | refine e_iaddN rfl ?_ | refine e_iadd rfl ?_
      refine e_putI rfl f10_261 hM.k rfl rfl ?_
      refine e_return rfl rfl ?_
      refine ⟨rfl, _, rfl, fun c x q => if_neg (fun w => q ⟨w.1, Or.inr (Or.inr w.2)⟩), fun c x q _ _ => if_neg (fun w => q ⟨w.1, Or.inr (Or.inr w.2)⟩), ?_⟩
      show Ez _ n op (kcS s)
      unfold kcS
      rw [if_neg (by omega)]
      refine ⟨⟨by rw [u2_nk _ _ (by omega)]; exact h3, by rw [u2_nk _ _ (by omega)]; exact t1, t2, by rw [u2_nk _ _ (by omega)]; exact t3, by rw [u2_nk _ _ (by omega), u2_nk _ _ (by omega), u2_nk _ _ (by omega)]; exact t4⟩, by rw [u2_ne _ _ (by omega)]; exact e1, u2_at _ _ _ _, ⟨e3.1, show (pP s).1 5 + 1 ≤ 64 by omega, show (pP s).1 4 ≤ (pP s).1 5 + 1 by have := e3.2.2; omega⟩, fun i hi => by rw [u2_ne _ _ (by omega), u2_ne _ _ (by omega)]; exact e4 i hi, by rw [u2_nk _ _ (by omega)]; exact e5⟩
    · refine e_aload_n rfl rfl ?_
      refine e_iconst (v := nI 2) rfl ic_2N ?_
      refine e_callV (kd := 10) (M2 := m10_wrong) rfl v10_214 ok10_wrong (c10_wrong hM hz.1 (k := 2) (by omega) (by omega)) rfl hM.k rfl rfl rfl rfl (fun r1 h1 q1 => ?_)
      obtain ⟨rfl, I1, rfl, g1, L1⟩ := q1
      refine e_goto (tgt := 35) rfl rfl ?_
      refine e_return rfl rfl ?_
      refine ⟨rfl, I1, rfl, fun c x q => g1 c x (by omega), fun c x q _ _ => g1 c x (by omega), ?_⟩
      show Ez _ n op (kcS s)
      unfold kcS
      rw [if_pos (by omega)]
      exact ⟨L1, trivial⟩
  · omega
theorem c10_knot (hM : MK K) (hz : Ez I n op zz) : CE l G (d + 1) m10_knot [.ref 102] I J K n op (bnd zz kcS) := by
  cases zz with
  | inl e => exact c10_knotD hM hz
  | inr s => exact Cw.mono (c10_knotF hM hz) (fun r h' q => by
      obtain ⟨q1, I', q2, -, q3, q4⟩ := q
      exact ⟨q1, I', q2, q3, q4⟩)
theorem c10_putsD (hM : MK K) {e : Nat × Nat} (hz : Ez I n op (.inl e)) (a b : Int32) : CE l G (d + 1) m10_puts [.ref 102, .int a, .int b] I J K n op (.inl e) := by
  have h3 := hz.1.2.2.1
  have h1 := hz.1.1
  have h2 := hz.1.2.1
  refine Cw.of ok10_puts rfl (rfl : argL _ _ = [.ref 102, .int a, .int b]) ?_
  refine e_aload_n rfl rfl ?_
  refine e_getI rfl f10_205 hM.k rfl ?_
  rw [h3]
  first | refine e_if_eqB (tgt := 8) rfl rfl (fun z => ?_) (fun z => ?_) | refine e_if_eqN (tgt := 8) rfl rfl (by omega) (fun z => ?_) (fun z => ?_) | refine e_if_eq (tgt := 8) rfl rfl (fun z => ?_) (fun z => ?_)
  · exact absurd (by assumption) h1
  · refine e_return rfl rfl ?_
    exact ⟨rfl, I, rfl, FE.rf, hz⟩
theorem c10_putsL (hM : MK K) {s : PSt} (hz : Ez I n op (.inr s)) (hlt : (pP s).1 4 < (pP s).1 5) {v a b : Int32} (ha : a = kS v) (hb : b = kV v) : CE l G (d + 1) m10_puts [.ref 102, .int a, .int b] I J K n op (emS v s) := by
  obtain ⟨⟨h3, t1, t2, t3, t4⟩, e1, e2, e3, e4, e5⟩ := hz
  have h64 := e3.2.1
  have hem : emS v s = .inr (stP s (fun k => if k = 4 then (pP s).1 4 + 1 else (pP s).1 k, u2 (pP s).2 13 ((pP s).1 4) v)) := by
    unfold emS emP
    rw [if_pos (by omega)]
  rw [hem]
  refine Cw.of ok10_puts rfl (rfl : argL _ _ = [.ref 102, .int a, .int b]) ?_
  refine e_aload_n rfl rfl ?_
  refine e_getI rfl f10_205 hM.k rfl ?_
  rw [h3]
  first | refine e_if_eqB (tgt := 8) rfl rfl (fun z => ?_) (fun z => ?_) | refine e_if_eqN (tgt := 8) rfl rfl (by omega) (fun z => ?_) (fun z => ?_) | refine e_if_eq (tgt := 8) rfl rfl (fun z => ?_) (fun z => ?_)
  · refine e_aload_n rfl rfl ?_
    refine e_getP rfl f10_61 hM.k rfl hM.p19 ?_
    refine e_bipush (v := nI 64) rfl bp_64N ?_
    refine e_aload_n rfl rfl ?_
    refine e_bipush (v := nI 7) rfl bp_7N ?_
    refine e_callVp (kd := 10) (M2 := m10_fresher) rfl v10_224 ok10_fresher (c10_fresher hM (by omega)) rfl hM.k rfl rfl rfl rfl ?_
    rw [show 8 + 7 = 15 from rfl, e1]
    first | refine e_iaddN rfl ?_ | refine e_iadd rfl ?_
    refine e_iload_n rfl rfl ?_
    first | refine e_iastoreN rfl hM.a19 (by omega) (by omega) ?_ | (refine e_iastore rfl hM.a19 ?_ ?_; rotate_left)
    refine e_aload_n rfl rfl ?_
    refine e_getP rfl f10_64 hM.k rfl hM.p20 ?_
    refine e_bipush (v := nI 64) rfl bp_64N ?_
    refine e_aload_n rfl rfl ?_
    refine e_bipush (v := nI 7) rfl bp_7N ?_
    refine e_callVp (kd := 10) (M2 := m10_fresher) rfl v10_224 ok10_fresher (c10_fresher hM (by omega)) rfl hM.k rfl rfl rfl rfl ?_
    rw [show 8 + 7 = 15 from rfl, u2_ne _ _ (by omega), e1]
    first | refine e_iaddN rfl ?_ | refine e_iadd rfl ?_
    refine e_iload_n rfl rfl ?_
    first | refine e_iastoreN rfl hM.a20 (by omega) (by omega) ?_ | (refine e_iastore rfl hM.a20 ?_ ?_; rotate_left)
    refine e_aload_n rfl rfl ?_
    refine e_bipush (v := nI 7) rfl bp_7N ?_
    refine e_aload_n rfl rfl ?_
    refine e_bipush (v := nI 7) rfl bp_7N ?_
    refine e_callVp (kd := 10) (M2 := m10_fresher) rfl v10_224 ok10_fresher (c10_fresher hM (by omega)) rfl hM.k rfl rfl rfl rfl ?_
    rw [show 8 + 7 = 15 from rfl, u2_ne _ _ (by omega), u2_ne _ _ (by omega), e1]
    refine e_iconst (v := nI 1) rfl ic_1N ?_
    first | refine e_iaddN rfl ?_ | refine e_iadd rfl ?_
    refine e_callV (kd := 10) (M2 := m10_reads) rfl v10_242 ok10_reads (c10_reads (k := 7) hM (by omega) _) rfl hM.k rfl rfl rfl rfl (fun r1 h1 q1 => ?_)
    obtain ⟨rfl, rfl⟩ := q1
    refine e_return rfl rfl ?_
    rw [show 8 + 7 = 15 from rfl]
    have fr : ∀ c x, ¬ (c = 104 ∧ x = 15) → ¬ (c = 120 ∧ x = 64 + (pP s).1 4) → ¬ (c = 121 ∧ x = 64 + (pP s).1 4) → (u2 (u2 (u2 I 120 (64 + (pP s).1 4) a) 121 (64 + (pP s).1 4) b) 104 15 (nI ((pP s).1 4 + 1))) c x = I c x := fun c x q1 q2 q3 => (if_neg q1).trans ((if_neg q3).trans (if_neg q2))
    refine ⟨rfl, _, rfl, fun c x _ q2 q3 => fr c x q2 (by omega) (by omega), ?_⟩
    refine ⟨⟨by rw [fr _ _ (by omega) (by omega) (by omega)]; exact h3, by rw [fr _ _ (by omega) (by omega) (by omega)]; exact t1, t2, by rw [fr _ _ (by omega) (by omega) (by omega)]; exact t3, by rw [fr _ _ (by omega) (by omega) (by omega), fr _ _ (by omega) (by omega) (by omega), fr _ _ (by omega) (by omega) (by omega)]; exact t4⟩, u2_at _ _ _ _, by rw [fr _ _ (by omega) (by omega) (by omega)]; exact e2, ⟨e3.1, e3.2.1, show (pP s).1 4 + 1 ≤ (pP s).1 5 by omega⟩, fun i hi => ?_, by rw [fr _ _ (by omega) (by omega) (by omega)]; exact e5⟩
    have hi : i < (pP s).1 4 + 1 := hi
    show _ = kS (u2 (pP s).2 13 ((pP s).1 4) v 13 i) ∧ _ = kV (u2 (pP s).2 13 ((pP s).1 4) v 13 i)
    by_cases c : i = (pP s).1 4
    · subst c
      rw [u2_at, u2_ne _ _ (by omega), u2_ne _ _ (by omega), u2_at, u2_ne _ _ (by omega), u2_at]
      exact ⟨ha, hb⟩
    · rw [u2_nk _ _ c, fr _ _ (by omega) (by omega) (by omega), fr _ _ (by omega) (by omega) (by omega)]
      exact e4 i (by omega)
  · omega
theorem c10_puts (hM : MK K) (hz : Ez I n op zz) (hlt : ∀ s, zz = .inr s → (pP s).1 4 < (pP s).1 5) {v a b : Int32} (ha : a = kS v) (hb : b = kV v) : CE l G (d + 1) m10_puts [.ref 102, .int a, .int b] I J K n op (bnd zz (emS v)) := by
  cases zz with
  | inl e => exact c10_putsD hM hz a b
  | inr s => exact c10_putsL hM hz (hlt s rfl) ha hb
/-- behind a FAULT nothing is done -/
theorem c10_primaryD (hM : MK K) {e : Nat × Nat} (hz : Ez I n op (.inl e)) : CE l G d m10_primary [.ref 102] I J K n op (.inl e) := by
  have h3 := hz.1.2.2.1
  have h1 := hz.1.1
  have h2 := hz.1.2.1
  refine Cw.of ok10_primary rfl (rfl : argL _ _ = [.ref 102, .null]) ?_
  refine e_aload_n rfl rfl ?_
  refine e_getI rfl f10_205 hM.k rfl ?_
  rw [h3]
  first | refine e_if_eqB (tgt := 8) rfl rfl (fun z => ?_) (fun z => ?_) | refine e_if_eqN (tgt := 8) rfl rfl (by omega) (fun z => ?_) (fun z => ?_) | refine e_if_eq (tgt := 8) rfl rfl (fun z => ?_) (fun z => ?_)
  · exact absurd (by assumption) h1
  · refine e_return rfl rfl ?_
    exact ⟨rfl, I, rfl, FE.rf, hz⟩
theorem m7D (hM : MK K) {e : Nat × Nat} (hz : Ez I n op (.inl e)) {v : Value} (kk : Q none (I, J, K)) : Gw l G (d + 1) m10_product 4 [.ref 102, v] [] (I, J, K) Q := by
  refine e_aload_n rfl rfl ?_
  refine e_bipush (v := nI 42) rfl bp_42N ?_
  refine e_callVp (kd := 10) (M2 := m10_isSign) rfl v10_252 ok10_isSign (c10_isSign hM hz.1 (by omega)) rfl hM.k rfl rfl rfl rfl ?_
  refine e_if_neB (tgt := 22) rfl rfl (fun z => (Bool.false_ne_true z).elim) (fun _ => ?_)
  refine e_aload_n rfl rfl ?_
  refine e_bipush (v := nI 47) rfl bp_47N ?_
  refine e_callVp (kd := 10) (M2 := m10_isSign) rfl v10_252 ok10_isSign (c10_isSign hM hz.1 (by omega)) rfl hM.k rfl rfl rfl rfl ?_
  refine e_if_eqB (tgt := 48) rfl rfl (fun _ => ?_) (fun z => (Bool.false_ne_true z).elim)
  refine e_return rfl rfl ?_
  exact kk
theorem m8D (hM : MK K) {e : Nat × Nat} (hz : Ez I n op (.inl e)) {v : Value} (kk : Q none (I, J, K)) : Gw l G (d + 1) m10_sum 4 [.ref 102, v] [] (I, J, K) Q := by
  refine e_aload_n rfl rfl ?_
  refine e_bipush (v := nI 43) rfl bp_43N ?_
  refine e_callVp (kd := 10) (M2 := m10_isSign) rfl v10_252 ok10_isSign (c10_isSign hM hz.1 (by omega)) rfl hM.k rfl rfl rfl rfl ?_
  refine e_if_neB (tgt := 22) rfl rfl (fun z => (Bool.false_ne_true z).elim) (fun _ => ?_)
  refine e_aload_n rfl rfl ?_
  refine e_bipush (v := nI 45) rfl bp_45N ?_
  refine e_callVp (kd := 10) (M2 := m10_isSign) rfl v10_252 ok10_isSign (c10_isSign hM hz.1 (by omega)) rfl hM.k rfl rfl rfl rfl ?_
  refine e_if_eqB (tgt := 48) rfl rfl (fun _ => ?_) (fun z => (Bool.false_ne_true z).elim)
  refine e_return rfl rfl ?_
  exact kk
theorem m9D (hM : MK K) {e : Nat × Nat} (hz : Ez I n op (.inl e)) (kk : Q none (I, J, K)) : Gw l G (d + 1) m10_conjunction 4 [.ref 102] [] (I, J, K) Q := by
  refine e_aload_n rfl rfl ?_
  refine e_bipush (v := nI 12) rfl bp_12N ?_
  refine e_callVp (kd := 10) (M2 := m10_isWord) rfl v10_267 ok10_isWord (c10_isWord hM hz.1 (by omega)) rfl hM.k rfl rfl rfl rfl ?_
  refine e_if_eqB (tgt := 36) rfl rfl (fun _ => ?_) (fun z => (Bool.false_ne_true z).elim)
  refine e_return rfl rfl ?_
  exact kk
theorem m10D (hM : MK K) {e : Nat × Nat} (hz : Ez I n op (.inl e)) (kk : Q none (I, J, K)) : Gw l G (d + 1) m10_expression 4 [.ref 102] [] (I, J, K) Q := by
  refine e_aload_n rfl rfl ?_
  refine e_bipush (v := nI 11) rfl bp_11N ?_
  refine e_callVp (kd := 10) (M2 := m10_isWord) rfl v10_267 ok10_isWord (c10_isWord hM hz.1 (by omega)) rfl hM.k rfl rfl rfl rfl ?_
  refine e_if_eqB (tgt := 36) rfl rfl (fun _ => ?_) (fun z => (Bool.false_ne_true z).elim)
  refine e_return rfl rfl ?_
  exact kk
theorem c10_productD (hM : MK K) {e : Nat × Nat} (hz : Ez I n op (.inl e)) : CE l G (d + 1) m10_product [.ref 102] I J K n op (.inl e) := by
  refine Cw.of ok10_product rfl (rfl : argL _ _ = [.ref 102, .null]) ?_
  refine e_aload_n rfl rfl ?_
  refine e_callV (kd := 10) (M2 := m10_primary) rfl v10_284 ok10_primary (c10_primaryD hM hz) rfl hM.k rfl rfl rfl rfl (fun r1 h1 q1 => ?_)
  obtain ⟨rfl, I1, rfl, g1, L1⟩ := q1
  exact m7D hM L1 ⟨rfl, I1, rfl, g1, L1⟩
theorem c10_sumD (hM : MK K) {e : Nat × Nat} (hz : Ez I n op (.inl e)) : CE l G (d + 2) m10_sum [.ref 102] I J K n op (.inl e) := by
  refine Cw.of ok10_sum rfl (rfl : argL _ _ = [.ref 102, .null]) ?_
  refine e_aload_n rfl rfl ?_
  refine e_callV (kd := 10) (M2 := m10_product) rfl v10_281 ok10_product (c10_productD hM hz) rfl hM.k rfl rfl rfl rfl (fun r1 h1 q1 => ?_)
  obtain ⟨rfl, I1, rfl, g1, L1⟩ := q1
  exact m8D hM L1 ⟨rfl, I1, rfl, g1, L1⟩
theorem c10_negationD (hM : MK K) {e : Nat × Nat} (hz : Ez I n op (.inl e)) : CE l G (d + 3) m10_negation [.ref 102] I J K n op (.inl e) := by
  refine Cw.of ok10_negation rfl (rfl : argL _ _ = [.ref 102, .null]) ?_
  refine e_aload_n rfl rfl ?_
  refine e_bipush (v := nI 13) rfl bp_13N ?_
  refine e_callVp (kd := 10) (M2 := m10_isWord) rfl v10_267 ok10_isWord (c10_isWord hM hz.1 (by omega)) rfl hM.k rfl rfl rfl rfl ?_
  refine e_if_eqB (tgt := 30) rfl rfl (fun _ => ?_) (fun z => (Bool.false_ne_true z).elim)
  refine e_aload_n rfl rfl ?_
  refine e_callV (kd := 10) (M2 := m10_sum) rfl v10_278 ok10_sum (c10_sumD hM hz) rfl hM.k rfl rfl rfl rfl (fun r1 h1 q1 => ?_)
  obtain ⟨rfl, I1, rfl, g1, L1⟩ := q1
  have h3 := L1.1.2.2.1
  have h1 := L1.1.1
  have h2 := L1.1.2.1
  refine e_aload_n rfl rfl ?_
  refine e_getI rfl f10_205 hM.k rfl ?_
  rw [h3]
  first | refine e_if_neB (tgt := 86) rfl rfl (fun z => ?_) (fun z => ?_) | refine e_if_neN (tgt := 86) rfl rfl (by omega) (fun z => ?_) (fun z => ?_) | refine e_if_ne (tgt := 86) rfl rfl (fun z => ?_) (fun z => ?_)
  · refine e_return rfl rfl ?_
    exact ⟨rfl, I1, rfl, g1, L1⟩
  · exact absurd (by assumption) h1
theorem c10_conjunctionD (hM : MK K) {e : Nat × Nat} (hz : Ez I n op (.inl e)) : CE l G (d + 4) m10_conjunction [.ref 102] I J K n op (.inl e) := by
  refine Cw.of ok10_conjunction rfl (rfl : argL _ _ = [.ref 102]) ?_
  refine e_aload_n rfl rfl ?_
  refine e_callV (kd := 10) (M2 := m10_negation) rfl v10_275 ok10_negation (c10_negationD hM hz) rfl hM.k rfl rfl rfl rfl (fun r1 h1 q1 => ?_)
  obtain ⟨rfl, I1, rfl, g1, L1⟩ := q1
  exact m9D hM L1 ⟨rfl, I1, rfl, g1, L1⟩
theorem c10_expressionD (hM : MK K) {e : Nat × Nat} (hz : Ez I n op (.inl e)) : CE l G (d + 5) m10_expression [.ref 102] I J K n op (.inl e) := by
  refine Cw.of ok10_expression rfl (rfl : argL _ _ = [.ref 102]) ?_
  refine e_aload_n rfl rfl ?_
  refine e_callV (kd := 10) (M2 := m10_conjunction) rfl v10_264 ok10_conjunction (c10_conjunctionD hM hz) rfl hM.k rfl rfl rfl rfl (fun r1 h1 q1 => ?_)
  obtain ⟨rfl, I1, rfl, g1, L1⟩ := q1
  exact m10D hM L1 ⟨rfl, I1, rfl, g1, L1⟩
end MExpr
