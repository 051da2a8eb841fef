/-! ===== Parser: KNOTS and E ===== -/
theorem obd_assoc (z : Option PR) (g h : PSt → Option PR) : obd (obd z g) h = obd z (fun s => obd (g s) h) := by
  cases z with
  | none => rfl
  | some q => cases q <;> rfl
theorem obd_ex {z : Option PR} {g : PSt → Option PR} {w : PR} (h : obd z g = some w) : ∃ q, z = some q := by
  cases z with
  | none => exact absurd h (by simp [obd])
  | some q => exact ⟨q, rfl⟩
theorem obd_em {w2 : PR} {v : Int32} : obd (some w2) (fun s => some (emS v s)) = some (bnd w2 (emS v)) := by cases w2 <;> rfl
theorem loS_some {f : Nat → Nat} {n : Nat} {R : Nat → Nat → PSt → Option PR} {sub lv dp : Nat} {s : PSt} {w : PR} (h : loS f n R sub lv dp s = some w) : ∃ w2, obd (some (knS f n s)) (R sub dp) = some w2 ∧ obd (some (bnd w2 (emS (-pTk s)))) (R lv dp) = some w := by
  have e : loS f n R sub lv dp s = obd (obd (some (knS f n s)) (R sub dp)) (fun s2 => obd (some (emS (-pTk s) s2)) (R lv dp)) := (obd_assoc _ _ _).symm
  rw [e] at h
  obtain ⟨w2, h2⟩ := obd_ex h
  refine ⟨w2, h2, ?_⟩
  rw [h2] at h
  cases w2 <;> exact h
theorem knE {f : Nat → Nat} {n : Nat} (hf : ∀ j, f j < 256) {k sub dp : Nat} (hs : sub ≤ 6) {s s2 : PSt} (ho : Okp n s) (h : obd (some (knS f n s)) (exA f n k sub dp) = some (.inr s2)) : (pP s2).1 4 < (pP s2).1 5 ∧ (pP s).1 5 + 2 ≤ (pP s2).1 5 ∧ (pP s2).1 4 + (pP s).1 5 + 1 = (pP s).1 4 + (pP s2).1 5 := by
  obtain ⟨s1, h1, h2⟩ := obd_inr h
  obtain ⟨g, a, e5, e4, b, -⟩ := knS_ok hf ho (Option.some.inj h1)
  have o1 : Okp n s1 := ⟨a, b, by have := ho.2.2; omega⟩
  obtain ⟨g2, o2, l2⟩ := exA_ok hf k _ _ _ _ o1 h2
  have := l2 hs
  have := g2.2
  have := ho.2.2
  exact ⟨by omega, by omega, by omega⟩
def emN : Nat → PR → PR
  | 0, w => w
  | i + 1, w => emN i (bnd w (emS (-19)))
theorem emN_dead (e : Nat × Nat) : ∀ i, emN i (.inl e) = .inl e
  | 0 => rfl
  | i + 1 => emN_dead e i
theorem Gw.mono {l : Launch} {G : GG} {d : Nat} {M : MD} {pc : Nat} {L st : List Value} {h : Hp} {Q Q' : Option Value → Hp → Prop} (g : Gw l G d M pc L st h Q) (hq : ∀ r h', Q r h' → Q' r h') : Gw l G d M pc L st h Q' := by
  obtain ⟨r, h', g1, g2⟩ := g
  exact ⟨r, h', g1, hq r h' g2⟩
section MExp
variable {l : Launch} {G : GG} {d : Nat} {I : IM} {J : JM} {K : Kt} {Q : Option Value → Hp → Prop} {f : Nat → Nat} {n : Nat} {zz : PR}
theorem knot_tail (hK : PK K) {z1 : PR} {q : Nat} (hq : I (3 + 22) 6 = nI q) (hL : Lz (u2 I (3 + 22) 6 (nI (q + 1))) f n z1) : Gw l G (d + 6) m2_knot 20 [.ref 2] [] (I, J, K) (fun r h' => r = none ∧ ∃ I', h' = (I', J, K) ∧ FP I I' ∧ Lz I' f n (bnd z1 (avS f n))) := by
  have hK2 := hK
  obtain ⟨k2, p20, p21, hP3, k5, p0, a31, p1, a1⟩ := hK2
  obtain ⟨h3, q0, q1, q2, q3, q4, r1, r2, r3, r4, r5⟩ := hP3
  have s1 := r5.1
  refine e_aload_n rfl rfl ?_
  refine e_getP rfl f2_12 (by assumption) rfl (by assumption) ?_
  refine e_getP rfl f2_149 (by assumption) rfl (by assumption) ?_
  refine e_dup rfl rfl ?_
  refine e_getI rfl f2_168 (by assumption) rfl ?_
  rw [hq]
  refine e_iconst (v := nI 1) rfl ic_1N ?_
  first | refine e_iaddN rfl ?_ | refine e_iadd rfl ?_
  refine e_putI rfl f2_168 (by assumption) rfl rfl ?_
  refine e_aload_n rfl rfl ?_
  refine e_getP rfl f2_21 (by assumption) rfl (by assumption) ?_
  refine e_callV (kd := 5) (M2 := m5_advance) rfl v2_45 ok5_advance (c5_adv hK hL) rfl (by assumption) rfl rfl rfl rfl (fun r1 h1 q1 => ?_)
  obtain ⟨rfl, I2, rfl, g2, L2⟩ := q1
  refine e_return rfl rfl ?_
  exact ⟨rfl, I2, rfl, fun c hc => by rw [g2 c hc, u2_row _ _ (by omega)], L2⟩
theorem c2_knot (hK : PK K) {s : PSt} (hz : Lz I f n (.inr s)) : CV l G (d + 6) m2_knot [.ref 2] I J K f n (knS f n s) := by
  have hK2 := hK
  obtain ⟨k2, p20, p21, hP3, k5, p0, a31, p1, a1⟩ := hK2
  obtain ⟨h3, q0, q1, q2, q3, q4, r1, r2, r3, r4, r5⟩ := hP3
  have s1 := r5.1
  have hk : I (3 + 22) 6 = nI ((pP s).1 5) := hz.2.2.2.1.2.2.2.2.2.2.2.2.2.1.2.2.1
  have ho := hz.2.2.2.2.1
  have ho1 := ho.2.1
  refine Cw.of ok2_knot rfl (rfl : argL _ _ = [.ref 2]) ?_
  refine e_aload_n rfl rfl ?_
  refine e_getP rfl f2_12 (by assumption) rfl (by assumption) ?_
  refine e_getP rfl f2_149 (by assumption) rfl (by assumption) ?_
  refine e_getI rfl f2_168 (by assumption) rfl ?_
  rw [hk]
  refine e_bipush (v := nI 64) rfl bp_64N ?_
  first | refine e_icmp_ltN (tgt := 20) rfl rfl (by omega) (by omega) (fun z => ?_) (fun z => ?_) | refine e_icmp_lt (tgt := 20) rfl rfl (fun z => ?_) (fun z => ?_)
  · have y : (pP s).1 5 < 64 := by assumption
    refine Gw.mono (knot_tail (f := f) (n := n) (z1 := .inr (stP s (knP (pP s)))) hK hk ?_) (fun r h' q => ?_)
    · obtain ⟨h1, h2, h3, h4, h5, h6, h7⟩ := hz
      refine ⟨by rw [u2_row _ _ (by omega)]; exact h1, by rw [u2_row _ _ (by omega)]; exact h2, h3.frame (u2_row _ _ (by omega)) (u2_row _ _ (by omega)) (u2_row _ _ (by omega)), h4.kn (by omega), ⟨h5.1, ?_, ?_⟩, by rw [u2_row _ _ (by omega)]; exact h6, by rw [u2_row _ _ (by omega)]; exact h7⟩
      · show (if 5 = 5 then (pP s).1 5 + 1 else (pP s).1 5) ≤ 64
        rw [if_pos rfl]; omega
      · show (if 4 = 5 then (pP s).1 5 + 1 else (pP s).1 4) ≤ (if 5 = 5 then (pP s).1 5 + 1 else (pP s).1 5)
        rw [if_pos rfl, if_neg (by omega)]; have := h5.2.2; omega
    · rw [knS, if_neg (by omega)]
      exact q
  · have y : 64 ≤ (pP s).1 5 := by assumption
    refine e_aload_n rfl rfl ?_
    refine e_iconst (v := nI 2) rfl ic_2N ?_
    refine e_callV (kd := 2) (M2 := m2_fail) rfl v2_59 ok2_fail (c2_failF hK hz (by omega) (by omega)) rfl (by assumption) rfl rfl rfl rfl (fun r1 h1 q1 => ?_)
    obtain ⟨rfl, I1, rfl, g1, L1⟩ := q1
    have hk1 : I1 (3 + 22) 6 = nI ((pP s).1 5) := by rw [g1 _ (by omega) (by omega)]; exact hk
    refine Gw.mono (knot_tail (f := f) (n := n) (z1 := bnd (.inr s) (flS 2)) hK hk1 ?_) (fun r h' q => ?_)
    · obtain ⟨h1, h2, h3, h4, ⟨a, va, pl, h5⟩, h6⟩ := L1
      obtain ⟨m, t1, t2, t3, t4, t5, t6⟩ := h6
      refine ⟨h1, h2, by rw [u2_row _ _ (by omega)]; exact h3, by rw [u2_row _ _ (by omega)]; exact h4, ⟨a, va, pl, h5.frame (u2_row _ _ (by omega)) (u2_row _ _ (by omega)) (u2_row _ _ (by omega))⟩, ?_⟩
      refine ⟨⟨by rw [u2_row _ _ (by omega)]; exact m.1, by rw [u2_row _ _ (by omega)]; exact m.2.1, by rw [u2_row _ _ (by omega)]; exact m.2.2.1, by rw [u2_row _ _ (by omega)]; exact m.2.2.2⟩, by rw [u2_row _ _ (by omega)]; exact t1, by rw [u2_row _ _ (by omega)]; exact t2, by rw [u2_row _ _ (by omega)]; exact t3, by rw [u2_row _ _ (by omega)]; exact t4, by rw [u2_nk _ _ (by omega)]; exact t5, ⟨(pP s).1 5 + 1, by omega, u2_at _ _ _ _⟩⟩
    · obtain ⟨q1, I', q2, q3, q4⟩ := q
      rw [knS, if_pos y]
      exact ⟨q1, I', q2, fun c hc => by rw [q3 c hc, g1 c (by omega) (by omega)], q4⟩
/-- a KNOT behind a FAULT of the same call -/
theorem c2_knotD (hK : PK K) {e : Nat × Nat} (hz : Lz I f n (.inl e)) {q : Nat} (hk : I (3 + 22) 6 = nI q) (hq : q ≤ 64) : CV l G (d + 6) m2_knot [.ref 2] I J K f n (.inl e) := by
  have hK2 := hK
  obtain ⟨k2, p20, p21, hP3, k5, p0, a31, p1, a1⟩ := hK2
  obtain ⟨h3, q0, q1, q2, q3, q4, r1, r2, r3, r4, r5⟩ := hP3
  have s1 := r5.1
  have tail : ∀ I1, Lz I1 f n (.inl e) → I1 (3 + 22) 6 = nI q → Lz (u2 I1 (3 + 22) 6 (nI (q + 1))) f n (.inl e) := by
    intro I1 L1 hk1
    obtain ⟨h1, h2, h3, h4, ⟨a, va, pl, h5⟩, h6⟩ := L1
    obtain ⟨m, t1, t2, t3, t4, t5, t6⟩ := h6
    refine ⟨h1, h2, by rw [u2_row _ _ (by omega)]; exact h3, by rw [u2_row _ _ (by omega)]; exact h4, ⟨a, va, pl, h5.frame (u2_row _ _ (by omega)) (u2_row _ _ (by omega)) (u2_row _ _ (by omega))⟩, ?_⟩
    refine ⟨⟨by rw [u2_row _ _ (by omega)]; exact m.1, by rw [u2_row _ _ (by omega)]; exact m.2.1, by rw [u2_row _ _ (by omega)]; exact m.2.2.1, by rw [u2_row _ _ (by omega)]; exact m.2.2.2⟩, by rw [u2_row _ _ (by omega)]; exact t1, by rw [u2_row _ _ (by omega)]; exact t2, by rw [u2_row _ _ (by omega)]; exact t3, by rw [u2_row _ _ (by omega)]; exact t4, by rw [u2_nk _ _ (by omega)]; exact t5, ⟨q + 1, by omega, u2_at _ _ _ _⟩⟩
  refine Cw.of ok2_knot rfl (rfl : argL _ _ = [.ref 2]) ?_
  refine e_aload_n rfl rfl ?_
  refine e_getP rfl f2_12 (by assumption) rfl (by assumption) ?_
  refine e_getP rfl f2_149 (by assumption) rfl (by assumption) ?_
  refine e_getI rfl f2_168 (by assumption) rfl ?_
  rw [hk]
  refine e_bipush (v := nI 64) rfl bp_64N ?_
  first | refine e_icmp_ltN (tgt := 20) rfl rfl (by omega) (by omega) (fun z => ?_) (fun z => ?_) | refine e_icmp_lt (tgt := 20) rfl rfl (fun z => ?_) (fun z => ?_)
  · refine Gw.mono (knot_tail (f := f) (n := n) (z1 := .inl e) hK hk (tail I hz hk)) (fun r h' q => q)
  · refine e_aload_n rfl rfl ?_
    refine e_iconst (v := nI 2) rfl ic_2N ?_
    refine e_callV (kd := 2) (M2 := m2_fail) rfl v2_59 ok2_fail (c2_failF hK hz (by omega) (by omega)) rfl (by assumption) rfl rfl rfl rfl (fun r1 h1 q1 => ?_)
    obtain ⟨rfl, I1, rfl, g1, L1⟩ := q1
    have hk1 : I1 (3 + 22) 6 = nI q := by rw [g1 _ (by omega) (by omega)]; exact hk
    refine Gw.mono (knot_tail (f := f) (n := n) (z1 := .inl e) hK hk1 (tail I1 L1 hk1)) (fun r h' q => ?_)
    obtain ⟨q1, I', q2, q3, q4⟩ := q
    exact ⟨q1, I', q2, fun c hc => by rw [q3 c hc, g1 c (by omega) (by omega)], q4⟩
theorem c2_emit (hK : PK K) (hz : Lz I f n zz) (v : Int32) (hlt : ∀ s, zz = .inr s → (pP s).1 4 < (pP s).1 5) : CV l G (d + 1) m2_emit [.ref 2, .int v] I J K f n (bnd zz (emS v)) := by
  obtain ⟨k2, p20, p21, hP3, k5, p0, a31, p1, a1⟩ := hK
  obtain ⟨h3, q0, q1, q2, q3, q4, r1, r2, r3, r4, r5⟩ := hP3
  have s1 := r5.1
  cases zz with
  | inl e =>
    refine Cw.of ok2_emit rfl (rfl : argL _ _ = [.ref 2, .int v]) ?_
    refine e_aload_n rfl rfl ?_
    refine e_getI rfl f2_35 (by assumption) rfl ?_
    rw [hz.2.2.1]
    have e1 := hz.1
    have e2 := hz.2.1
    first | refine e_if_neB (tgt := 18) rfl rfl (fun z => ?_) (fun z => ?_) | refine e_if_neN (tgt := 18) rfl rfl (by omega) (fun z => ?_) (fun z => ?_) | refine e_if_ne (tgt := 18) rfl rfl (fun z => ?_) (fun z => ?_)
    · refine e_return rfl rfl ?_
      exact ⟨rfl, I, rfl, FP.rf, hz⟩
    · exact absurd (by assumption) e1
  | inr s =>
    obtain ⟨h1, h2, h3, h4, h5, h6, h7⟩ := hz
    have h64 := h5.2.1
    have hl := hlt s rfl
    have h44 : I (3 + 22) 4 = nI ((pP s).1 4) := h4.2.2.2.2.2.2.2.2.2.1.1
    refine Cw.of ok2_emit rfl (rfl : argL _ _ = [.ref 2, .int v]) ?_
    refine e_aload_n rfl rfl ?_
    refine e_getI rfl f2_35 (by assumption) rfl ?_
    rw [h1]
    first | refine e_if_neB (tgt := 18) rfl rfl (fun z => ?_) (fun z => ?_) | refine e_if_neN (tgt := 18) rfl rfl (by omega) (fun z => ?_) (fun z => ?_) | refine e_if_ne (tgt := 18) rfl rfl (fun z => ?_) (fun z => ?_)
    · omega
    · refine e_aload_n rfl rfl ?_
      refine e_getP rfl f2_12 (by assumption) rfl (by assumption) ?_
      refine e_getP rfl f2_149 (by assumption) rfl (by assumption) ?_
      refine e_iload_n rfl rfl ?_
      refine e_callV (kd := 1) (M2 := m1_emit) rfl v2_171 ok1_emit (c1_emit r5 h44 (by omega) v) rfl (by assumption) rfl rfl rfl rfl (fun r1 h1 q1 => ?_)
      obtain ⟨rfl, rfl⟩ := q1
      refine e_return rfl rfl ?_
      rw [if_pos (by omega)]
      refine ⟨rfl, _, rfl, fun c hc => by rw [u2_row _ _ (by omega), u2_row _ _ (by omega)], ?_⟩
      have fr : ∀ c, c ≠ 25 → c ≠ 26 → u2 (u2 I (3 + 22 + 1) ((pP s).1 4) v) (3 + 22) 4 (nI ((pP s).1 4 + 1)) c = I c := fun c a b => by rw [u2_row _ _ a, u2_row _ _ b]
      refine ⟨by rw [fr _ (by omega) (by omega)]; exact h1, by rw [fr _ (by omega) (by omega)]; exact h2, h3.frame (fr _ (by omega) (by omega)) (fr _ (by omega) (by omega)) (fr _ (by omega) (by omega)), h4.em (by omega) v, ⟨h5.1, ?_, ?_⟩, by rw [fr _ (by omega) (by omega)]; exact h6, by rw [fr _ (by omega) (by omega)]; exact h7⟩
      · show (emP (pP s) v).1 5 ≤ 64
        rw [emP, if_pos (by omega)]
        exact h64
      · show (emP (pP s) v).1 4 ≤ (emP (pP s) v).1 5
        rw [emP, if_pos (by omega)]
        show (if 4 = 4 then (pP s).1 4 + 1 else (pP s).1 4) ≤ (if 5 = 4 then (pP s).1 4 + 1 else (pP s).1 5)
        rw [if_pos rfl, if_neg (by omega)]
        omega
theorem c2_isComparison (t : Int32) : Cp l G d m2_isComparison [.int t] (I, J, K) (.int (bI (isCmp t))) := by
  have no : (¬ (nI 60 ≤ t ∧ t ≤ nI 62)) → (¬ (nI 256 ≤ t ∧ t ≤ nI 258)) → Gw l G d m2_isComparison 30 [.int t] [] (I, J, K) (fun r h' => r = some (.int (bI (isCmp t))) ∧ h' = (I, J, K)) := by
    intro a b
    refine e_iconst (v := nI 0) rfl ic_0N ?_
    refine e_zreturn rfl rfl ?_ ?_
    · exact Or.inl rfl
    · rw [isCmp, decide_eq_false (fun q => q.elim a b)]; exact ⟨rfl, rfl⟩
  have yes : (nI 60 ≤ t ∧ t ≤ nI 62 ∨ nI 256 ≤ t ∧ t ≤ nI 258) → Gw l G d m2_isComparison 26 [.int t] [] (I, J, K) (fun r h' => r = some (.int (bI (isCmp t))) ∧ h' = (I, J, K)) := by
    intro a
    refine e_iconst (v := nI 1) rfl ic_1N ?_
    refine e_goto (tgt := 31) rfl rfl ?_
    refine e_zreturn rfl rfl ?_ ?_
    · exact Or.inr rfl
    · rw [isCmp, decide_eq_true a]; exact ⟨rfl, rfl⟩
  have hi : (¬ (nI 60 ≤ t ∧ t ≤ nI 62)) → Gw l G d m2_isComparison 12 [.int t] [] (I, J, K) (fun r h' => r = some (.int (bI (isCmp t))) ∧ h' = (I, J, K)) := by
    intro a
    refine e_iload_n rfl rfl ?_
    refine e_sipush (v := nI 256) rfl sp_256N ?_
    first | refine e_icmp_ltN (tgt := 30) rfl rfl (by omega) (by omega) (fun z => ?_) (fun z => ?_) | refine e_icmp_lt (tgt := 30) rfl rfl (fun z => ?_) (fun z => ?_)
    · exact no a (fun q => absurd (by assumption) (Int32.not_lt.mpr q.1))
    · have y := Int32.not_lt.mp (by assumption)
      refine e_iload_n rfl rfl ?_
      refine e_sipush (v := nI 258) rfl sp_258N ?_
      first | refine e_icmp_gtN (tgt := 30) rfl rfl (by omega) (by omega) (fun z => ?_) (fun z => ?_) | refine e_icmp_gt (tgt := 30) rfl rfl (fun z => ?_) (fun z => ?_)
      · exact no a (fun q => absurd (by assumption) (Int32.not_lt.mpr q.2))
      · exact yes (Or.inr ⟨y, Int32.not_lt.mp (by assumption)⟩)
  refine Cp.of ok2_isComparison rfl (rfl : argL _ _ = [.int t]) ?_
  refine e_iload_n rfl rfl ?_
  refine e_bipush (v := nI 60) rfl bp_60N ?_
  first | refine e_icmp_ltN (tgt := 12) rfl rfl (by omega) (by omega) (fun z => ?_) (fun z => ?_) | refine e_icmp_lt (tgt := 12) rfl rfl (fun z => ?_) (fun z => ?_)
  · exact hi (fun q => absurd (by assumption) (Int32.not_lt.mpr q.1))
  · have y := Int32.not_lt.mp (by assumption)
    refine e_iload_n rfl rfl ?_
    refine e_bipush (v := nI 62) rfl bp_62N ?_
    first | refine e_icmp_leN (tgt := 26) rfl rfl (by omega) (by omega) (fun z => ?_) (fun z => ?_) | refine e_icmp_le (tgt := 26) rfl rfl (fun z => ?_) (fun z => ?_)
    · exact yes (Or.inl ⟨y, by assumption⟩)
    · exact hi (fun q => absurd q.2 (by assumption))
/-- the methods of E, by their level -/
def mE : Nat → MD
  | 0 => m2_part
  | 1 => m2_product
  | 2 => m2_sum
  | 3 => m2_compared
  | 4 => m2_denied
  | 5 => m2_both
  | _ => m2_either
/-- what an E of level lv does, with k to go -/
def EXc (l : Launch) (G : GG) (J : JM) (K : Kt) (f : Nat → Nat) (n k lv : Nat) : Prop := ∀ dp, dp ≤ 8 → ∀ d, 8 * (8 - dp) + lv + 9 ≤ d → ∀ I zz w, Lz I f n zz → obd (some zz) (exA f n k lv dp) = some w → CV l G d (mE lv) [.ref 2, .int (nI dp)] I J K f n w
def LOc7 (l : Launch) (G : GG) (J : JM) (K : Kt) (f : Nat → Nat) (n k : Nat) : Prop := ∀ dp, dp ≤ 8 → ∀ d, 8 * (8 - dp) + 1 + 9 ≤ d → ∀ I zz w i, Lz I f n zz → obd (some zz) (exA f n k 7 dp) = some w → (∀ s, zz = .inr s → 2 * i + 1 ≤ (pP s).1 5) → ∀ (Q : Option Value → Hp → Prop), (∀ I2, FP I I2 → Lz I2 f n w → Q none (I2, J, K)) → ∀ (v3 : Value), Gw l G d m2_product 7 [.ref 2, .int (nI dp), .int (nI i), v3] [] (I, J, K) Q
theorem lo7_dead (hK : PK K) {e : Nat × Nat} (hz : Lz I f n (.inl e)) {dp i : Nat} (kk : Q none (I, J, K)) (v3 : Value) : Gw l G d m2_product 7 [.ref 2, .int (nI dp), .int (nI i), v3] [] (I, J, K) Q := by
  obtain ⟨k2, p20, p21, hP3, k5, p0, a31, p1, a1⟩ := hK
  refine e_iload_n rfl rfl ?_
  refine e_bipush (v := nI 64) rfl bp_64N ?_
  first | refine e_icmp_geN (tgt := 66) rfl rfl (by omega) (by omega) (fun z => ?_) (fun z => ?_) | refine e_icmp_ge (tgt := 66) rfl rfl (fun z => ?_) (fun z => ?_)
  · refine e_return rfl rfl ?_
    exact kk
  · refine e_aload_n rfl rfl ?_
    refine e_getP rfl f2_21 (by assumption) rfl (by assumption) ?_
    refine e_getI rfl f2_48 (by assumption) rfl ?_
    rw [hz.dead]
    refine e_bipush (v := nI 42) rfl bp_42N ?_
    refine e_icmp_eq (tgt := 37) rfl rfl (fun z => absurd z (by decide)) (fun _ => ?_)
    refine e_aload_n rfl rfl ?_
    refine e_getP rfl f2_21 (by assumption) rfl (by assumption) ?_
    refine e_getI rfl f2_48 (by assumption) rfl ?_
    rw [hz.dead]
    refine e_bipush (v := nI 47) rfl bp_47N ?_
    refine e_icmp_ne (tgt := 66) rfl rfl (fun _ => ?_) (fun z => absurd z (by decide))
    refine e_return rfl rfl ?_
    exact kk
theorem lo7_step (hK : PK K) {k : Nat} (hS : EXc l G J K f n k 0) (hL : LOc7 l G J K f n k) : LOc7 l G J K f n (k + 1) := by
  intro dp hdp d hd I zz w i hz h hkn Q kk v3
  have hK2 := hK
  obtain ⟨k2, p20, p21, hP3, k5, p0, a31, p1, a1⟩ := hK2
  cases zz with
  | inl e =>
    obtain rfl := Option.some.inj h
    exact lo7_dead hK hz (kk I FP.rf hz) v3
  | inr s =>
    have hk1 := hkn s rfl
    have ho := hz.2.2.2.2.1
    have ho1 := ho.2.1
    have hf := hz.hf
    obtain ⟨d0, rfl⟩ : ∃ d0, d = d0 + 8 := ⟨d - 8, by omega⟩
    have h : l7S f n (exA f n k) dp s = some w := h
    unfold l7S at h
    have body : ∀ c : Int32, pTk s = c → (pTk s = nI 42 ∨ pTk s = nI 47) → ∀ (v3 : Value), Gw l G (d0 + 8) m2_product 37 [.ref 2, .int (nI dp), .int (nI i), v3] [] (I, J, K) Q := by
      intro c ec hc v3
      rw [if_pos hc] at h
      obtain ⟨w2, h1, h2⟩ := loS_some h
      refine e_aload_n rfl rfl ?_
      refine e_getP rfl f2_21 (by assumption) rfl (by assumption) ?_
      refine e_getI rfl f2_48 (by assumption) rfl ?_
      rw [hz.tk]
      refine e_ist3 rfl rfl rfl ?_
      refine e_aload_n rfl rfl ?_
      refine e_callV (kd := 2) (M2 := m2_knot) rfl v2_177 ok2_knot (c2_knot (d := d0 + 1) hK hz) rfl (by assumption) rfl rfl rfl rfl (fun r1 h1 q1 => ?_)
      obtain ⟨rfl, I1, rfl, g1, L1⟩ := q1
      refine e_aload_n rfl rfl ?_
      refine e_iload_n rfl rfl ?_
      refine e_callV (kd := 2) (M2 := m2_part) rfl v2_196 ok2_part (hS dp hdp (d0 + 7) (by omega) I1 _ w2 L1 h1) rfl (by assumption) rfl rfl rfl rfl (fun r1 h1 q1 => ?_)
      obtain ⟨rfl, I2, rfl, g2, L2⟩ := q1
      refine e_aload_n rfl rfl ?_
      refine e_iload_n rfl rfl ?_
      refine e_ineg rfl ?_
      refine e_callV (kd := 2) (M2 := m2_emit) rfl v2_180 ok2_emit (c2_emit (d := d0 + 6) hK L2 (-pTk s) (fun s2 e => by subst e; exact (knE hf (by omega) ho h1).1)) rfl (by assumption) rfl rfl rfl rfl (fun r1 h1 q1 => ?_)
      obtain ⟨rfl, I3, rfl, g3, L3⟩ := q1
      first | refine e_inc2 rfl rfl rfl (incN1 _) ?_ | refine e_inc2 rfl rfl rfl rfl ?_
      refine e_goto (tgt := 7) rfl rfl ?_
      refine hL dp hdp (d0 + 8) (by omega) I3 _ w (i + 1) L3 h2 (fun s3 e3 => ?_) Q (fun I4 g4 L4 => kk I4 (((g1.tr g2).tr g3).tr g4) L4) _
      obtain ⟨s2, e2, e3⟩ := bnd_inr e3
      subst e2
      have kq := knE hf (by omega) ho h1
      obtain ⟨s1, j1, j2⟩ := obd_inr h1
      obtain ⟨g, a, e5, e4, b, -⟩ := knS_ok hf ho (Option.some.inj j1)
      have o1 : Okp n s1 := ⟨a, b, by have := ho.2.2; omega⟩
      obtain ⟨gg2, o2, l2⟩ := exA_ok hf k _ _ _ _ o1 j2
      have em := (em_ok (v := -pTk s) hf ho (Option.some.inj j1) gg2 o2).2.2 s3 e3
      have x5 : (pP s3).1 5 = (pP s2).1 5 := by
        have := em_ok (v := -pTk s) hf ho (Option.some.inj j1) gg2 o2
        have e3 : emS (-pTk s) s2 = .inr s3 := e3
        rw [this.2.1] at e3
        obtain rfl := Sum.inr.inj e3
        rfl
      have := kq.2.1
      omega
    refine e_iload_n rfl rfl ?_
    refine e_bipush (v := nI 64) rfl bp_64N ?_
    first | refine e_icmp_geN (tgt := 66) rfl rfl (by omega) (by omega) (fun z => ?_) (fun z => ?_) | refine e_icmp_ge (tgt := 66) rfl rfl (fun z => ?_) (fun z => ?_)
    · omega
    · refine e_aload_n rfl rfl ?_
      refine e_getP rfl f2_21 (by assumption) rfl (by assumption) ?_
      refine e_getI rfl f2_48 (by assumption) rfl ?_
      rw [hz.tk]
      refine e_bipush (v := nI 42) rfl bp_42N ?_
      refine e_icmp_eq (tgt := 37) rfl rfl (fun z => ?_) (fun z => ?_)
      · exact body _ rfl (Or.inl z) _
      · refine e_aload_n rfl rfl ?_
        refine e_getP rfl f2_21 (by assumption) rfl (by assumption) ?_
        refine e_getI rfl f2_48 (by assumption) rfl ?_
        rw [hz.tk]
        refine e_bipush (v := nI 47) rfl bp_47N ?_
        refine e_icmp_ne (tgt := 66) rfl rfl (fun y => ?_) (fun y => ?_)
        · refine e_return rfl rfl ?_
          rw [if_neg (fun q => q.elim z y)] at h
          obtain rfl := Option.some.inj h
          exact kk I FP.rf hz
        · exact body _ rfl (Or.inr y) _
def LOc8 (l : Launch) (G : GG) (J : JM) (K : Kt) (f : Nat → Nat) (n k : Nat) : Prop := ∀ dp, dp ≤ 8 → ∀ d, 8 * (8 - dp) + 2 + 9 ≤ d → ∀ I zz w i, Lz I f n zz → obd (some zz) (exA f n k 8 dp) = some w → (∀ s, zz = .inr s → 2 * i + 1 ≤ (pP s).1 5) → ∀ (Q : Option Value → Hp → Prop), (∀ I2, FP I I2 → Lz I2 f n w → Q none (I2, J, K)) → ∀ (v3 : Value), Gw l G d m2_sum 7 [.ref 2, .int (nI dp), .int (nI i), v3] [] (I, J, K) Q
theorem lo8_dead (hK : PK K) {e : Nat × Nat} (hz : Lz I f n (.inl e)) {dp i : Nat} (kk : Q none (I, J, K)) (v3 : Value) : Gw l G d m2_sum 7 [.ref 2, .int (nI dp), .int (nI i), v3] [] (I, J, K) Q := by
  obtain ⟨k2, p20, p21, hP3, k5, p0, a31, p1, a1⟩ := hK
  refine e_iload_n rfl rfl ?_
  refine e_bipush (v := nI 64) rfl bp_64N ?_
  first | refine e_icmp_geN (tgt := 66) rfl rfl (by omega) (by omega) (fun z => ?_) (fun z => ?_) | refine e_icmp_ge (tgt := 66) rfl rfl (fun z => ?_) (fun z => ?_)
  · refine e_return rfl rfl ?_
    exact kk
  · refine e_aload_n rfl rfl ?_
    refine e_getP rfl f2_21 (by assumption) rfl (by assumption) ?_
    refine e_getI rfl f2_48 (by assumption) rfl ?_
    rw [hz.dead]
    refine e_bipush (v := nI 43) rfl bp_43N ?_
    refine e_icmp_eq (tgt := 37) rfl rfl (fun z => absurd z (by decide)) (fun _ => ?_)
    refine e_aload_n rfl rfl ?_
    refine e_getP rfl f2_21 (by assumption) rfl (by assumption) ?_
    refine e_getI rfl f2_48 (by assumption) rfl ?_
    rw [hz.dead]
    refine e_bipush (v := nI 45) rfl bp_45N ?_
    refine e_icmp_ne (tgt := 66) rfl rfl (fun _ => ?_) (fun z => absurd z (by decide))
    refine e_return rfl rfl ?_
    exact kk
theorem lo8_step (hK : PK K) {k : Nat} (hS : EXc l G J K f n k 1) (hL : LOc8 l G J K f n k) : LOc8 l G J K f n (k + 1) := by
  intro dp hdp d hd I zz w i hz h hkn Q kk v3
  have hK2 := hK
  obtain ⟨k2, p20, p21, hP3, k5, p0, a31, p1, a1⟩ := hK2
  cases zz with
  | inl e =>
    obtain rfl := Option.some.inj h
    exact lo8_dead hK hz (kk I FP.rf hz) v3
  | inr s =>
    have hk1 := hkn s rfl
    have ho := hz.2.2.2.2.1
    have ho1 := ho.2.1
    have hf := hz.hf
    obtain ⟨d0, rfl⟩ : ∃ d0, d = d0 + 8 := ⟨d - 8, by omega⟩
    have h : l8S f n (exA f n k) dp s = some w := h
    unfold l8S at h
    have body : ∀ c : Int32, pTk s = c → (pTk s = nI 43 ∨ pTk s = nI 45) → ∀ (v3 : Value), Gw l G (d0 + 8) m2_sum 37 [.ref 2, .int (nI dp), .int (nI i), v3] [] (I, J, K) Q := by
      intro c ec hc v3
      rw [if_pos hc] at h
      obtain ⟨w2, h1, h2⟩ := loS_some h
      refine e_aload_n rfl rfl ?_
      refine e_getP rfl f2_21 (by assumption) rfl (by assumption) ?_
      refine e_getI rfl f2_48 (by assumption) rfl ?_
      rw [hz.tk]
      refine e_ist3 rfl rfl rfl ?_
      refine e_aload_n rfl rfl ?_
      refine e_callV (kd := 2) (M2 := m2_knot) rfl v2_177 ok2_knot (c2_knot (d := d0 + 1) hK hz) rfl (by assumption) rfl rfl rfl rfl (fun r1 h1 q1 => ?_)
      obtain ⟨rfl, I1, rfl, g1, L1⟩ := q1
      refine e_aload_n rfl rfl ?_
      refine e_iload_n rfl rfl ?_
      refine e_callV (kd := 2) (M2 := m2_product) rfl v2_193 ok2_product (hS dp hdp (d0 + 7) (by omega) I1 _ w2 L1 h1) rfl (by assumption) rfl rfl rfl rfl (fun r1 h1 q1 => ?_)
      obtain ⟨rfl, I2, rfl, g2, L2⟩ := q1
      refine e_aload_n rfl rfl ?_
      refine e_iload_n rfl rfl ?_
      refine e_ineg rfl ?_
      refine e_callV (kd := 2) (M2 := m2_emit) rfl v2_180 ok2_emit (c2_emit (d := d0 + 6) hK L2 (-pTk s) (fun s2 e => by subst e; exact (knE hf (by omega) ho h1).1)) rfl (by assumption) rfl rfl rfl rfl (fun r1 h1 q1 => ?_)
      obtain ⟨rfl, I3, rfl, g3, L3⟩ := q1
      first | refine e_inc2 rfl rfl rfl (incN1 _) ?_ | refine e_inc2 rfl rfl rfl rfl ?_
      refine e_goto (tgt := 7) rfl rfl ?_
      refine hL dp hdp (d0 + 8) (by omega) I3 _ w (i + 1) L3 h2 (fun s3 e3 => ?_) Q (fun I4 g4 L4 => kk I4 (((g1.tr g2).tr g3).tr g4) L4) _
      obtain ⟨s2, e2, e3⟩ := bnd_inr e3
      subst e2
      have kq := knE hf (by omega) ho h1
      obtain ⟨s1, j1, j2⟩ := obd_inr h1
      obtain ⟨g, a, e5, e4, b, -⟩ := knS_ok hf ho (Option.some.inj j1)
      have o1 : Okp n s1 := ⟨a, b, by have := ho.2.2; omega⟩
      obtain ⟨gg2, o2, l2⟩ := exA_ok hf k _ _ _ _ o1 j2
      have em := (em_ok (v := -pTk s) hf ho (Option.some.inj j1) gg2 o2).2.2 s3 e3
      have x5 : (pP s3).1 5 = (pP s2).1 5 := by
        have := em_ok (v := -pTk s) hf ho (Option.some.inj j1) gg2 o2
        have e3 : emS (-pTk s) s2 = .inr s3 := e3
        rw [this.2.1] at e3
        obtain rfl := Sum.inr.inj e3
        rfl
      have := kq.2.1
      omega
    refine e_iload_n rfl rfl ?_
    refine e_bipush (v := nI 64) rfl bp_64N ?_
    first | refine e_icmp_geN (tgt := 66) rfl rfl (by omega) (by omega) (fun z => ?_) (fun z => ?_) | refine e_icmp_ge (tgt := 66) rfl rfl (fun z => ?_) (fun z => ?_)
    · omega
    · refine e_aload_n rfl rfl ?_
      refine e_getP rfl f2_21 (by assumption) rfl (by assumption) ?_
      refine e_getI rfl f2_48 (by assumption) rfl ?_
      rw [hz.tk]
      refine e_bipush (v := nI 43) rfl bp_43N ?_
      refine e_icmp_eq (tgt := 37) rfl rfl (fun z => ?_) (fun z => ?_)
      · exact body _ rfl (Or.inl z) _
      · refine e_aload_n rfl rfl ?_
        refine e_getP rfl f2_21 (by assumption) rfl (by assumption) ?_
        refine e_getI rfl f2_48 (by assumption) rfl ?_
        rw [hz.tk]
        refine e_bipush (v := nI 45) rfl bp_45N ?_
        refine e_icmp_ne (tgt := 66) rfl rfl (fun y => ?_) (fun y => ?_)
        · refine e_return rfl rfl ?_
          rw [if_neg (fun q => q.elim z y)] at h
          obtain rfl := Option.some.inj h
          exact kk I FP.rf hz
        · exact body _ rfl (Or.inr y) _
def LOc9 (l : Launch) (G : GG) (J : JM) (K : Kt) (f : Nat → Nat) (n k : Nat) : Prop := ∀ dp, dp ≤ 8 → ∀ d, 8 * (8 - dp) + 5 + 9 ≤ d → ∀ I zz w i, Lz I f n zz → obd (some zz) (exA f n k 9 dp) = some w → (∀ s, zz = .inr s → 2 * i + 1 ≤ (pP s).1 5) → ∀ (Q : Option Value → Hp → Prop), (∀ I2, FP I I2 → Lz I2 f n w → Q none (I2, J, K)) → ∀ (v3 : Value), Gw l G d m2_both 7 [.ref 2, .int (nI dp), .int (nI i)] [] (I, J, K) Q
theorem lo9_dead (hK : PK K) {e : Nat × Nat} (hz : Lz I f n (.inl e)) {dp i : Nat} (kk : Q none (I, J, K)) (v3 : Value) : Gw l G d m2_both 7 [.ref 2, .int (nI dp), .int (nI i)] [] (I, J, K) Q := by
  obtain ⟨k2, p20, p21, hP3, k5, p0, a31, p1, a1⟩ := hK
  refine e_iload_n rfl rfl ?_
  refine e_bipush (v := nI 64) rfl bp_64N ?_
  first | refine e_icmp_geN (tgt := 46) rfl rfl (by omega) (by omega) (fun z => ?_) (fun z => ?_) | refine e_icmp_ge (tgt := 46) rfl rfl (fun z => ?_) (fun z => ?_)
  · refine e_return rfl rfl ?_
    exact kk
  · refine e_aload_n rfl rfl ?_
    refine e_getP rfl f2_21 (by assumption) rfl (by assumption) ?_
    refine e_getI rfl f2_48 (by assumption) rfl ?_
    rw [hz.dead]
    refine e_bipush (v := nI 20) rfl bp_20N ?_
    refine e_icmp_ne (tgt := 46) rfl rfl (fun _ => ?_) (fun z => absurd z (by decide))
    refine e_return rfl rfl ?_
    exact kk
theorem lo9_step (hK : PK K) {k : Nat} (hS : EXc l G J K f n k 4) (hL : LOc9 l G J K f n k) : LOc9 l G J K f n (k + 1) := by
  intro dp hdp d hd I zz w i hz h hkn Q kk v3
  have hK2 := hK
  obtain ⟨k2, p20, p21, hP3, k5, p0, a31, p1, a1⟩ := hK2
  cases zz with
  | inl e =>
    obtain rfl := Option.some.inj h
    exact lo9_dead hK hz (kk I FP.rf hz) v3
  | inr s =>
    have hk1 := hkn s rfl
    have ho := hz.2.2.2.2.1
    have ho1 := ho.2.1
    have hf := hz.hf
    obtain ⟨d0, rfl⟩ : ∃ d0, d = d0 + 8 := ⟨d - 8, by omega⟩
    have h : l9S f n (exA f n k) dp s = some w := h
    unfold l9S at h
    have body : ∀ c : Int32, pTk s = c → (pTk s = nI 20) → ∀ (v3 : Value), Gw l G (d0 + 8) m2_both 25 [.ref 2, .int (nI dp), .int (nI i)] [] (I, J, K) Q := by
      intro c ec hc v3
      rw [if_pos hc] at h
      obtain ⟨w2, h1, h2⟩ := loS_some h
      have en : (-20 : Int32) = -pTk s := by rw [hc]; decide
      refine e_aload_n rfl rfl ?_
      refine e_callV (kd := 2) (M2 := m2_knot) rfl v2_177 ok2_knot (c2_knot (d := d0 + 1) hK hz) rfl (by assumption) rfl rfl rfl rfl (fun r1 h1 q1 => ?_)
      obtain ⟨rfl, I1, rfl, g1, L1⟩ := q1
      refine e_aload_n rfl rfl ?_
      refine e_iload_n rfl rfl ?_
      refine e_callV (kd := 2) (M2 := m2_denied) rfl v2_181 ok2_denied (hS dp hdp (d0 + 7) (by omega) I1 _ w2 L1 h1) rfl (by assumption) rfl rfl rfl rfl (fun r1 h1 q1 => ?_)
      obtain ⟨rfl, I2, rfl, g2, L2⟩ := q1
      refine e_aload_n rfl rfl ?_
      refine e_bipush rfl bp_m20 ?_
      rw [en]
      refine e_callV (kd := 2) (M2 := m2_emit) rfl v2_180 ok2_emit (c2_emit (d := d0 + 6) hK L2 (-pTk s) (fun s2 e => by subst e; exact (knE hf (by omega) ho h1).1)) rfl (by assumption) rfl rfl rfl rfl (fun r1 h1 q1 => ?_)
      obtain ⟨rfl, I3, rfl, g3, L3⟩ := q1
      first | refine e_inc2 rfl rfl rfl (incN1 _) ?_ | refine e_inc2 rfl rfl rfl rfl ?_
      refine e_goto (tgt := 7) rfl rfl ?_
      refine hL dp hdp (d0 + 8) (by omega) I3 _ w (i + 1) L3 h2 (fun s3 e3 => ?_) Q (fun I4 g4 L4 => kk I4 (((g1.tr g2).tr g3).tr g4) L4) .null
      obtain ⟨s2, e2, e3⟩ := bnd_inr e3
      subst e2
      have kq := knE hf (by omega) ho h1
      obtain ⟨s1, j1, j2⟩ := obd_inr h1
      obtain ⟨g, a, e5, e4, b, -⟩ := knS_ok hf ho (Option.some.inj j1)
      have o1 : Okp n s1 := ⟨a, b, by have := ho.2.2; omega⟩
      obtain ⟨gg2, o2, l2⟩ := exA_ok hf k _ _ _ _ o1 j2
      have em := (em_ok (v := -pTk s) hf ho (Option.some.inj j1) gg2 o2).2.2 s3 e3
      have x5 : (pP s3).1 5 = (pP s2).1 5 := by
        have := em_ok (v := -pTk s) hf ho (Option.some.inj j1) gg2 o2
        have e3 : emS (-pTk s) s2 = .inr s3 := e3
        rw [this.2.1] at e3
        obtain rfl := Sum.inr.inj e3
        rfl
      have := kq.2.1
      omega
    refine e_iload_n rfl rfl ?_
    refine e_bipush (v := nI 64) rfl bp_64N ?_
    first | refine e_icmp_geN (tgt := 46) rfl rfl (by omega) (by omega) (fun z => ?_) (fun z => ?_) | refine e_icmp_ge (tgt := 46) rfl rfl (fun z => ?_) (fun z => ?_)
    · omega
    · refine e_aload_n rfl rfl ?_
      refine e_getP rfl f2_21 (by assumption) rfl (by assumption) ?_
      refine e_getI rfl f2_48 (by assumption) rfl ?_
      rw [hz.tk]
      refine e_bipush (v := nI 20) rfl bp_20N ?_
      refine e_icmp_ne (tgt := 46) rfl rfl (fun y => ?_) (fun y => ?_)
      · refine e_return rfl rfl ?_
        rw [if_neg y] at h
        obtain rfl := Option.some.inj h
        exact kk I FP.rf hz
      · exact body _ rfl y .null
def LOc10 (l : Launch) (G : GG) (J : JM) (K : Kt) (f : Nat → Nat) (n k : Nat) : Prop := ∀ dp, dp ≤ 8 → ∀ d, 8 * (8 - dp) + 6 + 9 ≤ d → ∀ I zz w i, Lz I f n zz → obd (some zz) (exA f n k 10 dp) = some w → (∀ s, zz = .inr s → 2 * i + 1 ≤ (pP s).1 5) → ∀ (Q : Option Value → Hp → Prop), (∀ I2, FP I I2 → Lz I2 f n w → Q none (I2, J, K)) → ∀ (v3 : Value), Gw l G d m2_either 7 [.ref 2, .int (nI dp), .int (nI i)] [] (I, J, K) Q
theorem lo10_dead (hK : PK K) {e : Nat × Nat} (hz : Lz I f n (.inl e)) {dp i : Nat} (kk : Q none (I, J, K)) (v3 : Value) : Gw l G d m2_either 7 [.ref 2, .int (nI dp), .int (nI i)] [] (I, J, K) Q := by
  obtain ⟨k2, p20, p21, hP3, k5, p0, a31, p1, a1⟩ := hK
  refine e_iload_n rfl rfl ?_
  refine e_bipush (v := nI 64) rfl bp_64N ?_
  first | refine e_icmp_geN (tgt := 46) rfl rfl (by omega) (by omega) (fun z => ?_) (fun z => ?_) | refine e_icmp_ge (tgt := 46) rfl rfl (fun z => ?_) (fun z => ?_)
  · refine e_return rfl rfl ?_
    exact kk
  · refine e_aload_n rfl rfl ?_
    refine e_getP rfl f2_21 (by assumption) rfl (by assumption) ?_
    refine e_getI rfl f2_48 (by assumption) rfl ?_
    rw [hz.dead]
    refine e_bipush (v := nI 21) rfl bp_21N ?_
    refine e_icmp_ne (tgt := 46) rfl rfl (fun _ => ?_) (fun z => absurd z (by decide))
    refine e_return rfl rfl ?_
    exact kk
theorem lo10_step (hK : PK K) {k : Nat} (hS : EXc l G J K f n k 5) (hL : LOc10 l G J K f n k) : LOc10 l G J K f n (k + 1) := by
  intro dp hdp d hd I zz w i hz h hkn Q kk v3
  have hK2 := hK
  obtain ⟨k2, p20, p21, hP3, k5, p0, a31, p1, a1⟩ := hK2
  cases zz with
  | inl e =>
    obtain rfl := Option.some.inj h
    exact lo10_dead hK hz (kk I FP.rf hz) v3
  | inr s =>
    have hk1 := hkn s rfl
    have ho := hz.2.2.2.2.1
    have ho1 := ho.2.1
    have hf := hz.hf
    obtain ⟨d0, rfl⟩ : ∃ d0, d = d0 + 8 := ⟨d - 8, by omega⟩
    have h : l10S f n (exA f n k) dp s = some w := h
    unfold l10S at h
    have body : ∀ c : Int32, pTk s = c → (pTk s = nI 21) → ∀ (v3 : Value), Gw l G (d0 + 8) m2_either 25 [.ref 2, .int (nI dp), .int (nI i)] [] (I, J, K) Q := by
      intro c ec hc v3
      rw [if_pos hc] at h
      obtain ⟨w2, h1, h2⟩ := loS_some h
      have en : (-21 : Int32) = -pTk s := by rw [hc]; decide
      refine e_aload_n rfl rfl ?_
      refine e_callV (kd := 2) (M2 := m2_knot) rfl v2_177 ok2_knot (c2_knot (d := d0 + 1) hK hz) rfl (by assumption) rfl rfl rfl rfl (fun r1 h1 q1 => ?_)
      obtain ⟨rfl, I1, rfl, g1, L1⟩ := q1
      refine e_aload_n rfl rfl ?_
      refine e_iload_n rfl rfl ?_
      refine e_callV (kd := 2) (M2 := m2_both) rfl v2_174 ok2_both (hS dp hdp (d0 + 7) (by omega) I1 _ w2 L1 h1) rfl (by assumption) rfl rfl rfl rfl (fun r1 h1 q1 => ?_)
      obtain ⟨rfl, I2, rfl, g2, L2⟩ := q1
      refine e_aload_n rfl rfl ?_
      refine e_bipush rfl bp_m21 ?_
      rw [en]
      refine e_callV (kd := 2) (M2 := m2_emit) rfl v2_180 ok2_emit (c2_emit (d := d0 + 6) hK L2 (-pTk s) (fun s2 e => by subst e; exact (knE hf (by omega) ho h1).1)) rfl (by assumption) rfl rfl rfl rfl (fun r1 h1 q1 => ?_)
      obtain ⟨rfl, I3, rfl, g3, L3⟩ := q1
      first | refine e_inc2 rfl rfl rfl (incN1 _) ?_ | refine e_inc2 rfl rfl rfl rfl ?_
      refine e_goto (tgt := 7) rfl rfl ?_
      refine hL dp hdp (d0 + 8) (by omega) I3 _ w (i + 1) L3 h2 (fun s3 e3 => ?_) Q (fun I4 g4 L4 => kk I4 (((g1.tr g2).tr g3).tr g4) L4) .null
      obtain ⟨s2, e2, e3⟩ := bnd_inr e3
      subst e2
      have kq := knE hf (by omega) ho h1
      obtain ⟨s1, j1, j2⟩ := obd_inr h1
      obtain ⟨g, a, e5, e4, b, -⟩ := knS_ok hf ho (Option.some.inj j1)
      have o1 : Okp n s1 := ⟨a, b, by have := ho.2.2; omega⟩
      obtain ⟨gg2, o2, l2⟩ := exA_ok hf k _ _ _ _ o1 j2
      have em := (em_ok (v := -pTk s) hf ho (Option.some.inj j1) gg2 o2).2.2 s3 e3
      have x5 : (pP s3).1 5 = (pP s2).1 5 := by
        have := em_ok (v := -pTk s) hf ho (Option.some.inj j1) gg2 o2
        have e3 : emS (-pTk s) s2 = .inr s3 := e3
        rw [this.2.1] at e3
        obtain rfl := Sum.inr.inj e3
        rfl
      have := kq.2.1
      omega
    refine e_iload_n rfl rfl ?_
    refine e_bipush (v := nI 64) rfl bp_64N ?_
    first | refine e_icmp_geN (tgt := 46) rfl rfl (by omega) (by omega) (fun z => ?_) (fun z => ?_) | refine e_icmp_ge (tgt := 46) rfl rfl (fun z => ?_) (fun z => ?_)
    · omega
    · refine e_aload_n rfl rfl ?_
      refine e_getP rfl f2_21 (by assumption) rfl (by assumption) ?_
      refine e_getI rfl f2_48 (by assumption) rfl ?_
      rw [hz.tk]
      refine e_bipush (v := nI 21) rfl bp_21N ?_
      refine e_icmp_ne (tgt := 46) rfl rfl (fun y => ?_) (fun y => ?_)
      · refine e_return rfl rfl ?_
        rw [if_neg y] at h
        obtain rfl := Option.some.inj h
        exact kk I FP.rf hz
      · exact body _ rfl y .null
end MExp
