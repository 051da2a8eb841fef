/-! ===== the reference: numerals, NAMES, counts ===== -/
section MRead2
variable {l : Launch} {G : GG} {d : Nat} {I : IM} {J : JM} {K : Kt} {h : Hp} {Q : Option Value → Hp → Prop} {f : Nat → Nat} {n : Nat} {zz : PR}
/-- an answer, and how far one has come -/
abbrev CMi (l : Launch) (G : GG) (d : Nat) (M : MD) (as : List Value) (I : IM) (J : JM) (K : Kt) (n : Nat) (zz : PR) (g : PSt → PR) (a : PSt → Int32) : Prop := Cw l G d M as (I, J, K) (fun r h' => ∃ v, r = some (.int v) ∧ ∃ I', h' = (I', J, K) ∧ FT I I' ∧ Tz I' n (bnd zz g) ∧ ∀ s s', zz = .inr s → g s = .inr s' → v = a s)
theorem c10_numeral (hM : MK K) (hX : TX I f n) (hz : Tz I n zz) {lo hi : Nat} (hlo : lo ≤ hi) (hhi : hi ≤ 99999) : CMi l G (d + 6) m10_numeral [.ref 102, .int (nI lo), .int (nI hi)] I J K n zz (nuS f n (nI lo) (nI hi)) pVa := by
  cases zz with
  | inl e =>
    have h3 := hz.2.2.1
    have h1 := hz.1
    have h2 := hz.2.1
    refine Cw.of ok10_numeral rfl (rfl : argL _ _ = [.ref 102, .int (nI lo), .int (nI hi), .null]) ?_
    refine e_aload_n rfl rfl ?_
    refine e_getI rfl f10_205 hM.k rfl ?_
    rw [h3]
    first | refine e_if_eqB (tgt := 9) rfl rfl (fun z => ?_) (fun z => ?_) | refine e_if_eqN (tgt := 9) rfl rfl (by omega) (fun z => ?_) (fun z => ?_) | refine e_if_eq (tgt := 9) rfl rfl (fun z => ?_) (fun z => ?_)
    · exact absurd (by assumption) h1
    · refine e_iload_n rfl rfl ?_
      refine e_ireturn rfl rfl ?_
      exact ⟨_, rfl, I, rfl, FT.rf, hz, fun s s' q => absurd q (by simp)⟩
  | inr s =>
    have h3 := hz.1
    have R : tkR (pTk s) (pVa s) (I 102 26) (I 102 27) := hz.2.2.2.2.1
    have dead : ∀ k (I1 : IM), k = 1 ∨ k = 2 → FT I I1 → Tz I1 n (flS k s) → nuS f n (nI lo) (nI hi) s = flS k s → Gw l G (d + 6) m10_numeral 46 [.ref 102, .int (nI lo), .int (nI hi), .null] [] (I1, J, K) (fun r h' => ∃ v, r = some (.int v) ∧ ∃ I', h' = (I', J, K) ∧ FT I I' ∧ Tz I' n (bnd (.inr s) (nuS f n (nI lo) (nI hi))) ∧ ∀ s1 s', (.inr s : PR) = .inr s1 → nuS f n (nI lo) (nI hi) s1 = .inr s' → v = pVa s1) := by
      intro k I1 hk g1 L1 e1
      have e28 : I1 102 28 = nI k := L1.2.2.1
      refine e_aload_n rfl rfl ?_
      refine e_getI rfl f10_205 hM.k rfl ?_
      rw [e28]
      first | refine e_if_eqB (tgt := 55) rfl rfl (fun z => ?_) (fun z => ?_) | refine e_if_eqN (tgt := 55) rfl rfl (by omega) (fun z => ?_) (fun z => ?_) | refine e_if_eq (tgt := 55) rfl rfl (fun z => ?_) (fun z => ?_)
      · omega
      · refine e_iload_n rfl rfl ?_
        refine e_ireturn rfl rfl ?_
        refine ⟨_, rfl, I1, rfl, g1, ?_, fun s1 s' q w => ?_⟩
        · show Tz I1 n (nuS f n (nI lo) (nI hi) s)
          rw [e1]; exact L1
        · rw [← Sum.inr.inj q, e1] at w
          exact absurd w (by simp [flS])
    refine Cw.of ok10_numeral rfl (rfl : argL _ _ = [.ref 102, .int (nI lo), .int (nI hi), .null]) ?_
    refine e_aload_n rfl rfl ?_
    refine e_getI rfl f10_205 hM.k rfl ?_
    rw [h3]
    first | refine e_if_eqB (tgt := 9) rfl rfl (fun z => ?_) (fun z => ?_) | refine e_if_eqN (tgt := 9) rfl rfl (by omega) (fun z => ?_) (fun z => ?_) | refine e_if_eq (tgt := 9) rfl rfl (fun z => ?_) (fun z => ?_)
    · refine e_aload_n rfl rfl ?_
      refine e_getI rfl f10_170 hM.k rfl ?_
      refine e_iconst (v := nI 2) rfl ic_2N ?_
      refine e_icmp_eq (tgt := 25) rfl rfl (fun z => ?_) (fun z => ?_)
      · have t23 : pTk s = nI 23 := R.e2.mp z
        obtain ⟨v, w, ev, ew, hv, hw, hvw⟩ := R.va2 t23
        have ev : pVa s = nI v := ev
        have bad : (v < lo ∨ hi < v) → nuS f n (nI lo) (nI hi) s = flS 2 s := fun q => by
          unfold nuS
          rw [if_pos t23, ev, if_pos]
          exact q.elim (fun a => Or.inl ((nI_ltI (by omega) (by omega)).mpr a)) (fun a => Or.inr ((nI_ltI (by omega) (by omega)).mpr a))
        have good : ¬ (v < lo ∨ hi < v) → nuS f n (nI lo) (nI hi) s = avS f n s := fun q => by
          unfold nuS
          rw [if_pos t23, ev, if_neg]
          exact fun a => q (a.elim (fun a => Or.inl ((nI_ltI (by omega) (by omega)).mp a)) (fun a => Or.inr ((nI_ltI (by omega) (by omega)).mp a)))
        refine e_aload_n rfl rfl ?_
        refine e_getI rfl f10_180 hM.k rfl ?_
        rw [ew]
        refine e_iload_n rfl rfl ?_
        first | refine e_icmp_ltN (tgt := 41) rfl rfl (by omega) (by omega) (fun z => ?_) (fun z => ?_) | refine e_icmp_lt (tgt := 41) rfl rfl (fun z => ?_) (fun z => ?_)
        · have y : w < lo := by assumption
          refine e_aload_n rfl rfl ?_
          refine e_iconst (v := nI 2) rfl ic_2N ?_
          refine e_callV (kd := 10) (M2 := m10_wrong) rfl v10_214 ok10_wrong (c10_wrongM hM hz (k := 2) (by omega) (by omega)) rfl hM.k rfl rfl rfl rfl (fun r1 h1 q1 => ?_)
          obtain ⟨rfl, I1, rfl, g1, L1⟩ := q1
          exact dead 2 I1 (by omega) g1 L1 (bad (by omega))
        · have y : lo ≤ w := by omega
          refine e_aload_n rfl rfl ?_
          refine e_getI rfl f10_180 hM.k rfl ?_
          rw [ew]
          refine e_iload_n rfl rfl ?_
          first | refine e_icmp_leN (tgt := 46) rfl rfl (by omega) (by omega) (fun z => ?_) (fun z => ?_) | refine e_icmp_le (tgt := 46) rfl rfl (fun z => ?_) (fun z => ?_)
          · have y2 : w ≤ hi := by assumption
            have evw : v = w := by omega
            refine e_aload_n rfl rfl ?_
            refine e_getI rfl f10_205 hM.k rfl ?_
            rw [h3]
            first | refine e_if_eqB (tgt := 55) rfl rfl (fun z => ?_) (fun z => ?_) | refine e_if_eqN (tgt := 55) rfl rfl (by omega) (fun z => ?_) (fun z => ?_) | refine e_if_eq (tgt := 55) rfl rfl (fun z => ?_) (fun z => ?_)
            · refine e_aload_n rfl rfl ?_
              refine e_getI rfl f10_180 hM.k rfl ?_
              refine e_ist3 rfl rfl rfl ?_
              refine e_aload_n rfl rfl ?_
              refine e_callV (kd := 10) (M2 := m10_token) rfl v10_211 ok10_token (c10_tokenM hM hX hz (by rw [t23]; decide)) rfl hM.k rfl rfl rfl rfl (fun r1 h1 q1 => ?_)
              obtain ⟨rfl, I1, rfl, g1, L1⟩ := q1
              refine e_iload_n rfl rfl ?_
              refine e_ireturn rfl rfl ?_
              refine ⟨_, rfl, I1, rfl, g1, ?_, fun s1 s' q _ => ?_⟩
              · show Tz I1 n (nuS f n (nI lo) (nI hi) s)
                rw [good (by omega)]; exact L1
              · rw [← Sum.inr.inj q, ew, ev, evw]
            · omega
          · refine e_aload_n rfl rfl ?_
            refine e_iconst (v := nI 2) rfl ic_2N ?_
            refine e_callV (kd := 10) (M2 := m10_wrong) rfl v10_214 ok10_wrong (c10_wrongM hM hz (k := 2) (by omega) (by omega)) rfl hM.k rfl rfl rfl rfl (fun r1 h1 q1 => ?_)
            obtain ⟨rfl, I1, rfl, g1, L1⟩ := q1
            exact dead 2 I1 (by omega) g1 L1 (bad (by omega))
      · refine e_aload_n rfl rfl ?_
        refine e_iconst (v := nI 1) rfl ic_1N ?_
        refine e_callV (kd := 10) (M2 := m10_wrong) rfl v10_214 ok10_wrong (c10_wrongM hM hz (k := 1) (by omega) (by omega)) rfl hM.k rfl rfl rfl rfl (fun r1 h1 q1 => ?_)
        obtain ⟨rfl, I1, rfl, g1, L1⟩ := q1
        refine e_goto (tgt := 46) rfl rfl ?_
        exact dead 1 I1 (by omega) g1 L1 (by unfold nuS; rw [if_neg (fun q => z (R.e2.mpr q))])
    · omega
theorem c10_fresh (hM : MK K) (hX : TX I f n) (hz : Tz I n zz) {a m o c j b : Nat} (ha : K.2.1 a = (20, m)) (hm : o + c ≤ m) (hm2 : m ≤ 200) (hj : ∀ s, zz = .inr s → fnd (fun q => I a (o + q)) (pVa s) c 0 = fnd ((pP s).2 b) (pVa s) ((pP s).1 j) 0) : CMi l G (d + 6) m10_fresh [.ref 102, .ref a, .int (nI o), .int (nI c)] I J K n zz (nnS f n j b) pVa := by
  cases zz with
  | inl e =>
    have h3 := hz.2.2.1
    have h1 := hz.1
    have h2 := hz.2.1
    refine Cw.of ok10_fresh rfl (rfl : argL _ _ = [.ref 102, .ref a, .int (nI o), .int (nI c), .null]) ?_
    refine e_aload_n rfl rfl ?_
    refine e_getI rfl f10_205 hM.k rfl ?_
    rw [h3]
    first | refine e_if_eqB (tgt := 9) rfl rfl (fun z => ?_) (fun z => ?_) | refine e_if_eqN (tgt := 9) rfl rfl (by omega) (fun z => ?_) (fun z => ?_) | refine e_if_eq (tgt := 9) rfl rfl (fun z => ?_) (fun z => ?_)
    · exact absurd (by assumption) h1
    · refine e_iconst (v := nI 0) rfl ic_0N ?_
      refine e_ireturn rfl rfl ?_
      exact ⟨_, rfl, I, rfl, FT.rf, hz, fun s s' q => absurd q (by simp)⟩
  | inr s =>
    have h3 := hz.1
    have R : tkR (pTk s) (pVa s) (I 102 26) (I 102 27) := hz.2.2.2.2.1
    have ej := hj s rfl
    have dead : ∀ k (I1 : IM), k = 1 ∨ k = 3 → FT I I1 → Tz I1 n (flS k s) → nnS f n j b s = flS k s → Gw l G (d + 6) m10_fresh 44 [.ref 102, .ref a, .int (nI o), .int (nI c), .null] [] (I1, J, K) (fun r h' => ∃ v, r = some (.int v) ∧ ∃ I', h' = (I', J, K) ∧ FT I I' ∧ Tz I' n (bnd (.inr s) (nnS f n j b)) ∧ ∀ s1 s', (.inr s : PR) = .inr s1 → nnS f n j b s1 = .inr s' → v = pVa s1) := by
      intro k I1 hk g1 L1 e1
      have e28 : I1 102 28 = nI k := L1.2.2.1
      refine e_aload_n rfl rfl ?_
      refine e_getI rfl f10_205 hM.k rfl ?_
      rw [e28]
      first | refine e_if_eqB (tgt := 53) rfl rfl (fun z => ?_) (fun z => ?_) | refine e_if_eqN (tgt := 53) rfl rfl (by omega) (fun z => ?_) (fun z => ?_) | refine e_if_eq (tgt := 53) rfl rfl (fun z => ?_) (fun z => ?_)
      · omega
      · refine e_iconst (v := nI 0) rfl ic_0N ?_
        refine e_ireturn rfl rfl ?_
        refine ⟨_, rfl, I1, rfl, g1, ?_, fun s1 s' q w => ?_⟩
        · show Tz I1 n (nnS f n j b s)
          rw [e1]; exact L1
        · rw [← Sum.inr.inj q, e1] at w
          exact absurd w (by simp [flS])
    refine Cw.of ok10_fresh rfl (rfl : argL _ _ = [.ref 102, .ref a, .int (nI o), .int (nI c), .null]) ?_
    refine e_aload_n rfl rfl ?_
    refine e_getI rfl f10_205 hM.k rfl ?_
    rw [h3]
    first | refine e_if_eqB (tgt := 9) rfl rfl (fun z => ?_) (fun z => ?_) | refine e_if_eqN (tgt := 9) rfl rfl (by omega) (fun z => ?_) (fun z => ?_) | refine e_if_eq (tgt := 9) rfl rfl (fun z => ?_) (fun z => ?_)
    · refine e_aload_n rfl rfl ?_
      refine e_getI rfl f10_170 hM.k rfl ?_
      refine e_iconst (v := nI 1) rfl ic_1N ?_
      refine e_icmp_eq (tgt := 25) rfl rfl (fun z => ?_) (fun z => ?_)
      · have t22 : pTk s = nI 22 := R.e1.mp z
        have ev : I 102 27 = pVa s := R.va1 t22
        refine e_aload_n rfl rfl ?_
        refine e_iload_n rfl rfl ?_
        refine e_iload_n rfl rfl ?_
        refine e_aload_n rfl rfl ?_
        refine e_getI rfl f10_180 hM.k rfl ?_
        rw [ev]
        refine e_callSp (M2 := m10_found) rfl v10_217 ok10_found (c10_found _ ha hm hm2) rfl rfl rfl ?_
        rw [ej]
        refine e_iconst rfl ic_m1 ?_
        refine e_icmp_eq (tgt := 44) rfl rfl (fun y => ?_) (fun y => ?_)
        · refine e_aload_n rfl rfl ?_
          refine e_getI rfl f10_205 hM.k rfl ?_
          rw [h3]
          first | refine e_if_eqB (tgt := 53) rfl rfl (fun z => ?_) (fun z => ?_) | refine e_if_eqN (tgt := 53) rfl rfl (by omega) (fun z => ?_) (fun z => ?_) | refine e_if_eq (tgt := 53) rfl rfl (fun z => ?_) (fun z => ?_)
          · refine e_aload_n rfl rfl ?_
            refine e_getI rfl f10_180 hM.k rfl ?_
            rw [ev]
            refine e_ist4 rfl rfl rfl ?_
            refine e_aload_n rfl rfl ?_
            refine e_callV (kd := 10) (M2 := m10_token) rfl v10_211 ok10_token (c10_tokenM hM hX hz (by rw [t22]; decide)) rfl hM.k rfl rfl rfl rfl (fun r1 h1 q1 => ?_)
            obtain ⟨rfl, I1, rfl, g1, L1⟩ := q1
            refine e_iload rfl rfl ?_
            refine e_ireturn rfl rfl ?_
            refine ⟨_, rfl, I1, rfl, g1, ?_, fun s1 s' q _ => by rw [← Sum.inr.inj q]⟩
            show Tz I1 n (nnS f n j b s)
            unfold nnS
            rw [if_pos t22, if_pos y]; exact L1
          · omega
        · refine e_aload_n rfl rfl ?_
          refine e_iconst (v := nI 3) rfl ic_3N ?_
          refine e_callV (kd := 10) (M2 := m10_wrong) rfl v10_214 ok10_wrong (c10_wrongM hM hz (k := 3) (by omega) (by omega)) rfl hM.k rfl rfl rfl rfl (fun r1 h1 q1 => ?_)
          obtain ⟨rfl, I1, rfl, g1, L1⟩ := q1
          exact dead 3 I1 (by omega) g1 L1 (by unfold nnS; rw [if_pos t22, if_neg y])
      · refine e_aload_n rfl rfl ?_
        refine e_iconst (v := nI 1) rfl ic_1N ?_
        refine e_callV (kd := 10) (M2 := m10_wrong) rfl v10_214 ok10_wrong (c10_wrongM hM hz (k := 1) (by omega) (by omega)) rfl hM.k rfl rfl rfl rfl (fun r1 h1 q1 => ?_)
        obtain ⟨rfl, I1, rfl, g1, L1⟩ := q1
        refine e_goto (tgt := 44) rfl rfl ?_
        exact dead 1 I1 (by omega) g1 L1 (by unfold nnS; rw [if_neg (fun q => z (R.e1.mpr q))])
    · omega
theorem c10_toldAhead (hM : MK K) (hX : TX I f n) (hz : Tz I n zz) {a m o c j b : Nat} (ha : K.2.1 a = (20, m)) (hm : o + c ≤ m) (hm2 : m ≤ 200) (hj : ∀ s, zz = .inr s → fnd (fun q => I a (o + q)) (pVa s) c 0 = fnd ((pP s).2 b) (pVa s) ((pP s).1 j) 0) : CMi l G (d + 7) m10_toldAhead [.ref 102, .ref a, .int (nI o), .int (nI c)] I J K n zz (tnS f n j b) (fun s => fdS s j b) := by
  cases zz with
  | inl e =>
    have h3 := hz.2.2.1
    have h1 := hz.1
    have h2 := hz.2.1
    refine Cw.of ok10_toldAhead rfl (rfl : argL _ _ = [.ref 102, .ref a, .int (nI o), .int (nI c), .null]) ?_
    refine e_aload_n rfl rfl ?_
    refine e_getI rfl f10_205 hM.k rfl ?_
    rw [h3]
    first | refine e_if_eqB (tgt := 9) rfl rfl (fun z => ?_) (fun z => ?_) | refine e_if_eqN (tgt := 9) rfl rfl (by omega) (fun z => ?_) (fun z => ?_) | refine e_if_eq (tgt := 9) rfl rfl (fun z => ?_) (fun z => ?_)
    · exact absurd (by assumption) h1
    · refine e_iconst (v := nI 0) rfl ic_0N ?_
      refine e_ireturn rfl rfl ?_
      exact ⟨_, rfl, I, rfl, FT.rf, hz, fun s s' q => absurd q (by simp)⟩
  | inr s =>
    have h3 := hz.1
    have R : tkR (pTk s) (pVa s) (I 102 26) (I 102 27) := hz.2.2.2.2.1
    have ej := hj s rfl
    have dead : ∀ k (I1 : IM) v, k = 1 ∨ k = 4 → FT I I1 → Tz I1 n (flS k s) → tnS f n j b s = flS k s → Gw l G (d + 7) m10_toldAhead 63 [.ref 102, .ref a, .int (nI o), .int (nI c), .int v] [] (I1, J, K) (fun r h' => ∃ v, r = some (.int v) ∧ ∃ I', h' = (I', J, K) ∧ FT I I' ∧ Tz I' n (bnd (.inr s) (tnS f n j b)) ∧ ∀ s1 s', (.inr s : PR) = .inr s1 → tnS f n j b s1 = .inr s' → v = fdS s1 j b) := by
      intro k I1 v hk g1 L1 e1
      refine e_aload_n rfl rfl ?_
      refine e_callV (kd := 10) (M2 := m10_goOn) rfl v10_221 ok10_goOn (c10_goOn (f := f) hM (hX.ft g1) L1 (fun s1 q => absurd q (by simp [flS]))) rfl hM.k rfl rfl rfl rfl (fun r1 h1 q1 => ?_)
      obtain ⟨rfl, I2, rfl, g2, L2⟩ := q1
      have e28 : I2 102 28 = nI k := L2.2.2.1
      refine e_aload_n rfl rfl ?_
      refine e_getI rfl f10_205 hM.k rfl ?_
      rw [e28]
      first | refine e_if_eqB (tgt := 78) rfl rfl (fun z => ?_) (fun z => ?_) | refine e_if_eqN (tgt := 78) rfl rfl (by omega) (fun z => ?_) (fun z => ?_) | refine e_if_eq (tgt := 78) rfl rfl (fun z => ?_) (fun z => ?_)
      · omega
      · refine e_iconst (v := nI 0) rfl ic_0N ?_
        refine e_goto (tgt := 80) rfl rfl ?_
        refine e_ireturn rfl rfl ?_
        refine ⟨_, rfl, I2, rfl, g1.tr g2, ?_, fun s1 s' q w => ?_⟩
        · show Tz I2 n (tnS f n j b s)
          rw [e1]; exact L2
        · rw [← Sum.inr.inj q, e1] at w
          exact absurd w (by simp [flS])
    refine Cw.of ok10_toldAhead rfl (rfl : argL _ _ = [.ref 102, .ref a, .int (nI o), .int (nI c), .null]) ?_
    refine e_aload_n rfl rfl ?_
    refine e_getI rfl f10_205 hM.k rfl ?_
    rw [h3]
    first | refine e_if_eqB (tgt := 9) rfl rfl (fun z => ?_) (fun z => ?_) | refine e_if_eqN (tgt := 9) rfl rfl (by omega) (fun z => ?_) (fun z => ?_) | refine e_if_eq (tgt := 9) rfl rfl (fun z => ?_) (fun z => ?_)
    · refine e_aload_n rfl rfl ?_
      refine e_getI rfl f10_170 hM.k rfl ?_
      refine e_iconst (v := nI 1) rfl ic_1N ?_
      refine e_icmp_eq (tgt := 22) rfl rfl (fun z => ?_) (fun zt => ?_)
      · have t22 : pTk s = nI 22 := R.e1.mp z
        have ev : I 102 27 = pVa s := R.va1 t22
        refine e_aload_n rfl rfl ?_
        refine e_getI rfl f10_205 hM.k rfl ?_
        rw [h3]
        first | refine e_if_neB (tgt := 42) rfl rfl (fun z => ?_) (fun z => ?_) | refine e_if_neN (tgt := 42) rfl rfl (by omega) (fun z => ?_) (fun z => ?_) | refine e_if_ne (tgt := 42) rfl rfl (fun z => ?_) (fun z => ?_)
        · omega
        · refine e_aload_n rfl rfl ?_
          refine e_iload_n rfl rfl ?_
          refine e_iload_n rfl rfl ?_
          refine e_aload_n rfl rfl ?_
          refine e_getI rfl f10_180 hM.k rfl ?_
          rw [ev]
          refine e_callSp (M2 := m10_found) rfl v10_217 ok10_found (c10_found _ ha hm hm2) rfl rfl rfl ?_
          rw [ej]
          refine e_goto (tgt := 43) rfl rfl ?_
          refine e_ist4 rfl rfl rfl ?_
          refine e_aload_n rfl rfl ?_
          refine e_getI rfl f10_205 hM.k rfl ?_
          rw [h3]
          first | refine e_if_neB (tgt := 63) rfl rfl (fun z => ?_) (fun z => ?_) | refine e_if_neN (tgt := 63) rfl rfl (by omega) (fun z => ?_) (fun z => ?_) | refine e_if_ne (tgt := 63) rfl rfl (fun z => ?_) (fun z => ?_)
          · omega
          · refine e_iload rfl rfl ?_
            refine e_iconst rfl ic_m1 ?_
            refine e_icmp_ne (tgt := 63) rfl rfl (fun y => ?_) (fun y => ?_)
            · refine e_aload_n rfl rfl ?_
              refine e_callV (kd := 10) (M2 := m10_goOn) rfl v10_221 ok10_goOn (c10_goOn hM hX hz (fun s1 q => by rw [← Sum.inr.inj q, t22]; decide)) rfl hM.k rfl rfl rfl rfl (fun r1 h1 q1 => ?_)
              obtain ⟨rfl, I2, rfl, g2, L2⟩ := q1
              have L3 : Tz I2 n (avS f n s) := L2
              have e28 : I2 102 28 = nI 0 := by
                unfold avS at L3
                split at L3 <;> exact L3.1
              refine e_aload_n rfl rfl ?_
              refine e_getI rfl f10_205 hM.k rfl ?_
              rw [e28]
              first | refine e_if_eqB (tgt := 78) rfl rfl (fun z => ?_) (fun z => ?_) | refine e_if_eqN (tgt := 78) rfl rfl (by omega) (fun z => ?_) (fun z => ?_) | refine e_if_eq (tgt := 78) rfl rfl (fun z => ?_) (fun z => ?_)
              · refine e_iload rfl rfl ?_
                refine e_ireturn rfl rfl ?_
                refine ⟨_, rfl, I2, rfl, g2, ?_, fun s1 s' q _ => by rw [← Sum.inr.inj q]; rfl⟩
                show Tz I2 n (tnS f n j b s)
                unfold tnS
                rw [if_pos t22, if_neg y]; exact L3
              · omega
            · refine e_aload_n rfl rfl ?_
              refine e_iconst (v := nI 4) rfl ic_4N ?_
              refine e_callV (kd := 10) (M2 := m10_wrong) rfl v10_214 ok10_wrong (c10_wrongM hM hz (k := 4) (by omega) (by omega)) rfl hM.k rfl rfl rfl rfl (fun r1 h1 q1 => ?_)
              obtain ⟨rfl, I1, rfl, g1, L1⟩ := q1
              exact dead 4 I1 _ (by omega) g1 L1 (by unfold tnS; rw [if_pos t22, if_pos y])
      · refine e_aload_n rfl rfl ?_
        refine e_iconst (v := nI 1) rfl ic_1N ?_
        refine e_callV (kd := 10) (M2 := m10_wrong) rfl v10_214 ok10_wrong (c10_wrongM hM hz (k := 1) (by omega) (by omega)) rfl hM.k rfl rfl rfl rfl (fun r1 h1 q1 => ?_)
        obtain ⟨rfl, I1, rfl, g1, L1⟩ := q1
        have e28 : I1 102 28 = nI 1 := L1.2.2.1
        refine e_aload_n rfl rfl ?_
        refine e_getI rfl f10_205 hM.k rfl ?_
        rw [e28]
        first | refine e_if_neB (tgt := 42) rfl rfl (fun z => ?_) (fun z => ?_) | refine e_if_neN (tgt := 42) rfl rfl (by omega) (fun z => ?_) (fun z => ?_) | refine e_if_ne (tgt := 42) rfl rfl (fun z => ?_) (fun z => ?_)
        · refine e_iconst (v := nI 0) rfl ic_0N ?_
          refine e_ist4 rfl rfl rfl ?_
          refine e_aload_n rfl rfl ?_
          refine e_getI rfl f10_205 hM.k rfl ?_
          rw [e28]
          first | refine e_if_neB (tgt := 63) rfl rfl (fun z => ?_) (fun z => ?_) | refine e_if_neN (tgt := 63) rfl rfl (by omega) (fun z => ?_) (fun z => ?_) | refine e_if_ne (tgt := 63) rfl rfl (fun z => ?_) (fun z => ?_)
          · exact dead 1 I1 _ (by omega) g1 L1 (by unfold tnS; rw [if_neg (fun q => zt (R.e1.mpr q))])
          · omega
        · omega
    · omega
theorem c10_fresher (hM : MK K) {k : Nat} (hk : k < 8) : Cp l G d m10_fresher [.ref 102, .int (nI k)] (I, J, K) (.int (I 104 (8 + k))) := by
  refine Cp.of ok10_fresher rfl (rfl : argL _ _ = [.ref 102, .int (nI k)]) ?_
  refine e_aload_n rfl rfl ?_
  refine e_getP rfl f10_13 hM.k rfl hM.p3 ?_
  refine e_bipush (v := nI 8) rfl bp_8N ?_
  refine e_iload_n rfl rfl ?_
  first | refine e_iaddN rfl ?_ | refine e_iadd rfl ?_
  first | refine e_ialoadN rfl hM.a3 (by omega) (by omega) ?_ | (refine e_iaload rfl hM.a3 ?_ ?_; rotate_left)
  refine e_ireturn rfl rfl ?_
  exact ⟨rfl, rfl⟩
theorem c10_reads (hM : MK K) {k : Nat} (hk : k < 8) (v : Int32) : Cw l G d m10_reads [.ref 102, .int (nI k), .int v] (I, J, K) (fun r h' => r = none ∧ h' = (u2 I 104 (8 + k) v, J, K)) := by
  refine Cw.of ok10_reads rfl (rfl : argL _ _ = [.ref 102, .int (nI k), .int v]) ?_
  refine e_aload_n rfl rfl ?_
  refine e_getP rfl f10_13 hM.k rfl hM.p3 ?_
  refine e_bipush (v := nI 8) rfl bp_8N ?_
  refine e_iload_n rfl rfl ?_
  first | refine e_iaddN rfl ?_ | refine e_iadd rfl ?_
  refine e_iload_n rfl rfl ?_
  first | refine e_iastoreN rfl hM.a3 (by omega) (by omega) ?_ | (refine e_iastore rfl hM.a3 ?_ ?_; rotate_left)
  refine e_return rfl rfl ?_
  exact ⟨rfl, rfl⟩
theorem c10_isFull (hM : MK K) {w a b c e : Nat} (hw : w < 21) (ha : I 104 (8 + 0) = nI a) (ha6 : a ≤ 6) (hb : I 104 (8 + 1) = nI b) (hb8 : b ≤ 8) (hc : I 104 (8 + 2) = nI c) (hc10 : c ≤ 10) (he : I 104 (8 + 3) = nI e) (he8 : e ≤ 8) : Cp l G (d + 1) m10_isFull [.ref 102, .int (nI w)] (I, J, K) (.int (bI (decide (w = 0 ∧ a = 6 ∨ w = 1 ∧ b = 8 ∨ w = 2 ∧ c = 10 ∨ w = 3 ∧ e = 8)))) := by
  have yes : (w = 0 ∧ a = 6 ∨ w = 1 ∧ b = 8 ∨ w = 2 ∧ c = 10 ∨ w = 3 ∧ e = 8) → Gw l G (d + 1) m10_isFull 59 [.ref 102, .int (nI w)] [] (I, J, K) (fun r h' => r = some (.int (bI (decide (w = 0 ∧ a = 6 ∨ w = 1 ∧ b = 8 ∨ w = 2 ∧ c = 10 ∨ w = 3 ∧ e = 8)))) ∧ h' = (I, J, K)) := by
    intro q
    rw [decide_eq_true q]
    refine e_iconst (v := nI 1) rfl ic_1N ?_
    refine e_goto (tgt := 64) rfl rfl ?_
    refine e_zreturn rfl rfl ?_ ?_
    · exact Or.inr rfl
    · exact ⟨rfl, rfl⟩
  have no : ¬ (w = 0 ∧ a = 6 ∨ w = 1 ∧ b = 8 ∨ w = 2 ∧ c = 10 ∨ w = 3 ∧ e = 8) → Gw l G (d + 1) m10_isFull 63 [.ref 102, .int (nI w)] [] (I, J, K) (fun r h' => r = some (.int (bI (decide (w = 0 ∧ a = 6 ∨ w = 1 ∧ b = 8 ∨ w = 2 ∧ c = 10 ∨ w = 3 ∧ e = 8)))) ∧ h' = (I, J, K)) := by
    intro q
    rw [decide_eq_false q]
    refine e_iconst (v := nI 0) rfl ic_0N ?_
    refine e_zreturn rfl rfl ?_ ?_
    · exact Or.inl rfl
    · exact ⟨rfl, rfl⟩
  have t44 : ¬ (w = 0 ∧ a = 6 ∨ w = 1 ∧ b = 8 ∨ w = 2 ∧ c = 10) → Gw l G (d + 1) m10_isFull 44 [.ref 102, .int (nI w)] [] (I, J, K) (fun r h' => r = some (.int (bI (decide (w = 0 ∧ a = 6 ∨ w = 1 ∧ b = 8 ∨ w = 2 ∧ c = 10 ∨ w = 3 ∧ e = 8)))) ∧ h' = (I, J, K)) := by
    intro q
    refine e_iload_n rfl rfl ?_
    refine e_iconst (v := nI 3) rfl ic_3N ?_
    first | refine e_icmp_neN (tgt := 63) rfl rfl (by omega) (by omega) (fun z => ?_) (fun z => ?_) | refine e_icmp_ne (tgt := 63) rfl rfl (fun z => ?_) (fun z => ?_)
    · exact no (by omega)
    · refine e_aload_n rfl rfl ?_
      refine e_iconst (v := nI 3) rfl ic_3N ?_
      refine e_callVp (kd := 10) (M2 := m10_fresher) rfl v10_224 ok10_fresher (c10_fresher hM (by omega)) rfl hM.k rfl rfl rfl rfl ?_
      rw [he]
      refine e_bipush (v := nI 8) rfl bp_8N ?_
      first | refine e_icmp_neN (tgt := 63) rfl rfl (by omega) (by omega) (fun z => ?_) (fun z => ?_) | refine e_icmp_ne (tgt := 63) rfl rfl (fun z => ?_) (fun z => ?_)
      · exact no (by omega)
      · exact yes (by omega)
  have t29 : ¬ (w = 0 ∧ a = 6 ∨ w = 1 ∧ b = 8) → Gw l G (d + 1) m10_isFull 29 [.ref 102, .int (nI w)] [] (I, J, K) (fun r h' => r = some (.int (bI (decide (w = 0 ∧ a = 6 ∨ w = 1 ∧ b = 8 ∨ w = 2 ∧ c = 10 ∨ w = 3 ∧ e = 8)))) ∧ h' = (I, J, K)) := by
    intro q
    refine e_iload_n rfl rfl ?_
    refine e_iconst (v := nI 2) rfl ic_2N ?_
    first | refine e_icmp_neN (tgt := 44) rfl rfl (by omega) (by omega) (fun z => ?_) (fun z => ?_) | refine e_icmp_ne (tgt := 44) rfl rfl (fun z => ?_) (fun z => ?_)
    · exact t44 (by omega)
    · refine e_aload_n rfl rfl ?_
      refine e_iconst (v := nI 2) rfl ic_2N ?_
      refine e_callVp (kd := 10) (M2 := m10_fresher) rfl v10_224 ok10_fresher (c10_fresher hM (by omega)) rfl hM.k rfl rfl rfl rfl ?_
      rw [hc]
      refine e_bipush (v := nI 10) rfl bp_10N ?_
      first | refine e_icmp_eqN (tgt := 59) rfl rfl (by omega) (by omega) (fun z => ?_) (fun z => ?_) | refine e_icmp_eq (tgt := 59) rfl rfl (fun z => ?_) (fun z => ?_)
      · exact yes (by omega)
      · exact t44 (by omega)
  have t14 : ¬ (w = 0 ∧ a = 6) → Gw l G (d + 1) m10_isFull 14 [.ref 102, .int (nI w)] [] (I, J, K) (fun r h' => r = some (.int (bI (decide (w = 0 ∧ a = 6 ∨ w = 1 ∧ b = 8 ∨ w = 2 ∧ c = 10 ∨ w = 3 ∧ e = 8)))) ∧ h' = (I, J, K)) := by
    intro q
    refine e_iload_n rfl rfl ?_
    refine e_iconst (v := nI 1) rfl ic_1N ?_
    first | refine e_icmp_neN (tgt := 29) rfl rfl (by omega) (by omega) (fun z => ?_) (fun z => ?_) | refine e_icmp_ne (tgt := 29) rfl rfl (fun z => ?_) (fun z => ?_)
    · exact t29 (by omega)
    · refine e_aload_n rfl rfl ?_
      refine e_iconst (v := nI 1) rfl ic_1N ?_
      refine e_callVp (kd := 10) (M2 := m10_fresher) rfl v10_224 ok10_fresher (c10_fresher hM (by omega)) rfl hM.k rfl rfl rfl rfl ?_
      rw [hb]
      refine e_bipush (v := nI 8) rfl bp_8N ?_
      first | refine e_icmp_eqN (tgt := 59) rfl rfl (by omega) (by omega) (fun z => ?_) (fun z => ?_) | refine e_icmp_eq (tgt := 59) rfl rfl (fun z => ?_) (fun z => ?_)
      · exact yes (by omega)
      · exact t29 (by omega)
  refine Cp.of ok10_isFull rfl (rfl : argL _ _ = [.ref 102, .int (nI w)]) ?_
  refine e_iload_n rfl rfl ?_
  first | refine e_if_neB (tgt := 14) rfl rfl (fun z => ?_) (fun z => ?_) | refine e_if_neN (tgt := 14) rfl rfl (by omega) (fun z => ?_) (fun z => ?_) | refine e_if_ne (tgt := 14) rfl rfl (fun z => ?_) (fun z => ?_)
  · exact t14 (by omega)
  · refine e_aload_n rfl rfl ?_
    refine e_iconst (v := nI 0) rfl ic_0N ?_
    refine e_callVp (kd := 10) (M2 := m10_fresher) rfl v10_224 ok10_fresher (c10_fresher hM (by omega)) rfl hM.k rfl rfl rfl rfl ?_
    rw [ha]
    refine e_bipush (v := nI 6) rfl bp_6N ?_
    first | refine e_icmp_eqN (tgt := 59) rfl rfl (by omega) (by omega) (fun z => ?_) (fun z => ?_) | refine e_icmp_eq (tgt := 59) rfl rfl (fun z => ?_) (fun z => ?_)
    · exact yes (by omega)
    · exact t14 (by omega)
end MRead2
