/-! ===== the reference: parts, and E whole ===== -/
section MExp4
variable {l : Launch} {G : GG} {J : JM} {K : Kt} {Q : Option Value → Hp → Prop} {f : Nat → Nat} {n : Nat}
theorem avS_go {f : Nat → Nat} {n : Nat} (s : PSt) : ∃ s1, avS f n s = .inr s1 := by unfold avS; split <;> exact ⟨_, rfl⟩
theorem lev0 (hM : MK K) {k : Nat} (i6 : ∀ dp s I w D, dp ≤ 8 → TX I f n → Ez I n dp (.inr s) → exA f n k 6 dp s = some w → (8 - dp) * 6 + (64 - (pP s).1 5) + 13 ≤ D → CE l G D m10_expression [.ref 102] I J K n dp w) : ∀ dp s I w D, dp ≤ 8 → TX I f n → Ez I n dp (.inr s) → exA f n (k + 1) 0 dp s = some w → (8 - dp) * 6 + (64 - (pP s).1 5) + 8 ≤ D → CE l G D m10_primary [.ref 102] I J K n dp w := by
  intro dp s I w D hd hX hz h hD
  have h : ptS f n (exA f n k) dp s = some w := h
  unfold ptS at h
  have R : tkR (pTk s) (pVa s) (I 102 26) (I 102 27) := hz.1.2.2.2.2.1
  have h3 : I 102 28 = nI 0 := hz.1.1
  have e5 : I 102 32 = nI dp := hz.2.2.2.2.2
  have ho := hz.2.2.2.1
  obtain ⟨D, rfl⟩ : ∃ q, D = q + 8 := ⟨D - 8, by omega⟩
  refine Cw.of ok10_primary rfl (rfl : argL _ _ = [.ref 102, .null]) ?_
  refine e_aload_n rfl rfl ?_
  refine e_getI rfl f10_205 hM.k rfl ?_
  rw [h3]
  first | refine e_if_eqB (tgt := 8) rfl rfl (fun z => ?_) (fun z => ?_) | refine e_if_eqN (tgt := 8) rfl rfl (by omega) (fun z => ?_) (fun z => ?_) | refine e_if_eq (tgt := 8) rfl rfl (fun z => ?_) (fun z => ?_)
  · refine e_aload_n rfl rfl ?_
    refine e_bipush (v := nI 40) rfl bp_40N ?_
    refine e_callVp (kd := 10) (M2 := m10_isSign) rfl v10_252 ok10_isSign (c10_isSign hM hz.1 (by omega)) rfl hM.k rfl rfl rfl rfl ?_
    refine e_if_eqB (tgt := 101) rfl rfl (fun z => ?_) (fun z => ?_)
    · have n40 : ¬ pTk s = nI 40 := of_decide_eq_false z
      refine e_aload_n rfl rfl ?_
      refine e_getI rfl f10_170 hM.k rfl ?_
      refine e_iconst (v := nI 2) rfl ic_2N ?_
      refine e_icmp_ne (tgt := 113) rfl rfl (fun y => ?_) (fun y => ?_)
      · have n23 : ¬ pTk s = nI 23 := fun q => y (R.e2.mpr q)
        rw [if_neg n23] at h
        refine e_iconst (v := nI 0) rfl ic_0N ?_
        refine e_ist1 rfl rfl rfl ?_
        have bad : ¬ (nI 12 ≤ pTk s ∧ pTk s ≤ nI 18) → Gw l G (D + 8) m10_primary 157 [.ref 102, .int (bI false)] [] (I, J, K) (fun r h' => r = none ∧ ∃ I', h' = (I', J, K) ∧ FE I I' ∧ Ez I' n dp w) := by
          intro q
          rw [if_neg q, if_neg n40] at h
          refine e_aload_n rfl rfl ?_
          refine e_iconst (v := nI 1) rfl ic_1N ?_
          refine e_callV (kd := 10) (M2 := m10_wrong) rfl v10_214 ok10_wrong (c10_wrongE (op := dp) hM hz (k := 1) (by omega) (by omega)) rfl hM.k rfl rfl rfl rfl (fun r1 h1 q1 => ?_)
          obtain ⟨rfl, I1, rfl, g1, L1⟩ := q1
          exact mpartD (e := (1, pPl s)) hM (hX.fe g1) g1 L1 (Option.some.inj h).symm false
        show Gw l G (D + 8) m10_primary 115 [.ref 102, .int (bI false)] [] (I, J, K) _
        refine e_iload_n rfl rfl ?_
        refine e_if_eqB (tgt := 137) rfl rfl (fun _ => ?_) (fun q => absurd q (by decide))
        refine e_iload_n rfl rfl ?_
        refine e_if_neB (tgt := 162) rfl rfl (fun q => absurd q (by decide)) (fun _ => ?_)
        refine e_aload_n rfl rfl ?_
        refine e_getI rfl f10_170 hM.k rfl ?_
        refine e_if_ne (tgt := 157) rfl rfl (fun y0 => ?_) (fun y0 => ?_)
        · refine bad (fun q => ?_)
          obtain ⟨t, ht, et⟩ := nI_of (x := pTk s) (Int32.not_lt.mpr (Int32.le_trans (by decide) q.1))
          rw [et, nI_leI (by omega) ht, nI_leI ht (by omega)] at q
          exact R.n0 y0 (k := t) (by omega) (by omega) et
        · obtain ⟨j, hj, et, ev⟩ := R.w0 y0
          have hm := mwF_lt hj
          refine e_aload_n rfl rfl ?_
          refine e_getI rfl f10_180 hM.k rfl ?_
          rw [ev]
          refine e_bipush (v := nI 14) rfl bp_14N ?_
          refine e_icmp_geN (tgt := 162) rfl rfl (by omega) (by omega) (fun q => ?_) (fun q => ?_)
          · have hj2 : 11 ≤ j ∧ j ≤ 17 := by unfold mwF at q; split at q; omega; split at q <;> omega
            have em : mwF j = j + 3 := by unfold mwF; rw [if_neg (by omega), if_pos (by omega)]
            have kw := kS_wd (j + 1) (by omega) (by omega)
            rw [if_pos (by rw [et, nI_leI (by omega) (by omega), nI_leI (by omega) (by omega)]; omega)] at h
            refine mpartL (v := -pTk s) hM hX hz (Option.some.inj h).symm (by rw [et]; exact nI_m1 (by omega)) false ?_ ?_
            · rw [et, kw.1]; rfl
            · rw [et, kw.2, ev, em, if_neg (by decide), pk_sub (by omega)]; rfl
          · refine bad (fun q2 => ?_)
            rw [et, nI_leI (by omega) (by omega), nI_leI (by omega) (by omega)] at q2
            unfold mwF at q
            split at q
            · omega
            · split at q <;> omega
      · have t23 : pTk s = nI 23 := R.e2.mp y
        rw [if_pos t23] at h
        obtain ⟨v, x, ev, ex, hv, hx, hvx⟩ := R.va2 t23
        rw [ev] at h
        have lt9 : nI 9999 < nI v ↔ 9999 < v := nI_ltI (by omega) (by omega)
        refine e_iconst (v := nI 1) rfl ic_1N ?_
        refine e_goto (tgt := 114) rfl rfl ?_
        refine e_ist1 rfl rfl rfl ?_
        show Gw l G (D + 8) m10_primary 115 [.ref 102, .int (bI true)] [] (I, J, K) _
        refine e_iload_n rfl rfl ?_
        refine e_if_eqB (tgt := 137) rfl rfl (fun q => absurd q (by decide)) (fun _ => ?_)
        refine e_aload_n rfl rfl ?_
        refine e_getI rfl f10_180 hM.k rfl ?_
        rw [ex]
        refine e_sipush (v := nI 9999) rfl sp_9999N ?_
        refine e_icmp_leN (tgt := 137) rfl rfl (by omega) (by omega) (fun q => ?_) (fun q => ?_)
        · have evx : v = x := by omega
          subst evx
          rw [if_neg (fun q => by have := lt9.mp q; omega)] at h
          refine e_iload_n rfl rfl ?_
          refine e_if_neB (tgt := 162) rfl rfl (fun _ => ?_) (fun q => absurd q (by decide))
          have kn := kS_nm v (by omega)
          refine mpartL (v := nI v) hM hX hz (Option.some.inj h).symm (by rw [t23]; decide) true ?_ ?_
          · rw [kn.1]; rfl
          · rw [kn.2, ← ex]; rfl
        · rw [if_pos (lt9.mpr (by omega))] at h
          refine e_aload_n rfl rfl ?_
          refine e_iconst (v := nI 2) rfl ic_2N ?_
          refine e_callV (kd := 10) (M2 := m10_wrong) rfl v10_214 ok10_wrong (c10_wrongE (op := dp) hM hz (k := 2) (by omega) (by omega)) rfl hM.k rfl rfl rfl rfl (fun r1 h1 q1 => ?_)
          obtain ⟨rfl, I1, rfl, g1, L1⟩ := q1
          refine e_goto (tgt := 162) rfl rfl ?_
          exact mpartD (e := (2, pPl s)) hM (hX.fe g1) g1 L1 (Option.some.inj h).symm true
    · have ht : pTk s = nI 40 := of_decide_eq_true z
      rw [if_neg (by rw [ht]; decide), if_neg (by rw [ht]; decide), if_pos ht] at h
      refine e_aload_n rfl rfl ?_
      refine e_getI rfl f10_287 hM.k rfl ?_
      rw [e5]
      refine e_bipush (v := nI 8) rfl bp_8N ?_
      first | refine e_icmp_neN (tgt := 31) rfl rfl (by omega) (by omega) (fun z => ?_) (fun z => ?_) | refine e_icmp_ne (tgt := 31) rfl rfl (fun z => ?_) (fun z => ?_)
      · have y : ¬ dp = 8 := by assumption
        rw [if_neg (by omega)] at h
        obtain ⟨s1, es1⟩ := avS_go (f := f) (n := n) s
        rw [es1] at h
        have h : obd (exA f n k 6 (dp + 1) s1) (fun s2 => some (exS f n (nI 41) s2)) = some w := h
        obtain ⟨w2, h2⟩ := obd_ex h
        rw [h2] at h
        refine e_aload_n rfl rfl ?_
        refine e_getI rfl f10_205 hM.k rfl ?_
        rw [h3]
        first | refine e_if_eqB (tgt := 39) rfl rfl (fun z => ?_) (fun z => ?_) | refine e_if_eqN (tgt := 39) rfl rfl (by omega) (fun z => ?_) (fun z => ?_) | refine e_if_eq (tgt := 39) rfl rfl (fun z => ?_) (fun z => ?_)
        · refine e_aload_n rfl rfl ?_
          refine e_dup rfl rfl ?_
          refine e_getI rfl f10_287 hM.k rfl ?_
          rw [e5]
          refine e_iconst (v := nI 1) rfl ic_1N ?_
          first | refine e_iaddN rfl ?_ | refine e_iadd rfl ?_
          refine e_putI rfl f10_287 hM.k rfl rfl ?_
          have g1 : FE I (u2 I 102 32 (nI (dp + 1))) := fun c x q _ _ => if_neg (fun e => q ⟨e.1, Or.inr (Or.inl e.2)⟩)
          have L1 : Ez (u2 I 102 32 (nI (dp + 1))) n (dp + 1) (.inr s) := by
            obtain ⟨⟨a1, a2, a3, a4, a5⟩, b1, b2, b3, b4, b5⟩ := hz
            exact ⟨⟨by rw [u2_nk _ _ (by omega)]; exact a1, by rw [u2_nk _ _ (by omega)]; exact a2, a3, by rw [u2_nk _ _ (by omega)]; exact a4, by rw [u2_nk _ _ (by omega), u2_nk _ _ (by omega), u2_nk _ _ (by omega)]; exact a5⟩, by rw [u2_ne _ _ (by omega)]; exact b1, by rw [u2_nk _ _ (by omega)]; exact b2, b3, fun i hi => by rw [u2_ne _ _ (by omega), u2_ne _ _ (by omega)]; exact b4 i hi, u2_at _ _ _ _⟩
          refine e_aload_n rfl rfl ?_
          refine e_callV (kd := 10) (M2 := m10_token) rfl v10_211 ok10_token (c10_tokenE hM (hX.fe g1) L1 (by rw [ht]; decide)) rfl hM.k rfl rfl rfl rfl (fun r1 h1 q1 => ?_)
          obtain ⟨rfl, I2, rfl, g2, L2⟩ := q1
          rw [es1] at L2
          have eP : pP s1 = pP s := congrArg Prod.fst (avS_2 es1)
          refine e_aload_n rfl rfl ?_
          refine e_callV (kd := 10) (M2 := m10_expression) rfl v10_258 ok10_expression (i6 (dp + 1) s1 I2 w2 (D + 7) (by omega) ((hX.fe g1).fe g2) L2 h2 (by rw [eP]; omega)) rfl hM.k rfl rfl rfl rfl (fun r1 h1 q1 => ?_)
          obtain ⟨rfl, I3, rfl, g3, L3⟩ := q1
          have g := (g1.tr g2).tr g3
          have X3 := ((hX.fe g1).fe g2).fe g3
          rcases obd_w h with ⟨e, rfl, rfl⟩ | ⟨s2, rfl, h4⟩
          · have k3 := L3.1.2.2.1
            have k1 := L3.1.1
            have k2 := L3.1.2.1
            refine e_aload_n rfl rfl ?_
            refine e_getI rfl f10_205 hM.k rfl ?_
            rw [k3]
            first | refine e_if_neB (tgt := 78) rfl rfl (fun z => ?_) (fun z => ?_) | refine e_if_neN (tgt := 78) rfl rfl (by omega) (fun z => ?_) (fun z => ?_) | refine e_if_ne (tgt := 78) rfl rfl (fun z => ?_) (fun z => ?_)
            · refine e_aload_n rfl rfl ?_
              refine e_getI rfl f10_205 hM.k rfl ?_
              rw [k3]
              first | refine e_if_eqB (tgt := 86) rfl rfl (fun z => ?_) (fun z => ?_) | refine e_if_eqN (tgt := 86) rfl rfl (by omega) (fun z => ?_) (fun z => ?_) | refine e_if_eq (tgt := 86) rfl rfl (fun z => ?_) (fun z => ?_)
              · exact absurd (by assumption) k1
              · refine e_return rfl rfl ?_
                exact ⟨rfl, I3, rfl, g, L3⟩
            · exact absurd (by assumption) k1
          · have k3 : I3 102 28 = nI 0 := L3.1.1
            have h4 := Option.some.inj h4
            unfold exS at h4
            refine e_aload_n rfl rfl ?_
            refine e_getI rfl f10_205 hM.k rfl ?_
            rw [k3]
            first | refine e_if_neB (tgt := 78) rfl rfl (fun z => ?_) (fun z => ?_) | refine e_if_neN (tgt := 78) rfl rfl (by omega) (fun z => ?_) (fun z => ?_) | refine e_if_ne (tgt := 78) rfl rfl (fun z => ?_) (fun z => ?_)
            · omega
            · refine e_aload_n rfl rfl ?_
              refine e_bipush (v := nI 41) rfl bp_41N ?_
              refine e_callVp (kd := 10) (M2 := m10_isSign) rfl v10_252 ok10_isSign (c10_isSign hM L3.1 (by omega)) rfl hM.k rfl rfl rfl rfl ?_
              refine e_if_neB (tgt := 78) rfl rfl (fun z => ?_) (fun z => ?_)
              · have t41 : pTk s2 = nI 41 := of_decide_eq_true z
                rw [if_pos t41] at h4
                refine e_aload_n rfl rfl ?_
                refine e_getI rfl f10_205 hM.k rfl ?_
                rw [k3]
                first | refine e_if_eqB (tgt := 86) rfl rfl (fun z => ?_) (fun z => ?_) | refine e_if_eqN (tgt := 86) rfl rfl (by omega) (fun z => ?_) (fun z => ?_) | refine e_if_eq (tgt := 86) rfl rfl (fun z => ?_) (fun z => ?_)
                · have eo : I3 102 32 = nI (dp + 1) := L3.2.2.2.2.2
                  refine e_aload_n rfl rfl ?_
                  refine e_dup rfl rfl ?_
                  refine e_getI rfl f10_287 hM.k rfl ?_
                  rw [eo]
                  refine e_iconst (v := nI 1) rfl ic_1N ?_
                  first | refine e_isubN rfl (by omega) ?_ | refine e_isub rfl ?_
                  refine e_putI rfl f10_287 hM.k rfl rfl ?_
                  rw [show dp + 1 - 1 = dp by omega]
                  have g4 : FE I3 (u2 I3 102 32 (nI dp)) := fun c x q _ _ => if_neg (fun e => q ⟨e.1, Or.inr (Or.inl e.2)⟩)
                  have L4 : Ez (u2 I3 102 32 (nI dp)) n dp (.inr s2) := by
                    obtain ⟨⟨a1, a2, a3, a4, a5⟩, b1, b2, b3, b4, b5⟩ := L3
                    exact ⟨⟨by rw [u2_nk _ _ (by omega)]; exact a1, by rw [u2_nk _ _ (by omega)]; exact a2, a3, by rw [u2_nk _ _ (by omega)]; exact a4, by rw [u2_nk _ _ (by omega), u2_nk _ _ (by omega), u2_nk _ _ (by omega)]; exact a5⟩, by rw [u2_ne _ _ (by omega)]; exact b1, by rw [u2_nk _ _ (by omega)]; exact b2, b3, fun i hi => by rw [u2_ne _ _ (by omega), u2_ne _ _ (by omega)]; exact b4 i hi, u2_at _ _ _ _⟩
                  refine e_aload_n rfl rfl ?_
                  refine e_callV (kd := 10) (M2 := m10_token) rfl v10_211 ok10_token (c10_tokenE hM (X3.fe g4) L4 (by rw [t41]; decide)) rfl hM.k rfl rfl rfl rfl (fun r1 h1 q1 => ?_)
                  obtain ⟨rfl, I5, rfl, g5, L5⟩ := q1
                  refine e_return rfl rfl ?_
                  rw [h4] at L5
                  exact ⟨rfl, I5, rfl, (g.tr g4).tr g5, L5⟩
                · omega
              · have t41 : ¬ pTk s2 = nI 41 := of_decide_eq_false z
                rw [if_neg t41] at h4
                refine e_aload_n rfl rfl ?_
                refine e_iconst (v := nI 1) rfl ic_1N ?_
                refine e_callV (kd := 10) (M2 := m10_wrong) rfl v10_214 ok10_wrong (c10_wrongE hM L3 (k := 1) (by omega) (by omega)) rfl hM.k rfl rfl rfl rfl (fun r1 h1 q1 => ?_)
                obtain ⟨rfl, I4, rfl, g4, L4⟩ := q1
                have k4 : I4 102 28 = nI 1 := L4.1.2.2.1
                refine e_aload_n rfl rfl ?_
                refine e_getI rfl f10_205 hM.k rfl ?_
                rw [k4]
                first | refine e_if_eqB (tgt := 86) rfl rfl (fun z => ?_) (fun z => ?_) | refine e_if_eqN (tgt := 86) rfl rfl (by omega) (fun z => ?_) (fun z => ?_) | refine e_if_eq (tgt := 86) rfl rfl (fun z => ?_) (fun z => ?_)
                · omega
                · refine e_return rfl rfl ?_
                  rw [← h4]
                  exact ⟨rfl, I4, rfl, g.tr g4, L4⟩
        · omega
      · have y : dp = 8 := by assumption
        rw [if_pos (by omega)] at h
        refine e_aload_n rfl rfl ?_
        refine e_iconst (v := nI 2) rfl ic_2N ?_
        refine e_callV (kd := 10) (M2 := m10_wrong) rfl v10_214 ok10_wrong (c10_wrongE hM hz (k := 2) (by omega) (by omega)) rfl hM.k rfl rfl rfl rfl (fun r1 h1 q1 => ?_)
        obtain ⟨rfl, I4, rfl, g4, L4⟩ := q1
        have k4 : I4 102 28 = nI 2 := L4.1.2.2.1
        refine e_aload_n rfl rfl ?_
        refine e_getI rfl f10_205 hM.k rfl ?_
        rw [k4]
        first | refine e_if_eqB (tgt := 39) rfl rfl (fun z => ?_) (fun z => ?_) | refine e_if_eqN (tgt := 39) rfl rfl (by omega) (fun z => ?_) (fun z => ?_) | refine e_if_eq (tgt := 39) rfl rfl (fun z => ?_) (fun z => ?_)
        · omega
        · refine e_return rfl rfl ?_
          rw [← Option.some.inj h]
          exact ⟨rfl, I4, rfl, g4, L4⟩
  · omega
theorem exR (hM : MK K) : ∀ k, (∀ dp s I w D, dp ≤ 8 → TX I f n → Ez I n dp (.inr s) → exA f n k 0 dp s = some w → (8 - dp) * 6 + (64 - (pP s).1 5) + 8 ≤ D → CE l G D m10_primary [.ref 102] I J K n dp w) ∧ (∀ dp s I w D, dp ≤ 8 → TX I f n → Ez I n dp (.inr s) → exA f n k 1 dp s = some w → (8 - dp) * 6 + (64 - (pP s).1 5) + 9 ≤ D → CE l G D m10_product [.ref 102] I J K n dp w) ∧ (∀ dp s I w D, dp ≤ 8 → TX I f n → Ez I n dp (.inr s) → exA f n k 2 dp s = some w → (8 - dp) * 6 + (64 - (pP s).1 5) + 10 ≤ D → CE l G D m10_sum [.ref 102] I J K n dp w) ∧ (∀ dp s I w D, dp ≤ 8 → TX I f n → Ez I n dp (.inr s) → exA f n k 3 dp s = some w → (8 - dp) * 6 + (64 - (pP s).1 5) + 11 ≤ D → ∀ v, Gw l G D m10_negation 30 [.ref 102, v] [] (I, J, K) (fun r h' => r = none ∧ ∃ I', h' = (I', J, K) ∧ FE I I' ∧ Ez I' n dp w)) ∧ (∀ dp s I w D, dp ≤ 8 → TX I f n → Ez I n dp (.inr s) → exA f n k 4 dp s = some w → (8 - dp) * 6 + (64 - (pP s).1 5) + 11 ≤ D → CE l G D m10_negation [.ref 102] I J K n dp w) ∧ (∀ dp s I w D, dp ≤ 8 → TX I f n → Ez I n dp (.inr s) → exA f n k 5 dp s = some w → (8 - dp) * 6 + (64 - (pP s).1 5) + 12 ≤ D → CE l G D m10_conjunction [.ref 102] I J K n dp w) ∧ (∀ dp s I w D, dp ≤ 8 → TX I f n → Ez I n dp (.inr s) → exA f n k 6 dp s = some w → (8 - dp) * 6 + (64 - (pP s).1 5) + 13 ≤ D → CE l G D m10_expression [.ref 102] I J K n dp w) ∧ (∀ dp s I w D, dp ≤ 8 → TX I f n → Ez I n dp (.inr s) → exA f n k 7 dp s = some w → (8 - dp) * 6 + (64 - (pP s).1 5) + 9 ≤ D → ∀ v, Gw l G D m10_product 4 [.ref 102, v] [] (I, J, K) (fun r h' => r = none ∧ ∃ I', h' = (I', J, K) ∧ FE I I' ∧ Ez I' n dp w)) ∧ (∀ dp s I w D, dp ≤ 8 → TX I f n → Ez I n dp (.inr s) → exA f n k 8 dp s = some w → (8 - dp) * 6 + (64 - (pP s).1 5) + 10 ≤ D → ∀ v, Gw l G D m10_sum 4 [.ref 102, v] [] (I, J, K) (fun r h' => r = none ∧ ∃ I', h' = (I', J, K) ∧ FE I I' ∧ Ez I' n dp w)) ∧ (∀ dp s I w D, dp ≤ 8 → TX I f n → Ez I n dp (.inr s) → exA f n k 9 dp s = some w → (8 - dp) * 6 + (64 - (pP s).1 5) + 12 ≤ D → Gw l G D m10_conjunction 4 [.ref 102] [] (I, J, K) (fun r h' => r = none ∧ ∃ I', h' = (I', J, K) ∧ FE I I' ∧ Ez I' n dp w)) ∧ (∀ dp s I w D, dp ≤ 8 → TX I f n → Ez I n dp (.inr s) → exA f n k 10 dp s = some w → (8 - dp) * 6 + (64 - (pP s).1 5) + 13 ≤ D → Gw l G D m10_expression 4 [.ref 102] [] (I, J, K) (fun r h' => r = none ∧ ∃ I', h' = (I', J, K) ∧ FE I I' ∧ Ez I' n dp w))
  | 0 => by refine ⟨?_, ?_, ?_, ?_, ?_, ?_, ?_, ?_, ?_, ?_, ?_⟩ <;> exact fun _ _ _ _ _ _ _ _ h => absurd h (by simp [exA])
  | k + 1 => by
    obtain ⟨i0, i1, i2, i3, i4, i5, i6, i7, i8, i9, i10⟩ := exR hM k
    exact ⟨lev0 hM i6, lev1 hM i0 i7, lev2 hM i1 i8, lev3 hM i2, lev4 hM i4 i3, lev5 hM i4 i9, lev6 hM i5 i10, lev7 hM i0 i7, lev8 hM i1 i8, lev9 hM i4 i9, lev10 hM i5 i10⟩
theorem c10_expression (hM : MK K) {d : Nat} {I : IM} {s : PSt} (hX : TX I f n) (hz : Ez I n 0 (.inr s)) : CE l G (d + 125) m10_expression [.ref 102] I J K n 0 (exT f n s) :=
  (exR hM 6500).2.2.2.2.2.2.1 0 s I _ (d + 125) (by omega) hX hz (exT_eq hX.2.2.2 hz.2.2.2.1) (by omega)
end MExp4
