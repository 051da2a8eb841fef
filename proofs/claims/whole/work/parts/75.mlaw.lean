/-! ===== the reference: law ===== -/
section MLaw
variable {l : Launch} {G : GG} {d : Nat} {I : IM} {J : JM} {K : Kt} {Q : Option Value → Hp → Prop} {P : Pl} {S : SM} {im : Bool} {SI : SM} {m : Nat} {T : SM} {kn : Int32} {u : Nat} {Hs : Nat → SM} {B n : Nat}
theorem c10_law (hM : MK K) (hI : MI I P S im SI m T kn u Hs B) (hn : P.1 1 = n) (w t x : Int32) : Cw l G (d + 3) m10_law [.ref 102, .int w, .int t, .int x] (I, J, K) (fun r h' => r = some (.long (a_law P S n w t x)) ∧ MPst I J K h' P S im SI m T kn u Hs (B + 2)) := by
  have g0 : FQm I J (u2 I 102 0 (nI 0)) J := FQm.w0
  have hI1 := hI.t0 J
  have hP := hI1.1
  have hX := hI1.2.1
  have hR := hI1.2.2.1
  rw [hn] at hR
  have h8 := hI.2.1.1.1.2.1
  have h38 := hI.2.1.1.1.2.2.2
  have hn1 : (u2 I 102 0 (nI 0)) 104 1 = nI n := by rw [← hn]; exact hP.1.2.1
  have e3 : (u2 I 102 0 (nI 0)) 104 3 = nI (P.1 3) := hP.1.2.2.2.1
  have no : a_law P S n w t x = MINL → Gw l G (d + 3) m10_law 49 [.ref 102, .int w, .int t, .int x] [] (u2 I 102 0 (nI 0), J, K) (fun r h' => r = some (.long (a_law P S n w t x)) ∧ MPst I J K h' P S im SI m T kn u Hs (B + 2)) := by
    intro e
    rw [e]
    refine e_ldc2 rfl k10_411 ?_
    refine e_lreturn rfl rfl ?_
    exact ⟨rfl, hI.fin g0⟩
  have no2 : ¬ (inN 3 w = true ∧ inN n t = true ∧ (w = nI 1 → inN (P.1 3) x = true)) → a_law P S n w t x = MINL := fun h => by rw [a_law, if_neg h]
  refine Cw.of ok10_law rfl (rfl : argL _ _ = [.ref 102, .int w, .int t, .int x]) ?_
  refine e_aload_n rfl rfl ?_
  refine e_iconst (v := nI 0) rfl ic_0N ?_
  refine e_putI rfl f10_151 hM.k rfl rfl ?_
  refine e_iload_n rfl rfl ?_
  refine e_if_lt (tgt := 49) rfl rfl (fun y => ?_) (fun y0 => ?_)
  · exact no (no2 (fun q => (inN_lo (k := 2) (by omega) q.1).1 y))
  · refine e_iload_n rfl rfl ?_
    refine e_iconst (v := nI 2) rfl ic_2N ?_
    refine e_icmp_gt (tgt := 49) rfl rfl (fun y => ?_) (fun y1 => ?_)
    · exact no (no2 (fun q => absurd (inN_lo (k := 2) (by omega) q.1).2 (Int32.not_le.mpr y)))
    · have hw : inN 3 w = true := inN_hi (k := 2) (by omega) y0 (Int32.not_lt.mp y1)
      obtain ⟨i, hi, rfl⟩ := inN_of (by omega) hw
      refine e_aload_n rfl rfl ?_
      refine e_iload_n rfl rfl ?_
      refine e_callVp (kd := 10) (M2 := m10_hasLaw) rfl v10_340 ok10_hasLaw (c10_hasLaw (d := d + 2) hM hP hX hi) rfl hM.k rfl rfl rfl rfl ?_
      refine e_if_eqB (tgt := 49) rfl rfl (fun z => ?_) (fun z => ?_)
      · refine no ?_
        rw [a_law]
        split
        · rw [nI_clamp (by omega), lawP, lawV, if_neg (by rw [z]; decide)]
        · rfl
      · refine e_aload_n rfl rfl ?_
        refine e_iload_n rfl rfl ?_
        refine e_callVp (kd := 10) (M2 := m10_isTin) rfl v10_397 ok10_isTin (c10_isTin (d := d + 2) hM hn1 t) rfl hM.k rfl rfl rfl rfl ?_
        refine e_if_eqB (tgt := 49) rfl rfl (fun y => ?_) (fun y => ?_)
        · exact no (no2 (fun q => absurd q.2.1 (by rw [y]; decide)))
        · obtain ⟨j, hj, rfl⟩ := inN_of (by omega) y
          have tail : ∀ wo, (nI i = nI 1 → inN (P.1 3) x = true) → (if nI i = nI 1 then P.2 12 x.toNatClampNeg else 0) = wo → Gw l G (d + 3) m10_law 71 [.ref 102, .int (nI i), .int (nI j), .int x] [.int wo, .int (nI j), .int (nI 0), .ref 102] (u2 I 102 0 (nI 0), J, K) (fun r h' => r = some (.long (a_law P S n (nI i) (nI j) x)) ∧ MPst I J K h' P S im SI m T kn u Hs (B + 2)) := by
            intro wo hx ewo
            have ea : a_law P S n (nI i) (nI j) x = lawP P i (nmS P S j wo) := by
              rw [a_law, if_pos ⟨hw, y, hx⟩, nI_clamp (by omega), nI_clamp (by omega), ewo]
            rw [ea]
            refine e_callV (kd := 10) (M2 := m10_calls) rfl v10_353 ok10_calls (c10_calls (d := d + 2) (f := 0) hM hP hX hn hR (by omega) hj wo) rfl hM.k rfl rfl rfl rfl (fun r1 h1 q1 => ?_)
            obtain ⟨rfl, J1, rfl, j1, j2⟩ := q1
            refine e_aload_n rfl rfl ?_
            refine e_iload_n rfl rfl ?_
            refine e_callV (kd := 10) (M2 := m10_goes) rfl v10_343 ok10_goes (c10_goes (d := d) hM hP hX hi z j2) rfl hM.k rfl rfl rfl rfl (fun r1 h1 q1 => ?_)
            obtain ⟨I2, J2, rfl, g2, q⟩ := q1
            have gq : FQm (u2 I 102 0 (nI 0)) J I2 J2 := ⟨fun c k a b e1 e2 e3 e4 => g2.1 c k (fun q => b ⟨q.1, Or.inr (Or.inl q.2)⟩), fun c a b => (g2.2 c a b).trans (j1 c a)⟩
            rcases q with ⟨rfl, el⟩ | ⟨rfl, -, el⟩
            · refine e_if_eqB (tgt := 91) rfl rfl (fun _ => ?_) (fun q => absurd q (by decide))
              refine e_ldc2 rfl k10_411 ?_
              refine e_lreturn rfl rfl ?_
              rw [el]
              exact ⟨rfl, hI.fin (g0.tr gq)⟩
            · refine e_if_eqB (tgt := 91) rfl rfl (fun q => absurd q (by decide)) (fun _ => ?_)
              refine e_aload_n rfl rfl ?_
              refine e_getP rfl f10_75 hM.k rfl hM.p35 ?_
              refine e_iconst (v := nI 0) rfl ic_0N ?_
              first | refine e_laloadN rfl hM.a35 (by omega) (by omega) ?_ | (refine e_laload rfl hM.a35 ?_ ?_; rotate_left)
              rw [el]
              refine e_goto (tgt := 94) rfl rfl ?_
              refine e_lreturn rfl rfl ?_
              exact ⟨rfl, hI.fin (g0.tr gq)⟩
          refine e_iload_n rfl rfl ?_
          refine e_iconst (v := nI 1) rfl ic_1N ?_
          first | refine e_icmp_neN (tgt := 53) rfl rfl (by omega) (by omega) (fun z => ?_) (fun z => ?_) | refine e_icmp_ne (tgt := 53) rfl rfl (fun z => ?_) (fun z => ?_)
          · have y2 : i ≠ 1 := by assumption
            refine e_aload_n rfl rfl ?_
            refine e_iconst (v := nI 0) rfl ic_0N ?_
            refine e_iload_n rfl rfl ?_
            refine e_iload_n rfl rfl ?_
            refine e_iconst (v := nI 1) rfl ic_1N ?_
            first | refine e_icmp_neN (tgt := 70) rfl rfl (by omega) (by omega) (fun z => ?_) (fun z => ?_) | refine e_icmp_ne (tgt := 70) rfl rfl (fun z => ?_) (fun z => ?_)
            · have y3 : i ≠ 1 := by assumption
              refine e_iconst (v := nI 0) rfl ic_0N ?_
              exact tail _ (fun q => absurd q (ne42 y2 (by omega) (by omega))) (if_neg (ne42 y2 (by omega) (by omega)))
            · omega
          · have y2 : i = 1 := by assumption
            subst y2
            refine e_iload_n rfl rfl ?_
            refine e_if_lt (tgt := 49) rfl rfl (fun v => ?_) (fun v => ?_)
            · exact no (no2 (fun q => absurd v (Int32.not_lt.mpr (of_decide_eq_true (q.2.2 rfl)).1)))
            · refine e_iload_n rfl rfl ?_
              refine e_aload_n rfl rfl ?_
              refine e_getP rfl f10_13 hM.k rfl hM.p3 ?_
              refine e_iconst (v := nI 3) rfl ic_3N ?_
              first | refine e_ialoadN rfl hM.a3 (by omega) (by omega) ?_ | (refine e_iaload rfl hM.a3 ?_ ?_; rotate_left)
              rw [e3]
              refine e_icmp_lt (tgt := 53) rfl rfl (fun v2 => ?_) (fun v2 => ?_)
              · have hin : inN (P.1 3) x = true := decide_eq_true ⟨Int32.not_lt.mp v, v2⟩
                obtain ⟨k, hk, rfl⟩ := inN_of (by omega) hin
                have ek := (hP.2.2.2.2.1 k hk).2.2
                refine e_aload_n rfl rfl ?_
                refine e_iconst (v := nI 0) rfl ic_0N ?_
                refine e_iload_n rfl rfl ?_
                refine e_iload_n rfl rfl ?_
                refine e_iconst (v := nI 1) rfl ic_1N ?_
                first | refine e_icmp_neN (tgt := 70) rfl rfl (by omega) (by omega) (fun z => ?_) (fun z => ?_) | refine e_icmp_ne (tgt := 70) rfl rfl (fun z => ?_) (fun z => ?_)
                · omega
                · refine e_aload_n rfl rfl ?_
                  refine e_getP rfl f10_52 hM.k rfl hM.p16 ?_
                  refine e_iload_n rfl rfl ?_
                  first | refine e_ialoadN rfl hM.a16 (by omega) (by omega) ?_ | (refine e_iaload rfl hM.a16 ?_ ?_; rotate_left)
                  rw [ek]
                  refine e_goto (tgt := 71) rfl rfl ?_
                  exact tail _ (fun _ => hin) (by rw [if_pos rfl, nI_clamp (by omega)])
              · exact no (no2 (fun q => absurd (of_decide_eq_true (q.2.2 rfl)).2 v2))
end MLaw
