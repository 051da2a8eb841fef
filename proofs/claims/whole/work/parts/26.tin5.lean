/-! ===== TinNation: law, keep, back, count; the trial ===== -/
theorem took_rc {I I' : IM} {J J' : JM} {s o n : Nat} {S : SM} (h : tookS I J s o I' J') (hC : RC I J o n S) : RC I' J' s n S := by
  obtain ⟨h1, h2, h3, hm, h5, ⟨k1, k2, k3, k4, k5, k6⟩, h7⟩ := hC
  obtain ⟨-, a, b, c, -⟩ := h
  refine ⟨(b 7 (by omega) (by omega)).trans h1, h2, fun t ht => ?_, fun t ht u hu => ?_, fun w hw => (a 7 (by omega) (by omega) w hw).trans (h5 w hw), ⟨(b 8 (by omega) (by omega)).trans k1, (b 9 (by omega) (by omega)).trans k2, (b 10 (by omega) (by omega)).trans k3, (b 11 (by omega) (by omega)).trans k4, (b 12 (by omega) (by omega)).trans k5, (b 13 (by omega) (by omega)).trans k6⟩, c.trans h7⟩
  · obtain ⟨e1, e2, e3, e4, e5⟩ := h3 t ht
    exact ⟨(a 1 (by omega) (by omega) t (by omega)).trans e1, (a 2 (by omega) (by omega) t (by omega)).trans e2, (a 3 (by omega) (by omega) t (by omega)).trans e3, (a 5 (by omega) (by omega) t (by omega)).trans e4, (a 6 (by omega) (by omega) t (by omega)).trans e5⟩
  · rw [hm t ht u hu, a 3 (by omega) (by omega) t (by omega), a 3 (by omega) (by omega) u (by omega), a 4 (by omega) (by omega) t (by omega), a 4 (by omega) (by omega) u (by omega)]
theorem took_hc {I I' : IM} {J J' : JM} {s o n B : Nat} (h : tookS I J s o I' J') (h8 : n ≤ 8) (hH : HC I o n B) : HC I' s n B := by
  obtain ⟨-, a, -⟩ := h
  refine ⟨fun t ht => ?_, fun t ht u hu htu => ?_⟩
  · obtain ⟨j, h1, h2⟩ := hH.1 t ht
    exact ⟨j, h1, (a 4 (by omega) (by omega) t (by omega)).trans h2⟩
  · rw [a 3 (by omega) (by omega) t (by omega), a 3 (by omega) (by omega) u (by omega), a 4 (by omega) (by omega) t (by omega), a 4 (by omega) (by omega) u (by omega)]
    exact hH.2 t ht u hu htu
section MTin5
variable {l : Launch} {G : GG} {d : Nat} {I : IM} {J : JM} {K : Kt} {Q : Option Value → Hp → Prop} {P : Pl} {S : SM} {im : Bool} {SI : SM} {m : Nat} {T : SM} {kn : Int32} {u : Nat} {Hs : Nat → SM} {B n : Nat}
theorem c9_keep (hG : GK K) (hI : CI I J P S im SI m T kn u Hs B) (hn : P.1 1 = n) : Cw l G (d + 2) m9_keep [.ref 0] (I, J, K) (fun r h' => r = some (.int (S 8 0)) ∧ Pst I J K h' P S true S m T kn u Hs (B + 1)) := by
  have hG2 := hG
  obtain ⟨⟨k9, t0, t2, t3, t4, t5, t6, t7, t9, t10, t11, t12⟩, -, -, -, -, hD, hS, -, hS3, -, hU9⟩ := hG2
  have hI2 := hI
  obtain ⟨hR, hW, hC, hHC, hIm, hImg, hRT, U, hRU, hUB⟩ := hI2
  rw [hn] at hC hHC hUB
  have h6 := hS.1
  have h6b := hS3.1
  have e8 : I 62 8 = S 8 0 := hC.2.2.2.2.2.1.1
  refine Cw.of ok9_keep rfl (rfl : argL _ _ = [.ref 0]) ?_
  refine e_aload_n rfl rfl ?_
  refine e_getP rfl f9_48 (by assumption) rfl (by assumption) ?_
  refine e_aload_n rfl rfl ?_
  refine e_getP rfl f9_41 (by assumption) rfl (by assumption) ?_
  refine e_callV (kd := 6) (M2 := m6_take) rfl v9_219 ok6_take (c6_take hS3 hS (by omega)) rfl (by assumption) rfl rfl rfl rfl (fun r1 h1 q1 => ?_)
  obtain ⟨rfl, I1, J1, rfl, tk⟩ := q1
  refine e_aload_n rfl rfl ?_
  refine e_iconst (v := nI 1) rfl ic_1N ?_
  refine e_putZ rfl f9_98 (by assumption) rfl rfl (by first | decide | assumption) ?_
  refine e_aload_n rfl rfl ?_
  refine e_getP rfl f9_41 (by assumption) rfl (by assumption) ?_
  refine e_getI rfl f9_206 (by assumption) rfl ?_
  rw [u2_ne _ _ (by omega), tk.1 62 (by omega), e8]
  refine e_ireturn rfl rfl ?_
  have f : ∀ c, c ≠ 0 → (c < 78 ∨ 85 < c) → u2 I1 0 8 (nI 1) c = I c := fun c h1 h2 => by rw [u2_row _ _ h1, tk.1 c (by omega)]
  have g : ∀ c, c ≠ 78 → J1 c = J c := tk.2.2.2.2
  refine ⟨rfl, _, _, rfl, ⟨fun c hc => f c (by omega) (by omega), fun c hc => g c (by omega), fun k hk => by rw [u2_nk _ _ hk, tk.1 0 (by omega)]⟩, ?_⟩
  refine CI.mono (B := B) ?_ (by omega)
  refine ⟨hR.frame (fun c a b => f c (by omega) (by omega)), hW, ?_, ?_, ?_, fun _ => ⟨?_, ?_⟩, hRT.frame (fun c a b => f c (by omega) (by omega)), U, hRU.frame (fun c a b => f c (by omega) (by omega)), ?_⟩
  · rw [hn]; exact hC.frame (fun c a b => f c (by omega) (by omega)) (by rw [g _ (by omega)])
  · rw [hn]; exact hHC.frame (f _ (by omega) (by omega)) (f _ (by omega) (by omega))
  · rw [u2_at]; rfl
  · rw [hn]; exact (took_rc tk hC).frame (fun c a b => u2_row _ _ (by omega)) rfl
  · rw [hn]; exact (took_hc tk hC.2.1 hHC).frame (u2_row _ _ (by omega)) (u2_row _ _ (by omega))
  · rw [hn]; exact hUB.sm (by have := hC.2.1; omega) (by rw [g _ (by omega)]) (Nat.le_refl _) ⟨fun r r1 r2 t ht => by rw [f _ (by omega) (by omega)], fun w hw => by rw [f _ (by omega) (by omega)], fun k a b => by rw [f _ (by omega) (by omega)]⟩
theorem c9_back (hG : GK K) (hI : CI I J P S im SI m T kn u Hs B) (hn : P.1 1 = n) : Cw l G (d + 2) m9_back [.ref 0] (I, J, K) (fun r h' => r = some (.int (if im = true then SI 8 0 else -1)) ∧ Pst I J K h' P (if im = true then SI else S) im SI m T kn (if im = true then 0 else u) Hs (B + 1)) := by
  have hG2 := hG
  obtain ⟨⟨k9, t0, t2, t3, t4, t5, t6, t7, t9, t10, t11, t12⟩, -, -, -, -, hD, hS, -, hS3, -, hU9⟩ := hG2
  have hI2 := hI
  obtain ⟨hR, hW, hC, hHC, hIm, hImg, hRT, U, hRU, hUB⟩ := hI2
  rw [hn] at hC hHC hUB
  have h6 := hS.1
  have h6b := hS3.1
  have h7 := hU9.1
  refine Cw.of ok9_back rfl (rfl : argL _ _ = [.ref 0]) ?_
  refine e_aload_n rfl rfl ?_
  refine e_getI rfl f9_98 (by assumption) rfl ?_
  rw [hIm]
  first | refine e_if_neB (tgt := 9) rfl rfl (fun z => ?_) (fun z => ?_) | refine e_if_neN (tgt := 9) rfl rfl (by omega) (fun z => ?_) (fun z => ?_) | refine e_if_ne (tgt := 9) rfl rfl (fun z => ?_) (fun z => ?_)
  · have y : im = true := by assumption
    obtain ⟨hC3, hH3⟩ := hImg y
    rw [hn] at hC3 hH3
    refine e_aload_n rfl rfl ?_
    refine e_getP rfl f9_41 (by assumption) rfl (by assumption) ?_
    refine e_aload_n rfl rfl ?_
    refine e_getP rfl f9_48 (by assumption) rfl (by assumption) ?_
    refine e_callV (kd := 6) (M2 := m6_take) rfl v9_219 ok6_take (c6_take hS hS3 (by omega)) rfl (by assumption) rfl rfl rfl rfl (fun r1 h1 q1 => ?_)
    obtain ⟨rfl, I1, J1, rfl, tk⟩ := q1
    refine e_aload_n rfl rfl ?_
    refine e_getP rfl f9_61 (by assumption) rfl (by assumption) ?_
    refine e_callV (kd := 7) (M2 := m7_clear) rfl v9_97 ok7_clear (c7_clear hU9) rfl (by assumption) rfl rfl rfl rfl (fun r1 h1 q1 => ?_)
    obtain ⟨rfl, rfl⟩ := q1
    refine e_aload_n rfl rfl ?_
    refine e_getP rfl f9_41 (by assumption) rfl (by assumption) ?_
    refine e_getI rfl f9_206 (by assumption) rfl ?_
    have C1 := took_rc tk hC3
    rw [u2_ne _ _ (by omega), C1.2.2.2.2.2.1.1, if_pos y, if_pos y, if_pos y]
    refine e_ireturn rfl rfl ?_
    have hfn : FN I J (u2 I1 (93 + 1) 2 (nI 0)) J1 := ⟨fun c b1 b2 b3 b4 => by rw [u2_row _ _ (by omega), tk.1 c (by omega)], fun c b1 b2 => tk.2.2.2.2 c (by omega)⟩
    refine ⟨rfl, _, _, rfl, hfn.fx, ?_⟩
    refine (hI.now hfn (Nat.le_refl B) (by rw [hn]; exact C1.frame (fun c a b => u2_row _ _ (by omega)) rfl) (by rw [hn]; exact (took_hc tk hC3.2.1 hH3).frame (u2_row _ _ (by omega)) (u2_row _ _ (by omega))) ?_).mono (by omega)
    refine ⟨U, ⟨?_, ?_, by omega, fun j hj i hi => absurd hi (by omega)⟩, trivial⟩
    · rw [u2_nk _ _ (by omega), tk.1 _ (by omega)]; exact hRU.1
    · rw [u2_at]
  · have y : im = false := by assumption
    subst y
    refine e_iconst rfl ic_m1 ?_
    refine e_ireturn rfl rfl ?_
    exact ⟨rfl, I, J, rfl, FX.rf, hI.mono (by omega)⟩
def a_law (P : Pl) (S : SM) (n : Nat) (w t x : Int32) : Int64 := if inN 3 w = true ∧ inN n t = true ∧ (w = nI 1 → inN (P.1 3) x = true) then lawP P w.toNatClampNeg (nmS P S t.toNatClampNeg (if w = nI 1 then P.2 12 x.toNatClampNeg else 0)) else MINL
theorem c9_law (hG : GK K) (hI : CI I J P S im SI m T kn u Hs B) (hn : P.1 1 = n) (w t x : Int32) : Cw l G (d + 3) m9_law [.ref 0, .int w, .int t, .int x] (I, J, K) (fun r h' => r = some (.long (a_law P S n w t x)) ∧ Pst I J K h' P S im SI m T kn u Hs (B + 1)) := by
  have hG2 := hG
  obtain ⟨⟨k9, t0, t2, t3, t4, t5, t6, t7, t9, t10, t11, t12⟩, -, -, -, hP, hD, hS, -, hS3, -, hU9⟩ := hG2
  have hI2 := hI
  obtain ⟨hR, hW, hC, hHC, hIm, hImg, hRT, U, hRU, hUB⟩ := hI2
  rw [hn] at hC hHC hUB
  have hP2 := hP
  obtain ⟨h3, q0, q1, q2, q3, q4, r1, r2, r3, r4, r5⟩ := hP2
  have h6 := hS.1
  have hn7 := hC.1
  have h0 := hD.1
  have h1 := r5.1
  have g4 := r4.1
  have z4 := hR.2.2.2.2.1.1
  have b4 := hR.2.2.2.2.1.2
  have no : ∀ pc, lk m9_law pc = some (.ldc2_w 170, pc + 3, 3) → lk m9_law (pc + 3) = some (.lreturn, pc + 4, 1) → ¬ (inN 3 w = true ∧ inN n t = true ∧ (w = nI 1 → inN (P.1 3) x = true)) → Gw l G (d + 3) m9_law pc [.ref 0, .int w, .int t, .int x] [] (I, J, K) (fun r h' => r = some (.long (a_law P S n w t x)) ∧ Pst I J K h' P S im SI m T kn u Hs (B + 1)) := by
    intro pc l1 l2 hno
    rw [a_law, if_neg hno]
    refine e_ldc2 l1 k9_170 ?_
    exact e_lreturn l2 rfl ⟨rfl, I, J, rfl, FX.rf, hI.mono (by omega)⟩
  refine Cw.of ok9_law rfl (rfl : argL _ _ = [.ref 0, .int w, .int t, .int x]) ?_
  refine e_iload_n rfl rfl ?_
  first | refine e_if_ltN (tgt := 20) rfl rfl (by omega) ?_ | refine e_if_lt (tgt := 20) rfl rfl (fun z => ?_) (fun z => ?_)
  · have y : w < 0 := by assumption
    exact no 20 rfl rfl (fun q => absurd y (Int32.not_lt.mpr (of_decide_eq_true q.1).1))
  · have y0 : ¬ w < 0 := by assumption
    refine e_iload_n rfl rfl ?_
    refine e_iconst (v := nI 3) rfl ic_3N ?_
    first | refine e_icmp_geN (tgt := 20) rfl rfl (by omega) (by omega) (fun z => ?_) (fun z => ?_) | refine e_icmp_ge (tgt := 20) rfl rfl (fun z => ?_) (fun z => ?_)
    · have y : nI 3 ≤ w := by assumption
      exact no 20 rfl rfl (fun q => absurd (of_decide_eq_true q.1).2 (Int32.not_lt.mpr y))
    · have y1 : ¬ nI 3 ≤ w := by assumption
      have hw : inN 3 w = true := decide_eq_true ⟨Int32.not_lt.mp y0, Int32.not_le.mp y1⟩
      refine e_aload_n rfl rfl ?_
      refine e_getP rfl f9_41 (by assumption) rfl (by assumption) ?_
      refine e_iload_n rfl rfl ?_
      refine e_callVp (kd := 6) (M2 := m6_has) rfl v9_121 ok6_has (c6_has h6 hn7 t) rfl (by assumption) rfl rfl rfl rfl ?_
      first | refine e_if_neB (tgt := 24) rfl rfl (fun z => ?_) (fun z => ?_) | refine e_if_neN (tgt := 24) rfl rfl (by omega) (fun z => ?_) (fun z => ?_) | refine e_if_ne (tgt := 24) rfl rfl (fun z => ?_) (fun z => ?_)
      · have hin : inN n t = true := by assumption
        obtain ⟨j, hj, rfl⟩ := inN_of (by have := hC.2.1; omega) hin
        obtain ⟨i, hi, rfl⟩ := inN_of (by omega) hw
        refine e_iload_n rfl rfl ?_
        refine e_iconst (v := nI 1) rfl ic_1N ?_
        first | refine e_icmp_neN (tgt := 47) rfl rfl (by omega) (by omega) (fun z => ?_) (fun z => ?_) | refine e_icmp_ne (tgt := 47) rfl rfl (fun z => ?_) (fun z => ?_)
        · have y : i ≠ 1 := by assumption
          have yn : ¬ nI i = nI 1 := ne42 y (by omega) (by omega)
          refine e_aload_n rfl rfl ?_
          refine e_getP rfl f9_25 (by assumption) rfl (by assumption) ?_
          refine e_getP rfl f9_172 (by assumption) rfl (by assumption) ?_
          refine e_iload_n rfl rfl ?_
          refine e_aload_n rfl rfl ?_
          refine e_getP rfl f9_34 (by assumption) rfl (by assumption) ?_
          refine e_aload_n rfl rfl ?_
          refine e_getP rfl f9_41 (by assumption) rfl (by assumption) ?_
          refine e_iload_n rfl rfl ?_
          refine e_iload_n rfl rfl ?_
          refine e_iconst (v := nI 1) rfl ic_1N ?_
          first | refine e_icmp_neN (tgt := 73) rfl rfl (by omega) (by omega) (fun z => ?_) (fun z => ?_) | refine e_icmp_ne (tgt := 73) rfl rfl (fun z => ?_) (fun z => ?_)
          · refine e_iconst rfl ic_m1 ?_
            refine e_callV (kd := 0) (M2 := m0_namesOf) rfl v9_176 ok0_namesOf (c0_namesOf hG.hd62 hR hW hC hn hj rAt_m1) rfl (by assumption) rfl rfl rfl rfl (fun r1 h1 q1 => ?_)
            obtain ⟨rfl, I1, rfl, f1, n1⟩ := q1
            refine e_callV (kd := 1) (M2 := m1_work) rfl v9_180 ok1_work (c1_workP hP (hR.frame (fun c a b => f1 c (by omega))) hW hi hD.2.2.2 n1) rfl (by assumption) rfl rfl rfl rfl (fun r1 h1 q1 => ?_)
            obtain ⟨rfl, J2, rfl, g2⟩ := q1
            refine e_lreturn rfl rfl ?_
            rw [a_law, if_pos ⟨hw, hin, fun q => absurd q yn⟩, if_neg yn, nI_clamp (by omega), nI_clamp (by have := hC.2.1; omega)]
            have hq : FQ I J I1 J2 := ⟨fun c b1 b2 b3 b4 b5 => f1 c (by omega), fun c b1 b2 => g2 c (by omega)⟩
            exact ⟨rfl, I1, J2, rfl, hq.fx, (hI.frame hq).mono (by omega)⟩
          · omega
        · have y : i = 1 := by assumption
          subst y
          refine e_aload_n rfl rfl ?_
          refine e_getP rfl f9_25 (by assumption) rfl (by assumption) ?_
          refine e_getP rfl f9_162 (by assumption) rfl (by assumption) ?_
          refine e_iload_n rfl rfl ?_
          refine e_callVp (kd := 4) (M2 := m4_has) rfl v9_156 ok4_has (c4_hasN g4 z4 x) rfl (by assumption) rfl rfl rfl rfl ?_
          first | refine e_if_neB (tgt := 47) rfl rfl (fun z => ?_) (fun z => ?_) | refine e_if_neN (tgt := 47) rfl rfl (by omega) (fun z => ?_) (fun z => ?_) | refine e_if_ne (tgt := 47) rfl rfl (fun z => ?_) (fun z => ?_)
          · have hx : inN (P.1 3) x = true := by assumption
            obtain ⟨v, hv, rfl⟩ := inN_of (by omega) hx
            have e12 : I (33 + 19 + 2) v = P.2 12 v := hR.2.2.2.2.2.2.2.2.1 2 (by omega) v hv
            refine e_aload_n rfl rfl ?_
            refine e_getP rfl f9_25 (by assumption) rfl (by assumption) ?_
            refine e_getP rfl f9_172 (by assumption) rfl (by assumption) ?_
            refine e_iload_n rfl rfl ?_
            refine e_aload_n rfl rfl ?_
            refine e_getP rfl f9_34 (by assumption) rfl (by assumption) ?_
            refine e_aload_n rfl rfl ?_
            refine e_getP rfl f9_41 (by assumption) rfl (by assumption) ?_
            refine e_iload_n rfl rfl ?_
            refine e_iload_n rfl rfl ?_
            refine e_iconst (v := nI 1) rfl ic_1N ?_
            first | refine e_icmp_neN (tgt := 73) rfl rfl (by omega) (by omega) (fun z => ?_) (fun z => ?_) | refine e_icmp_ne (tgt := 73) rfl rfl (fun z => ?_) (fun z => ?_)
            · omega
            · refine e_iload_n rfl rfl ?_
              refine e_goto (tgt := 74) rfl rfl ?_
              refine e_callV (kd := 0) (M2 := m0_namesOf) rfl v9_176 ok0_namesOf (c0_namesOf hG.hd62 hR hW hC hn hj ((rAt_nI hv (by omega)).trans e12)) rfl (by assumption) rfl rfl rfl rfl (fun r1 h1 q1 => ?_)
              obtain ⟨rfl, I1, rfl, f1, n1⟩ := q1
              refine e_callV (kd := 1) (M2 := m1_work) rfl v9_180 ok1_work (c1_workP hP (hR.frame (fun c a b => f1 c (by omega))) hW hi hD.2.2.2 n1) rfl (by assumption) rfl rfl rfl rfl (fun r1 h1 q1 => ?_)
              obtain ⟨rfl, J2, rfl, g2⟩ := q1
              refine e_lreturn rfl rfl ?_
              rw [a_law, if_pos ⟨hw, hin, fun q => hx⟩, if_pos rfl, nI_clamp (by omega), nI_clamp (by have := hC.2.1; omega), nI_clamp (by omega)]
              have hq : FQ I J I1 J2 := ⟨fun c b1 b2 b3 b4 b5 => f1 c (by omega), fun c b1 b2 => g2 c (by omega)⟩
              exact ⟨rfl, I1, J2, rfl, hq.fx, (hI.frame hq).mono (by omega)⟩
          · have hx : inN (P.1 3) x = false := by assumption
            exact no 43 rfl rfl (fun q => absurd (q.2.2 rfl) (by rw [hx]; decide))
      · exact no 20 rfl rfl (fun q => absurd q.2.1 (by rw [z]; decide))
def a_count (P : Pl) (S : SM) (n m : Nat) (kn : Int32) (u : Nat) (w : Int32) : Int32 :=
  if w = nI 0 then nI (P.1 0) else if w = nI 1 then nI (P.1 1) else if w = nI 2 then nI (P.1 3) else if w = nI 3 then nI (P.1 5) else if w = nI 4 then S 8 0
  else if w = nI 5 then nI (cnt (fun t => decide (S 0 t = nI 0)) n) else if w = nI 6 then nI (cnt (fun t => decide (S 0 t = nI 1)) n) else if w = nI 7 then nI (cnt (fun t => decide (S 0 t = nI 3)) n)
  else if w = nI 8 then S 10 0 else if w = nI 9 then S 11 0 else if w = nI 10 then S 12 0 else if w = nI 11 then S 13 0 else if w = nI 12 then S 9 0 else if w = nI 13 then nI m else if w = nI 14 then hmk kn m else if w = nI 15 then nI u else -1
theorem rc_many {s : Nat} (hC : RC I J s n S) (x : Int32) : cnt (fun t => decide (I (s + 1) t = x)) n = cnt (fun t => decide (S 0 t = x)) n := cF_congr n 0 (fun t _ ht => by show decide (I (s + 1) t = x) = decide (S 0 t = x); rw [(hC.2.2.1 t (by omega)).1])
theorem c9_count (hG : GK K) (hI : CI I J P S im SI m T kn u Hs B) (hn : P.1 1 = n) (w : Int32) : Cp l G (d + 2) m9_count [.ref 0, .int w] (I, J, K) (.int (a_count P S n m kn u w)) := by
  have hG2 := hG
  obtain ⟨⟨k9, t0, t2, t3, t4, t5, t6, t7, t9, t10, t11, t12⟩, -, -, -, hP, hD, hS, -, hS3, hT8, hU9⟩ := hG2
  have hI2 := hI
  obtain ⟨hR, hW, hC, hHC, hIm, hImg, hRT, U, hRU, hUB⟩ := hI2
  rw [hn] at hC hHC hUB
  have hP2 := hP
  obtain ⟨h3, q0, q1, q2, q3, q4, r1, r2, r3, r4, r5⟩ := hP2
  have g1 := r1.1
  have g2 := r2.1
  have g4 := r4.1
  have g5 := r5.1
  have h6 := hS.1
  have hT2 := hT8
  obtain ⟨h8, s0, hs⟩ := hT2
  have g8 := hs.1
  have hU2 := hU9
  obtain ⟨h7, v0, hv⟩ := hU2
  have g7 := hv.1
  have hn7 := hC.1
  have hn8 := hC.2.1
  obtain ⟨e8, e9, e10, e11, e12, e13⟩ := hC.2.2.2.2.2.1
  refine Cp.of ok9_count rfl (rfl : argL _ _ = [.ref 0, .int w]) ?_
  refine e_iload_n rfl rfl ?_
  refine sw9_count_1 (fun z => ?_) (fun z => ?_) (fun z => ?_) (fun z => ?_) (fun z => ?_) (fun z => ?_) (fun z => ?_) (fun z => ?_) (fun z => ?_) (fun z => ?_) (fun z => ?_) (fun z => ?_) (fun z => ?_) (fun z => ?_) (fun z => ?_) (fun z => ?_) (fun z0 z1 z2 z3 z4 z5 z6 z7 z8 z9 z10 z11 z12 z13 z14 z15 => ?_)
  · subst z
    refine e_aload_n rfl rfl ?_
    refine e_getP rfl f9_25 (by assumption) rfl (by assumption) ?_
    refine e_getP rfl f9_108 (by assumption) rfl (by assumption) ?_
    refine e_getI rfl f9_300 (by assumption) rfl ?_
    refine e_ireturn rfl rfl ?_
    exact ⟨congrArg (fun v => some (Value.int v)) hR.2.1.1, rfl⟩
  · subst z
    refine e_aload_n rfl rfl ?_
    refine e_getP rfl f9_25 (by assumption) rfl (by assumption) ?_
    refine e_getP rfl f9_118 (by assumption) rfl (by assumption) ?_
    refine e_getI rfl f9_300 (by assumption) rfl ?_
    refine e_ireturn rfl rfl ?_
    exact ⟨congrArg (fun v => some (Value.int v)) hR.2.2.1.1, rfl⟩
  · subst z
    refine e_aload_n rfl rfl ?_
    refine e_getP rfl f9_25 (by assumption) rfl (by assumption) ?_
    refine e_getP rfl f9_162 (by assumption) rfl (by assumption) ?_
    refine e_getI rfl f9_300 (by assumption) rfl ?_
    refine e_ireturn rfl rfl ?_
    exact ⟨congrArg (fun v => some (Value.int v)) hR.2.2.2.2.1.1, rfl⟩
  · subst z
    refine e_aload_n rfl rfl ?_
    refine e_getP rfl f9_25 (by assumption) rfl (by assumption) ?_
    refine e_getP rfl f9_172 (by assumption) rfl (by assumption) ?_
    refine e_getI rfl f9_354 (by assumption) rfl ?_
    refine e_ireturn rfl rfl ?_
    exact ⟨congrArg (fun v => some (Value.int v)) hR.2.2.2.2.2.2.2.2.2.1.2.2.1, rfl⟩
  · subst z
    refine e_aload_n rfl rfl ?_
    refine e_getP rfl f9_41 (by assumption) rfl (by assumption) ?_
    refine e_getI rfl f9_206 (by assumption) rfl ?_
    refine e_ireturn rfl rfl ?_
    exact ⟨congrArg (fun v => some (Value.int v)) e8, rfl⟩
  · subst z
    refine e_aload_n rfl rfl ?_
    refine e_getP rfl f9_41 (by assumption) rfl (by assumption) ?_
    refine e_iconst (v := nI 0) rfl ic_0N ?_
    refine e_callVp (kd := 6) (M2 := m6_howMany) rfl v9_230 ok6_howMany (c6_howMany hS hn7 hn8 _) rfl (by assumption) rfl rfl rfl rfl ?_
    refine e_ireturn rfl rfl ?_
    rw [rc_many hC]
    exact ⟨rfl, rfl⟩
  · subst z
    refine e_aload_n rfl rfl ?_
    refine e_getP rfl f9_41 (by assumption) rfl (by assumption) ?_
    refine e_iconst (v := nI 1) rfl ic_1N ?_
    refine e_callVp (kd := 6) (M2 := m6_howMany) rfl v9_230 ok6_howMany (c6_howMany hS hn7 hn8 _) rfl (by assumption) rfl rfl rfl rfl ?_
    refine e_ireturn rfl rfl ?_
    rw [rc_many hC]
    exact ⟨rfl, rfl⟩
  · subst z
    refine e_aload_n rfl rfl ?_
    refine e_getP rfl f9_41 (by assumption) rfl (by assumption) ?_
    refine e_iconst (v := nI 3) rfl ic_3N ?_
    refine e_callVp (kd := 6) (M2 := m6_howMany) rfl v9_230 ok6_howMany (c6_howMany hS hn7 hn8 _) rfl (by assumption) rfl rfl rfl rfl ?_
    refine e_ireturn rfl rfl ?_
    rw [rc_many hC]
    exact ⟨rfl, rfl⟩
  · subst z
    refine e_aload_n rfl rfl ?_
    refine e_getP rfl f9_41 (by assumption) rfl (by assumption) ?_
    refine e_getI rfl f9_221 (by assumption) rfl ?_
    refine e_ireturn rfl rfl ?_
    exact ⟨congrArg (fun v => some (Value.int v)) e10, rfl⟩
  · subst z
    refine e_aload_n rfl rfl ?_
    refine e_getP rfl f9_41 (by assumption) rfl (by assumption) ?_
    refine e_getI rfl f9_224 (by assumption) rfl ?_
    refine e_ireturn rfl rfl ?_
    exact ⟨congrArg (fun v => some (Value.int v)) e11, rfl⟩
  · subst z
    refine e_aload_n rfl rfl ?_
    refine e_getP rfl f9_41 (by assumption) rfl (by assumption) ?_
    refine e_getI rfl f9_227 (by assumption) rfl ?_
    refine e_ireturn rfl rfl ?_
    exact ⟨congrArg (fun v => some (Value.int v)) e12, rfl⟩
  · subst z
    refine e_aload_n rfl rfl ?_
    refine e_getP rfl f9_41 (by assumption) rfl (by assumption) ?_
    refine e_getI rfl f9_357 (by assumption) rfl ?_
    refine e_ireturn rfl rfl ?_
    exact ⟨congrArg (fun v => some (Value.int v)) e13, rfl⟩
  · subst z
    refine e_aload_n rfl rfl ?_
    refine e_getP rfl f9_41 (by assumption) rfl (by assumption) ?_
    refine e_getI rfl f9_186 (by assumption) rfl ?_
    refine e_ireturn rfl rfl ?_
    exact ⟨congrArg (fun v => some (Value.int v)) e9, rfl⟩
  · subst z
    refine e_aload_n rfl rfl ?_
    refine e_getP rfl f9_54 (by assumption) rfl (by assumption) ?_
    refine e_getP rfl f9_306 (by assumption) rfl (by assumption) ?_
    refine e_getI rfl f9_300 (by assumption) rfl ?_
    refine e_ireturn rfl rfl ?_
    exact ⟨congrArg (fun v => some (Value.int v)) hRT.2.1, rfl⟩
  · subst z
    refine e_aload_n rfl rfl ?_
    refine e_getP rfl f9_54 (by assumption) rfl (by assumption) ?_
    refine e_callVp (kd := 8) (M2 := m8_howManyKnown) rfl v9_360 ok8_howManyKnown (c8_howManyKnown hT8 hRT) rfl (by assumption) rfl rfl rfl rfl ?_
    refine e_ireturn rfl rfl ?_
    exact ⟨rfl, rfl⟩
  · subst z
    refine e_aload_n rfl rfl ?_
    refine e_getP rfl f9_61 (by assumption) rfl (by assumption) ?_
    refine e_getP rfl f9_350 (by assumption) rfl (by assumption) ?_
    refine e_getI rfl f9_300 (by assumption) rfl ?_
    refine e_ireturn rfl rfl ?_
    exact ⟨congrArg (fun v => some (Value.int v)) hRU.2.1, rfl⟩
  · refine e_iconst rfl ic_m1 ?_
    refine e_ireturn rfl rfl ?_
    rw [a_count, if_neg z0, if_neg z1, if_neg z2, if_neg z3, if_neg z4, if_neg z5, if_neg z6, if_neg z7, if_neg z8, if_neg z9, if_neg z10, if_neg z11, if_neg z12, if_neg z13, if_neg z14, if_neg z15]
    exact ⟨rfl, rfl⟩
end MTin5
