/-! ===== blows, tried, best, chance ===== -/
/-- runs of days, each in its way -/
def rnS (g : Nat → SM → SM) : Nat → Nat → SM → SM
  | _, 0, S => S
  | i, k + 1, S => rnS g (i + 1) k (g i S)
theorem rn_late {g : Nat → SM → SM} {L : Int32} (h8 : ∀ i S, g i S 8 0 = S 8 0 + nI 1) (h10 : ∀ i S, L < S 8 0 → g i S 10 0 = S 10 0) : ∀ k i S d, S 8 0 = nI d → d + k < 2 ^ 31 → L < S 8 0 → rnS g i k S 10 0 = S 10 0
  | 0, _, _, _, _, _, _ => rfl
  | k + 1, i, S, d, hd, hk, hL => by
    have e : g i S 8 0 = nI (d + 1) := by rw [h8, hd, nI_add]
    rw [rnS, rn_late h8 h10 k (i + 1) (g i S) (d + 1) e (by omega) (by rw [e]; rw [hd] at hL; exact Int32.lt_trans hL ((nI_ltI (by omega) (by omega)).mpr (by omega))), h10 i S hL]
def unsA (P : Pl) (S : SM) (t : Nat) : SM := if S 0 t = 0 ∧ 0 < S 9 0 then unsS P S t else S
theorem unsA_row {P : Pl} {S : SM} {t r c : Nat} (h : r ≠ 0 ∧ r ≠ 4 ∧ r ≠ 9) : unsA P S t r c = S r c := ite_app (unsS_row h) rfl
theorem ot1_nc {P : Pl} {way sp : Int32} {n i t : Nat} {S : SM} (h : S 0 t ≠ 0) : ot1 P way sp n S i 0 t = S 0 t := by
  unfold ot1
  refine ite_app ?_ rfl
  by_cases c : 0 < S 9 0 ∧ (if way = nI 3 then decide (S 0 (P.2 8 i).toNatClampNeg = 0) else topS S n (P.2 8 i).toNatClampNeg) = true
  · rw [if_pos c]
    have c0 : S 0 (P.2 8 i).toNatClampNeg = 0 := by
      by_cases w : way = nI 3
      · have := c.2; rw [if_pos w] at this; exact of_decide_eq_true this
      · have := c.2; rw [if_neg w, topS, Bool.and_eq_true] at this; exact of_decide_eq_true this.1
    have ne : t ≠ (P.2 8 i).toNatClampNeg := fun q => h (q ▸ c0)
    unfold unsS
    rw [u2_ne _ _ (by omega), u2_ne _ _ (by omega), u2_nk _ _ ne]
  · rw [if_neg c, u2_ne _ _ (by omega)]
theorem otS_nc {P : Pl} {way sp : Int32} {n t : Nat} : ∀ k i S, S 0 t ≠ 0 → otS P way sp n i k S 0 t = S 0 t
  | 0, _, _, _ => rfl
  | k + 1, i, S, h => by rw [otS, otS_nc k (i + 1) _ (by rw [ot1_nc h]; exact h), ot1_nc h]
theorem go1_nc {t q : Nat} {S : SM} (h0 : S 0 t ≠ 0) (h3 : S 0 t ≠ nI 3) : go1 S q 0 t ≠ 0 ∧ go1 S q 0 t ≠ nI 3 := by
  unfold go1
  by_cases c : S 0 q = nI 1
  · rw [if_pos c]
    by_cases c2 : 0 < S 4 q - nI 1
    · rw [if_pos c2, u2_ne _ _ (by omega)]
      exact ⟨h0, h3⟩
    · rw [if_neg c2]
      by_cases e : t = q
      · subst e
        rw [u2_at]
        exact ⟨by decide, by decide⟩
      · rw [u2_nk _ _ e, u2_ne _ _ (by omega)]
        exact ⟨h0, h3⟩
  · rw [if_neg c]
    exact ⟨h0, h3⟩
theorem goS_nc {t : Nat} : ∀ k q S, S 0 t ≠ 0 → S 0 t ≠ nI 3 → goS q k S 0 t ≠ 0 ∧ goS q k S 0 t ≠ nI 3
  | 0, _, _, h0, h3 => ⟨h0, h3⟩
  | k + 1, q, S, h0, h3 => by
    rw [goS]
    exact goS_nc k (q + 1) _ (go1_nc h0 h3).1 (go1_nc h0 h3).2
theorem bl1_nc {P : Pl} {t q : Nat} {S : SM} (h0 : S 0 t ≠ 0) : bl1 P S q 0 t = S 0 t := by
  unfold bl1
  by_cases c : S 0 q = 0 ∧ (P.2 6 q ≤ S 8 0 ∨ nI 10 ≤ S 1 q)
  · have e : t ≠ q := fun e => h0 (e ▸ c.1)
    rw [if_pos c, u2_nk _ _ e]
  · rw [if_neg c]
theorem blS_nc {P : Pl} {t : Nat} : ∀ k q S, S 0 t ≠ 0 → blS P q k S 0 t = S 0 t
  | 0, _, _, _ => rfl
  | k + 1, q, S, h0 => by rw [blS, blS_nc k (q + 1) _ (by rw [bl1_nc h0]; exact h0), bl1_nc h0]
/-- one that is neither CLOSED nor BLOWN stays so -/
theorem pa_nc {P : Pl} {dr : Bool} {way sp : Int32} {n t : Nat} {S : SM} (h0 : S 0 t ≠ 0) (h3 : S 0 t ≠ nI 3) : paS P dr way sp n S 0 t ≠ 0 ∧ paS P dr way sp n S 0 t ≠ nI 3 := by
  have e1 : otS P way sp n 0 (P.1 2) S 0 t = S 0 t := otS_nc _ _ _ h0
  have e2 : svS P n 0 (P.1 3) 0 (otS P way sp n 0 (P.1 2) S) 0 t = S 0 t := by rw [svS_row (by omega), e1]
  have h02 : svS P n 0 (P.1 3) 0 (otS P way sp n 0 (P.1 2) S) 0 t ≠ 0 := by rw [e2]; exact h0
  have h32 : svS P n 0 (P.1 3) 0 (otS P way sp n 0 (P.1 2) S) 0 t ≠ nI 3 := by rw [e2]; exact h3
  have e3 : ∀ S3 : SM, S3 0 t ≠ 0 → S3 0 t ≠ nI 3 → u2 (blS P 0 n (if way = nI 1 then S3 else ruS P dr 0 n S3)) 8 0 (blS P 0 n (if way = nI 1 then S3 else ruS P dr 0 n S3) 8 0 + nI 1) 0 t ≠ 0 ∧ u2 (blS P 0 n (if way = nI 1 then S3 else ruS P dr 0 n S3)) 8 0 (blS P 0 n (if way = nI 1 then S3 else ruS P dr 0 n S3) 8 0 + nI 1) 0 t ≠ nI 3 := by
    intro S3 a0 a3
    have e4 : (if way = nI 1 then S3 else ruS P dr 0 n S3) 0 t = S3 0 t := ite_app rfl (ruS_row (by omega) _ _ _)
    rw [u2_ne _ _ (by omega), blS_nc _ _ _ (by rw [e4]; exact a0), e4]
    exact ⟨a0, a3⟩
  unfold paS
  by_cases w5 : way = nI 5
  · simp only [if_pos w5]
    exact e3 _ h02 h32
  · simp only [if_neg w5]
    exact e3 _ (goS_nc _ _ _ h02 h32).1 (goS_nc _ _ _ h02 h32).2
/-- behind how many days is one BLOWN -/
def bwF (P : Pl) (n t : Nat) : Nat → Nat → SM → Int32
  | 0, i, S => if S 0 t = nI 3 then nI i else -2
  | k + 1, i, S => if S 0 t = nI 3 then nI i else bwF P n t k (i + 1) (pa0 P false n S)
theorem bw_nc {P : Pl} {n t : Nat} : ∀ k i S, S 0 t ≠ 0 → S 0 t ≠ nI 3 → bwF P n t k i S = -2
  | 0, i, S, _, h3 => if_neg h3
  | k + 1, i, S, h0, h3 => by
    rw [bwF, if_neg h3]
    exact bw_nc k (i + 1) _ (pa_nc h0 h3).1 (pa_nc h0 h3).2
section MRun2
variable {l : Launch} {G : GG} {d : Nat} {I : IM} {J : JM} {K : Kt} {Q : Option Value → Hp → Prop} {P : Pl} {S : SM} {im : Bool} {SI : SM} {m : Nat} {T : SM} {kn : Int32} {u : Nat} {Hs : Nat → SM} {B n : Nat}
theorem blows_loop (hG : GK K) (hW : wfP P) (hn : P.1 1 = n) {t : Nat} (ht : t < n) {D : Int32} : ∀ k i I J S, i + k = 99 → RP I 33 P → I 62 8 = D → S 8 0 = D + nI i → RC I J 70 n S → I 60 2 = bI false → I 60 3 = nI 0 → (∀ I' J', FQ I J I' J' → Q (some (.int (bwF P n t k i S))) (I', J', K)) → Gw l G (d + 6) m9_blows 33 [.ref 0, .int (nI t), .int (nI i)] [] (I, J, K) Q := by
  have hG2 := hG
  obtain ⟨⟨k9, t0, t2, t3, t4, t5, t6, t7, t9, t10, t11, t12⟩, -, -, -, hP, hD, hS6, hS, -⟩ := hG2
  have h0 := hD.1
  have h66 := hS6.1
  have hS2 := hS
  obtain ⟨h6, p0, p1, p2, p3, p4, p5, p6, a1, a2, a3, a4, a5, a6, a7⟩ := hS2
  have fin : ∀ k i I J S, I 62 8 = D → S 8 0 = D + nI i → RC I J 70 n S → (S 0 t ≠ 0 ∨ k = 0) → Q (some (.int (bwF P n t k i S))) (I, J, K) → Gw l G (d + 6) m9_blows 67 [.ref 0, .int (nI t), .int (nI i)] [] (I, J, K) Q := by
    intro k i I J S e8 eD hC hh hq
    have e0 : I (70 + 1) t = S 0 t := (hC.2.2.1 t ht).1
    have hn8 := hC.2.1
    refine e_aload_n rfl rfl ?_
    refine e_getP rfl f9_45 (by assumption) rfl (by assumption) ?_
    refine e_getP rfl f9_142 (by assumption) rfl (by assumption) ?_
    refine e_iload_n rfl rfl ?_
    first | refine e_ialoadN rfl (by assumption) (by omega) (by omega) ?_ | (refine e_iaload rfl (by assumption) ?_ ?_; rotate_left)
    rw [e0]
    refine e_iconst (v := nI 3) rfl ic_3N ?_
    first | refine e_icmp_neN (tgt := 98) rfl rfl (by omega) (by omega) (fun z => ?_) (fun z => ?_) | refine e_icmp_ne (tgt := 98) rfl rfl (fun z => ?_) (fun z => ?_)
    · have y : ¬ S 0 t = nI 3 := by assumption
      refine e_bipush rfl bp_m2 ?_
      refine e_ireturn rfl rfl ?_
      rcases hh with hh | hh
      · rw [bw_nc k i S hh y] at hq
        exact hq
      · subst hh
        rw [bwF, if_neg y] at hq
        exact hq
    · have y : S 0 t = nI 3 := by assumption
      refine e_aload_n rfl rfl ?_
      refine e_getP rfl f9_45 (by assumption) rfl (by assumption) ?_
      refine e_getI rfl f9_206 (by assumption) rfl ?_
      refine e_aload_n rfl rfl ?_
      refine e_getP rfl f9_41 (by assumption) rfl (by assumption) ?_
      refine e_getI rfl f9_206 (by assumption) rfl ?_
      rw [hC.2.2.2.2.2.1.1, e8, eD]
      refine e_isub rfl ?_
      rw [show D + nI i - D = nI i by rw [Int32.add_comm, Int32.add_sub_cancel]]
      refine e_goto (tgt := 100) rfl rfl ?_
      refine e_ireturn rfl rfl ?_
      have eb : bwF P n t k i S = nI i := by
        cases k with
        | zero => rw [bwF, if_pos y]
        | succ k => rw [bwF, if_pos y]
      rw [eb] at hq
      exact hq
  intro k
  induction k with
  | zero =>
    intro i I J S hi hR e8 eD hC d2 d3 kk
    obtain rfl : i = 99 := by omega
    refine e_iload_n rfl rfl ?_
    refine e_bipush (v := nI 99) rfl bp_99N ?_
    first | refine e_icmp_geN (tgt := 67) rfl rfl (by omega) (by omega) (fun z => ?_) (fun z => ?_) | refine e_icmp_ge (tgt := 67) rfl rfl (fun z => ?_) (fun z => ?_)
    · exact fin 0 99 I J S e8 eD hC (Or.inr rfl) (kk I J FQ.rf)
    · omega
  | succ k ih =>
    intro i I J S hi hR e8 eD hC d2 d3 kk
    have e0 : I (70 + 1) t = S 0 t := (hC.2.2.1 t ht).1
    have hn8 := hC.2.1
    refine e_iload_n rfl rfl ?_
    refine e_bipush (v := nI 99) rfl bp_99N ?_
    first | refine e_icmp_geN (tgt := 67) rfl rfl (by omega) (by omega) (fun z => ?_) (fun z => ?_) | refine e_icmp_ge (tgt := 67) rfl rfl (fun z => ?_) (fun z => ?_)
    · omega
    · refine e_aload_n rfl rfl ?_
      refine e_getP rfl f9_45 (by assumption) rfl (by assumption) ?_
      refine e_iload_n rfl rfl ?_
      refine e_callVp (kd := 6) (M2 := m6_isClosed) rfl v9_203 ok6_isClosed (c6_isClosed hS hC.1 hC.2.1 (nI t)) rfl (by assumption) rfl rfl rfl rfl ?_
      first | refine e_if_eqB (tgt := 67) rfl rfl (fun z => ?_) (fun z => ?_) | refine e_if_eqN (tgt := 67) rfl rfl (by omega) (fun z => ?_) (fun z => ?_) | refine e_if_eq (tgt := 67) rfl rfl (fun z => ?_) (fun z => ?_)
      · rw [inN_nI (by omega) (by omega), decide_eq_true ht, Bool.true_and, nI_clamp (by omega), e0] at z
        exact fin (k + 1) i I J S e8 eD hC (Or.inl (of_decide_eq_false z)) (kk I J FQ.rf)
      · rw [inN_nI (by omega) (by omega), decide_eq_true ht, Bool.true_and, nI_clamp (by omega), e0] at z
        have z0 := of_decide_eq_true z
        refine e_aload_n rfl rfl ?_
        refine e_getP rfl f9_34 (by assumption) rfl (by assumption) ?_
        refine e_aload_n rfl rfl ?_
        refine e_getP rfl f9_45 (by assumption) rfl (by assumption) ?_
        refine e_callV (kd := 0) (M2 := m0_pass) rfl v9_212 ok0_pass (c0_pass hG.hd70 hR hW hC hn d2 d3 rfl) rfl (by assumption) rfl rfl rfl rfl (fun r1 h1 q1 => ?_)
        obtain ⟨rfl, I1, J1, rfl, f1, C1⟩ := q1
        first | refine e_inc2 rfl rfl rfl (incN1 _) ?_ | refine e_inc2 rfl rfl rfl rfl ?_
        refine e_goto (tgt := 33) rfl rfl ?_
        rw [pa_sp (sp' := nI 0) (by decide)] at C1
        have e60 := f1.c60 (by omega)
        refine ih (i + 1) I1 J1 _ (by omega) (f1.rp (by omega) (by omega) hR) (by rw [f1.1 62 (by omega) (by omega)]; exact e8) (by rw [pa_day, eD, ← nI_add, Int32.add_assoc]) C1 (by rw [e60]; exact d2) (by rw [e60]; exact d3) (fun I2 J2 f2 => ?_)
        have := kk I2 J2 (f1.fq.tr f2)
        rw [bwF, if_neg (by rw [z0]; decide)] at this
        exact this
def a_blows (P : Pl) (n : Nat) (S : SM) (t : Int32) : Int32 := if inN n t = true then bwF P n t.toNatClampNeg 99 0 S else -1
theorem c9_blows (hG : GK K) (hI : CI I J P S im SI m T kn u Hs B) (hn : P.1 1 = n) (t : Int32) : Cw l G (d + 6) m9_blows [.ref 0, .int t] (I, J, K) (fun r h' => r = some (.int (a_blows P n S t)) ∧ Pst I J K h' P S im SI m T kn u Hs (B + 1)) := by
  have hG2 := hG
  obtain ⟨⟨k9, t0, t2, t3, t4, t5, t6, t7, t9, t10, t11, t12⟩, -, -, -, hP, hD, hS, hS7, -⟩ := hG2
  have hI2 := hI
  obtain ⟨hR, hW, hC, hHC, hIm, hImg, hRT, U, hRU, hUB⟩ := hI2
  rw [hn] at hC hHC hUB
  have h6 := hS.1
  have h67 := hS7.1
  have h0 := hD.1
  have hn8 := hC.2.1
  refine Cw.of ok9_blows rfl (rfl : argL _ _ = [.ref 0, .int t, .null]) ?_
  refine e_aload_n rfl rfl ?_
  refine e_getP rfl f9_41 (by assumption) rfl (by assumption) ?_
  refine e_iload_n rfl rfl ?_
  refine e_callVp (kd := 6) (M2 := m6_has) rfl v9_121 ok6_has (c6_has h6 hC.1 t) rfl (by assumption) rfl rfl rfl rfl ?_
  first | refine e_if_neB (tgt := 13) rfl rfl (fun z => ?_) (fun z => ?_) | refine e_if_neN (tgt := 13) rfl rfl (by omega) (fun z => ?_) (fun z => ?_) | refine e_if_ne (tgt := 13) rfl rfl (fun z => ?_) (fun z => ?_)
  · have hin : inN n t = true := by assumption
    obtain ⟨j, hj, rfl⟩ := inN_of (by omega) hin
    rw [a_blows, if_pos hin, nI_clamp (by omega)]
    refine e_aload_n rfl rfl ?_
    refine e_getP rfl f9_34 (by assumption) rfl (by assumption) ?_
    refine e_callV (kd := 0) (M2 := m0_asItGoes) rfl v9_216 ok0_asItGoes (c0_asItGoes h0) rfl (by assumption) rfl rfl rfl rfl (fun r1 h1 q1 => ?_)
    obtain ⟨rfl, rfl⟩ := q1
    refine e_aload_n rfl rfl ?_
    refine e_getP rfl f9_45 (by assumption) rfl (by assumption) ?_
    refine e_aload_n rfl rfl ?_
    refine e_getP rfl f9_41 (by assumption) rfl (by assumption) ?_
    refine e_callV (kd := 6) (M2 := m6_take) rfl v9_219 ok6_take (c6_take hS7 hS (by omega)) rfl (by assumption) rfl rfl rfl rfl (fun r1 h1 q1 => ?_)
    obtain ⟨rfl, I1, J1, rfl, tk⟩ := q1
    refine e_iconst (v := nI 0) rfl ic_0N ?_
    refine e_ist2 rfl rfl rfl ?_
    have q1 : FQ I J I1 J1 := ((FQ.rf.u60 _ _).u60 _ _).tr (FQ.took tk)
    have C1 : RC I1 J1 70 n S := took_rc tk (hC.frame (fun c a b => by rw [u2_row _ _ (by omega), u2_row _ _ (by omega)]) rfl)
    refine blows_loop hG hW hn hj (D := S 8 0) 99 0 _ _ S (by omega) (q1.rp hR) (q1.now hC).2.2.2.2.2.1.1 (by rw [show nI 0 = 0 from rfl, Int32.add_zero]) C1 (by rw [tk.1 60 (by omega), u2_nk _ _ (by omega), u2_at]; rfl) (by rw [tk.1 60 (by omega), u2_at]) (fun I2 J2 f2 => ?_)
    have q2 := q1.tr f2
    exact ⟨rfl, I2, J2, rfl, q2.fx, (hI.frame q2).mono (by omega)⟩
  · refine e_iconst rfl ic_m1 ?_
    refine e_ireturn rfl rfl ?_
    rw [a_blows, if_neg (by rw [z]; decide)]
    exact ⟨rfl, I, J, rfl, FX.rf, hI.mono (by omega)⟩
theorem tried_loop (hG : GK K) (hW : wfP P) (hn : P.1 1 = n) {w x : Int32} {N : Nat} (hN : N ≤ 99) : ∀ k i I J S D, i + k = N → RP I 33 P → S 8 0 = nI D → D + k < 2 ^ 31 → RC I J 70 n S → I 60 2 = bI false → I 60 3 = w → I 60 4 = x → (∀ I' J', FQ I J I' J' → I' 70 10 = rnS (fun _ S => paS P false w x n S) i k S 10 0 → ∀ v, Gw l G (d + 6) m9_tried 120 [.ref 0, .int w, .int x, .int (nI N), v] [] (I', J', K) Q) → Gw l G (d + 6) m9_tried 83 [.ref 0, .int w, .int x, .int (nI N), .int (nI i)] [] (I, J, K) Q := by
  have hG2 := hG
  obtain ⟨⟨k9, t0, t2, t3, t4, t5, t6, t7, t9, t10, t11, t12⟩, -, -, -, hP, hD, hS6, hS, -⟩ := hG2
  have h0 := hD.1
  have d0 := hD.2.1
  have h3 := hP.1
  have h6 := hS.1
  intro k
  induction k with
  | zero =>
    intro i I J S D hi hR eD hD hC d2 d3 d4 kk
    obtain rfl : i = N := by omega
    refine e_iload rfl rfl ?_
    refine e_iload_n rfl rfl ?_
    first | refine e_icmp_geN (tgt := 120) rfl rfl (by omega) (by omega) (fun z => ?_) (fun z => ?_) | refine e_icmp_ge (tgt := 120) rfl rfl (fun z => ?_) (fun z => ?_)
    · exact kk I J FQ.rf hC.2.2.2.2.2.1.2.2.1 _
    · omega
  | succ k ih =>
    intro i I J S D hi hR eD hDk hC d2 d3 d4 kk
    have e8 : I 70 8 = S 8 0 := hC.2.2.2.2.2.1.1
    have o9 : I 33 9 = P.2 20 4 := hR.2.2.2.2.2.2.2.2.2.2.2.2.2.2.2.2
    refine e_iload rfl rfl ?_
    refine e_iload_n rfl rfl ?_
    first | refine e_icmp_geN (tgt := 120) rfl rfl (by omega) (by omega) (fun z => ?_) (fun z => ?_) | refine e_icmp_ge (tgt := 120) rfl rfl (fun z => ?_) (fun z => ?_)
    · omega
    · refine e_aload_n rfl rfl ?_
      refine e_getP rfl f9_34 (by assumption) rfl (by assumption) ?_
      refine e_aload_n rfl rfl ?_
      refine e_getP rfl f9_45 (by assumption) rfl (by assumption) ?_
      refine e_callVp (kd := 0) (M2 := m0_mayBringGlory) rfl v9_252 ok0_mayBringGlory (c0_mayBringGlory h0 d0 h3 h6) rfl (by assumption) rfl rfl rfl rfl ?_
      first | refine e_if_eqB (tgt := 120) rfl rfl (fun z => ?_) (fun z => ?_) | refine e_if_eqN (tgt := 120) rfl rfl (by omega) (fun z => ?_) (fun z => ?_) | refine e_if_eq (tgt := 120) rfl rfl (fun z => ?_) (fun z => ?_)
      · rw [e8, o9] at z
        have z0 := Int32.not_le.mp (of_decide_eq_false z)
        refine kk I J FQ.rf ?_ _
        rw [rn_late (L := P.2 20 4) (fun _ _ => pa_day) (fun _ _ h => pa_glory hW h) (k + 1) i S D eD hDk z0]
        exact hC.2.2.2.2.2.1.2.2.1
      · refine e_aload_n rfl rfl ?_
        refine e_getP rfl f9_34 (by assumption) rfl (by assumption) ?_
        refine e_aload_n rfl rfl ?_
        refine e_getP rfl f9_45 (by assumption) rfl (by assumption) ?_
        refine e_callV (kd := 0) (M2 := m0_pass) rfl v9_212 ok0_pass (c0_pass hG.hd70 hR hW hC hn d2 d3 d4) rfl (by assumption) rfl rfl rfl rfl (fun r1 h1 q1 => ?_)
        obtain ⟨rfl, I1, J1, rfl, f1, C1⟩ := q1
        first | refine e_inc4 rfl rfl rfl (incN1 _) ?_ | refine e_inc4 rfl rfl rfl rfl ?_
        refine e_goto (tgt := 83) rfl rfl ?_
        have e60 := f1.c60 (by omega)
        refine ih (i + 1) I1 J1 _ (D + 1) (by omega) (f1.rp (by omega) (by omega) hR) (by rw [pa_day, eD, nI_add]) (by omega) C1 (by rw [e60]; exact d2) (by rw [e60]; exact d3) (by rw [e60]; exact d4) (fun I2 J2 f2 e => ?_)
        exact kk I2 J2 (f1.fq.tr f2) e
def a_tried (P : Pl) (n : Nat) (S : SM) (w x y : Int32) : Int32 := if inN 6 w = true ∧ inN 100 y = true ∧ (if w = nI 2 then inN n x = true else x = 0) then rnS (fun _ S => paS P false w x n S) 0 y.toNatClampNeg (if w = nI 4 then u2 S 9 0 (nI 20) else S) 10 0 - S 10 0 else -1
theorem c9_tried (hG : GK K) (hI : CI I J P S im SI m T kn u Hs B) (hV : wfS P S) (hn : P.1 1 = n) (w x y : Int32) : Cw l G (d + 6) m9_tried [.ref 0, .int w, .int x, .int y] (I, J, K) (fun r h' => r = some (.int (a_tried P n S w x y)) ∧ Pst I J K h' P S im SI m T kn u Hs (B + 1)) := by
  have hG2 := hG
  obtain ⟨⟨k9, t0, t2, t3, t4, t5, t6, t7, t9, t10, t11, t12⟩, -, -, -, hP, hD, hS, hS7, -⟩ := hG2
  have hI2 := hI
  obtain ⟨hR, hW, hC, hHC, hIm, hImg, hRT, U, hRU, hUB⟩ := hI2
  rw [hn] at hC hHC hUB
  have h6 := hS.1
  have h67 := hS7.1
  have h0 := hD.1
  have hn8 := hC.2.1
  obtain ⟨D, hD2, eD⟩ := hV.2.2
  have no : ¬ (inN 6 w = true ∧ inN 100 y = true ∧ (if w = nI 2 then inN n x = true else x = 0)) → ∀ pc v, lk m9_tried pc = some (.iconst (-1), pc + 1, 1) → lk m9_tried (pc + 1) = some (.ireturn, pc + 2, 1) → Gw l G (d + 6) m9_tried pc [.ref 0, .int w, .int x, .int y, v] [] (I, J, K) (fun r h' => r = some (.int (a_tried P n S w x y)) ∧ Pst I J K h' P S im SI m T kn u Hs (B + 1)) := by
    intro hno pc v l1 l2
    rw [a_tried, if_neg hno]
    refine e_iconst l1 ic_m1 ?_
    exact e_ireturn l2 rfl ⟨rfl, I, J, rfl, FX.rf, hI.mono (by omega)⟩
  refine Cw.of ok9_tried rfl (rfl : argL _ _ = [.ref 0, .int w, .int x, .int y, .null]) ?_
  refine e_iload_n rfl rfl ?_
  first | refine e_if_ltN (tgt := 19) rfl rfl (by omega) ?_ | refine e_if_lt (tgt := 19) rfl rfl (fun z => ?_) (fun z => ?_)
  · have y : w < 0 := by assumption
    exact no (fun q => (inN_lo (k := 5) (by omega) q.1).1 y) _ _ rfl rfl
  · have y0 : ¬ w < 0 := by assumption
    refine e_iload_n rfl rfl ?_
    refine e_iconst (v := nI 5) rfl ic_5N ?_
    first | refine e_icmp_gtN (tgt := 19) rfl rfl (by omega) (by omega) (fun z => ?_) (fun z => ?_) | refine e_icmp_gt (tgt := 19) rfl rfl (fun z => ?_) (fun z => ?_)
    · have y : nI 5 < w := by assumption
      exact no (fun q => absurd (inN_lo (k := 5) (by omega) q.1).2 (Int32.not_le.mpr y)) _ _ rfl rfl
    · have y1 : ¬ nI 5 < w := by assumption
      have hw : inN 6 w = true := inN_hi (k := 5) (by omega) y0 (Int32.not_lt.mp y1)
      refine e_iload_n rfl rfl ?_
      first | refine e_if_ltN (tgt := 19) rfl rfl (by omega) ?_ | refine e_if_lt (tgt := 19) rfl rfl (fun z => ?_) (fun z => ?_)
      · have y : y < 0 := by assumption
        exact no (fun q => (inN_lo (k := 99) (by omega) q.2.1).1 y) _ _ rfl rfl
      · have y2 : ¬ y < 0 := by assumption
        refine e_iload_n rfl rfl ?_
        refine e_bipush (v := nI 99) rfl bp_99N ?_
        first | refine e_icmp_leN (tgt := 21) rfl rfl (by omega) (by omega) (fun z => ?_) (fun z => ?_) | refine e_icmp_le (tgt := 21) rfl rfl (fun z => ?_) (fun z => ?_)
        · have y3 : y ≤ nI 99 := by assumption
          have hy : inN 100 y = true := inN_hi (k := 99) (by omega) y2 y3
          obtain ⟨N, hN, rfl⟩ := inN_of (by omega) hy
          have main : (if w = nI 2 then inN n x = true else x = 0) → ∀ v, Gw l G (d + 6) m9_tried 46 [.ref 0, .int w, .int x, .int (nI N), v] [] (I, J, K) (fun r h' => r = some (.int (a_tried P n S w x (nI N))) ∧ Pst I J K h' P S im SI m T kn u Hs (B + 1)) := by
            intro hok v
            rw [a_tried, if_pos ⟨hw, hy, hok⟩, nI_clamp (by omega)]
            refine e_aload_n rfl rfl ?_
            refine e_getP rfl f9_34 (by assumption) rfl (by assumption) ?_
            refine e_iload_n rfl rfl ?_
            refine e_iload_n rfl rfl ?_
            refine e_callV (kd := 0) (M2 := m0_otherwise) rfl v9_347 ok0_otherwise (c0_otherwise h0 w x) rfl (by assumption) rfl rfl rfl rfl (fun r1 h1 q1 => ?_)
            obtain ⟨rfl, rfl⟩ := q1
            refine e_aload_n rfl rfl ?_
            refine e_getP rfl f9_45 (by assumption) rfl (by assumption) ?_
            refine e_aload_n rfl rfl ?_
            refine e_getP rfl f9_41 (by assumption) rfl (by assumption) ?_
            refine e_callV (kd := 6) (M2 := m6_take) rfl v9_219 ok6_take (c6_take hS7 hS (by omega)) rfl (by assumption) rfl rfl rfl rfl (fun r1 h1 q1 => ?_)
            obtain ⟨rfl, I1, J1, rfl, tk⟩ := q1
            have q1 : FQ I J I1 J1 := (((FQ.rf.u60 _ _).u60 _ _).u60 _ _).tr (FQ.took tk)
            have C1 : RC I1 J1 70 n S := took_rc tk (hC.frame (fun c a b => by rw [u2_row _ _ (by omega), u2_row _ _ (by omega), u2_row _ _ (by omega)]) rfl)
            have w2 : I1 60 2 = bI false := by rw [tk.1 60 (by omega), u2_nk _ _ (by omega), u2_nk _ _ (by omega), u2_at]; rfl
            have w3 : I1 60 3 = w := by rw [tk.1 60 (by omega), u2_nk _ _ (by omega), u2_at]
            have w4 : I1 60 4 = x := by rw [tk.1 60 (by omega), u2_at]
            have tail : ∀ I2 S2, FQ I J I2 J1 → RC I2 J1 70 n S2 → S2 8 0 = nI D → I2 60 = I1 60 → S2 = (if w = nI 4 then u2 S 9 0 (nI 20) else S) → ∀ v, Gw l G (d + 6) m9_tried 80 [.ref 0, .int w, .int x, .int (nI N), v] [] (I2, J1, K) (fun r h' => r = some (.int (rnS (fun _ S => paS P false w x n S) 0 N (if w = nI 4 then u2 S 9 0 (nI 20) else S) 10 0 - S 10 0)) ∧ Pst I J K h' P S im SI m T kn u Hs (B + 1)) := by
              intro I2 S2 q2 C2 eD2 e60 eS v
              refine e_iconst (v := nI 0) rfl ic_0N ?_
              refine e_ist4 rfl rfl rfl ?_
              refine tried_loop hG hW hn (by omega) N 0 _ _ S2 D (by omega) (q2.rp hR) eD2 (by omega) C2 (by rw [e60]; exact w2) (by rw [e60]; exact w3) (by rw [e60]; exact w4) (fun I3 J3 f3 e v => ?_)
              have q3 := q2.tr f3
              refine e_aload_n rfl rfl ?_
              refine e_getP rfl f9_45 (by assumption) rfl (by assumption) ?_
              refine e_getI rfl f9_221 (by assumption) rfl ?_
              refine e_aload_n rfl rfl ?_
              refine e_getP rfl f9_41 (by assumption) rfl (by assumption) ?_
              refine e_getI rfl f9_221 (by assumption) rfl ?_
              rw [e, (q3.now hC).2.2.2.2.2.1.2.2.1, eS]
              refine e_isub rfl ?_
              refine e_ireturn rfl rfl ⟨rfl, I3, J3, rfl, q3.fx, (hI.frame q3).mono (by omega)⟩
            refine e_iload_n rfl rfl ?_
            refine e_iconst (v := nI 4) rfl ic_4N ?_
            first | refine e_icmp_neN (tgt := 80) rfl rfl (by omega) (by omega) (fun z => ?_) (fun z => ?_) | refine e_icmp_ne (tgt := 80) rfl rfl (fun z => ?_) (fun z => ?_)
            · have y : ¬ w = nI 4 := by assumption
              exact tail I1 S q1 C1 eD rfl (by rw [if_neg y]) _
            · have y : w = nI 4 := by assumption
              refine e_aload_n rfl rfl ?_
              refine e_getP rfl f9_45 (by assumption) rfl (by assumption) ?_
              refine e_bipush (v := nI 20) rfl bp_20N ?_
              refine e_putI rfl f9_186 (by assumption) rfl rfl ?_
              exact tail _ (u2 S 9 0 (nI 20)) (q1.u70 (by omega) _ _) (C1.up9 _) (by rw [u2_ne _ _ (by omega)]; exact eD) (u2_row _ _ (by omega)) (by rw [if_pos y]) _
          refine e_iload_n rfl rfl ?_
          refine e_iconst (v := nI 2) rfl ic_2N ?_
          first | refine e_icmp_neN (tgt := 40) rfl rfl (by omega) (by omega) (fun z => ?_) (fun z => ?_) | refine e_icmp_ne (tgt := 40) rfl rfl (fun z => ?_) (fun z => ?_)
          · have y : ¬ w = nI 2 := by assumption
            refine e_iload_n rfl rfl ?_
            first | refine e_if_eqB (tgt := 46) rfl rfl (fun z => ?_) (fun z => ?_) | refine e_if_eqN (tgt := 46) rfl rfl (by omega) (fun z => ?_) (fun z => ?_) | refine e_if_eq (tgt := 46) rfl rfl (fun z => ?_) (fun z => ?_)
            · have yx : x = 0 := by assumption
              exact main (by rw [if_neg y]; exact yx) _
            · have yx : ¬ x = 0 := by assumption
              exact no (fun q => by have := q.2.2; rw [if_neg y] at this; exact yx this) _ _ rfl rfl
          · have y : w = nI 2 := by assumption
            refine e_aload_n rfl rfl ?_
            refine e_getP rfl f9_41 (by assumption) rfl (by assumption) ?_
            refine e_iload_n rfl rfl ?_
            refine e_callVp (kd := 6) (M2 := m6_has) rfl v9_121 ok6_has (c6_has h6 hC.1 x) rfl (by assumption) rfl rfl rfl rfl ?_
            first | refine e_if_neB (tgt := 46) rfl rfl (fun z => ?_) (fun z => ?_) | refine e_if_neN (tgt := 46) rfl rfl (by omega) (fun z => ?_) (fun z => ?_) | refine e_if_ne (tgt := 46) rfl rfl (fun z => ?_) (fun z => ?_)
            · have yx : inN n x = true := by assumption
              exact main (by rw [if_pos y]; exact yx) _
            · have yx : inN n x = false := by assumption
              refine e_goto (tgt := 44) rfl rfl ?_
              exact no (fun q => by have := q.2.2; rw [if_pos y, yx] at this; exact absurd this (by decide)) _ _ rfl rfl
        · exact no (fun q => absurd (inN_lo (k := 99) (by omega) q.2.1).2 (by assumption)) _ _ rfl rfl
end MRun2
