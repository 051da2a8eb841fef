/-! ===== the reference: LINES that come but once, a law's LINE ===== -/
def onT (f : Nat → Nat) (n q hi : Nat) (s1 : PSt) : PR := bnd (nuS f n (nI 0) (nI hi) s1) fun s2 => .inr (stP s2 ((pP s2).1, u2 (pP s2).2 20 q (pVa s1)))
def lwT (f : Nat → Nat) (n : Nat) (s1 : PSt) : PR := if nI 9 ≤ pTk s1 ∧ pTk s1 ≤ nI 11 then (if bitOf ((pP s1).2 16 0) (nI (lwN s1)) = true then flS 3 s1 else bnd (avS f n s1) fun s2 => bnd (exT f n (stP s2 (bgP (pP s2) (lwN s1)))) fun s3 => .inr (stP s3 (edP (pP s3) (lwN s1)))) else flS 1 s1
theorem Mz.ft {I I' : IM} {n : Nat} {s s1 : PSt} (h : Mz I n (.inr s)) (hf : FT I I') (ht : Tz I' n (.inr s1)) (e2 : s1.2 = s.2) : Mz I' n (.inr s1) := by
  obtain ⟨-, h1, h2, ⟨h3, h4⟩, h5, h6⟩ := h
  have eP : pP s1 = pP s := congrArg Prod.fst e2
  refine ⟨ht, ?_⟩
  show MP (upF I') (pP s1) ∧ I' 102 33 = nI ((pP s1).1 5) ∧ ((∀ t, 5 ≤ t → t ≤ 7 → bitOf (I' 102 21) (nI (t - 1)) = s1.2.2.1 t) ∧ ∀ w, w < 3 → bitOf (I' 102 21) (nI (16 + w)) = bitOf ((pP s1).2 16 0) (nI w)) ∧ I' 102 22 = nI s1.2.2.2 ∧ I' 102 32 = nI 0
  rw [eP, e2, hf 102 33 (by omega), hf 102 21 (by omega), hf 102 22 (by omega), hf 102 32 (by omega)]
  exact ⟨h1.frame (fun c a b => funext fun i => hf c _ (by omega)), h2, ⟨h3, h4⟩, h5, h6⟩
section MLine3
variable {l : Launch} {G : GG} {d : Nat} {I : IM} {J : JM} {K : Kt} {Q : Option Value → Hp → Prop} {f : Nat → Nat} {n : Nat}
theorem once_fin {q hi : Nat} {x : Int32} {I' W : IM} {s1 : PSt} (hq : q < 3) (hz : Mz I n (.inr s1)) (L : LW I I' (upF I)) (T : Tz I' n (bnd (.inr s1) (nuS f n (nI 0) (nI hi)))) (e : ∀ s s', (.inr s1 : PR) = .inr s → nuS f n (nI 0) (nI hi) s = .inr s' → x = pVa s) : FL I (u2 I' 104 (8 + (4 + q)) x) ∧ Mz (u2 I' 104 (8 + (4 + q)) x) n (onT f n q hi s1) := by
  have LF := L.st (c := 104) (i := 4 + q) (v := x) (by omega) (by omega) (show 8 + (4 + q) = hl 104 + (4 + q) from rfl)
  have TF := T.st (c := 104) (x := 8 + (4 + q)) (v := x) (by omega)
  refine ⟨LF.1, ?_⟩
  unfold onT
  rw [show bnd (.inr s1) (nuS f n (nI 0) (nI hi)) = nuS f n (nI 0) (nI hi) s1 from rfl] at TF
  cases q1 : nuS f n (nI 0) (nI hi) s1 with
  | inl e => rw [q1] at TF; exact ⟨TF, trivial⟩
  | inr s2 =>
    rw [q1] at TF
    rw [bnd_r]
    have y1 : x = pVa s1 := e s1 s2 rfl q1
    have e2 := nu_2 q1
    have eP : pP s2 = pP s1 := congrArg Prod.fst e2
    rw [← y1, eP]
    exact LF.fin hz TF e2 (hz.2.1.st hq) rfl (by dsimp only; rw [u2_ne _ _ (by omega)])
theorem mline_keys (hM : MK K) (hX : TX I f n) {s1 : PSt} (hz : Mz I n (.inr s1)) {y : Int32} (kk : ∀ I', FL I I' → Mz I' n (onT f n 0 20 s1) → Gw l G (d + 8) m10_line 501 [.ref 102, .int y, .null, .null, .null, .null] [] (I', J, K) Q) : Gw l G (d + 8) m10_line 451 [.ref 102, .int y, .null, .null, .null, .null] [] (I, J, K) Q := by
  refine e_aload_n rfl rfl ?_
  refine e_iconst (v := nI 4) rfl ic_4N ?_
  refine e_aload_n rfl rfl ?_
  refine e_iconst (v := nI 0) rfl ic_0N ?_
  refine e_bipush (v := nI 20) rfl bp_20N ?_
  refine e_callV (kd := 10) (M2 := m10_numeral) rfl v10_238 ok10_numeral (c10_numeral hM hX hz.1 (by omega) (by omega)) rfl hM.k rfl rfl rfl rfl (fun r1 h1 q1 => ?_)
  obtain ⟨x1, rfl, I1, rfl, g1, T1, e1⟩ := q1
  refine e_callV (kd := 10) (M2 := m10_reads) rfl v10_242 ok10_reads (c10_reads (k := 4) hM (by omega) _) rfl hM.k rfl rfl rfl rfl (fun r1 h1 q1 => ?_)
  obtain ⟨rfl, rfl⟩ := q1
  refine e_goto (tgt := 501) rfl rfl ?_
  obtain ⟨a, b⟩ := once_fin (q := 0) (W := I1) (by omega) hz (LW.rf.ft g1) T1 e1
  exact kk _ a b
set_option maxRecDepth 4000 in
theorem mline_rust (hM : MK K) (hX : TX I f n) {s1 : PSt} (hz : Mz I n (.inr s1)) {y : Int32} (kk : ∀ I', FL I I' → Mz I' n (onT f n 1 100 s1) → Gw l G (d + 8) m10_line 501 [.ref 102, .int y, .null, .null, .null, .null] [] (I', J, K) Q) : Gw l G (d + 8) m10_line 466 [.ref 102, .int y, .null, .null, .null, .null] [] (I, J, K) Q := by
  refine e_aload_n rfl rfl ?_
  refine e_iconst (v := nI 5) rfl ic_5N ?_
  refine e_aload_n rfl rfl ?_
  refine e_iconst (v := nI 0) rfl ic_0N ?_
  refine e_bipush (v := nI 100) rfl bp_100N ?_
  refine e_callV (kd := 10) (M2 := m10_numeral) rfl v10_238 ok10_numeral (c10_numeral hM hX hz.1 (by omega) (by omega)) rfl hM.k rfl rfl rfl rfl (fun r1 h1 q1 => ?_)
  obtain ⟨x1, rfl, I1, rfl, g1, T1, e1⟩ := q1
  refine e_callV (kd := 10) (M2 := m10_reads) rfl v10_242 ok10_reads (c10_reads (k := 5) hM (by omega) _) rfl hM.k rfl rfl rfl rfl (fun r1 h1 q1 => ?_)
  obtain ⟨rfl, rfl⟩ := q1
  refine e_goto (tgt := 501) rfl rfl ?_
  obtain ⟨a, b⟩ := once_fin (q := 1) (W := I1) (by omega) hz (LW.rf.ft g1) T1 e1
  exact kk _ a b
set_option maxRecDepth 4000 in
theorem mline_seed (hM : MK K) (hX : TX I f n) {s1 : PSt} (hz : Mz I n (.inr s1)) {y : Int32} (kk : ∀ I', FL I I' → Mz I' n (onT f n 2 99999 s1) → Gw l G (d + 8) m10_line 501 [.ref 102, .int y, .null, .null, .null, .null] [] (I', J, K) Q) : Gw l G (d + 8) m10_line 481 [.ref 102, .int y, .null, .null, .null, .null] [] (I, J, K) Q := by
  refine e_aload_n rfl rfl ?_
  refine e_bipush (v := nI 6) rfl bp_6N ?_
  refine e_aload_n rfl rfl ?_
  refine e_iconst (v := nI 0) rfl ic_0N ?_
  refine e_ldc rfl k10_189 ?_
  rw [show (99999 : Int32) = nI 99999 by decide]
  refine e_callV (kd := 10) (M2 := m10_numeral) rfl v10_238 ok10_numeral (c10_numeral hM hX hz.1 (by omega) (by omega)) rfl hM.k rfl rfl rfl rfl (fun r1 h1 q1 => ?_)
  obtain ⟨x1, rfl, I1, rfl, g1, T1, e1⟩ := q1
  refine e_callV (kd := 10) (M2 := m10_reads) rfl v10_242 ok10_reads (c10_reads (k := 6) hM (by omega) _) rfl hM.k rfl rfl rfl rfl (fun r1 h1 q1 => ?_)
  obtain ⟨rfl, rfl⟩ := q1
  refine e_goto (tgt := 501) rfl rfl ?_
  obtain ⟨a, b⟩ := once_fin (q := 2) (W := I1) (by omega) hz (LW.rf.ft g1) T1 e1
  exact kk _ a b
theorem c10_lawLine (hM : MK K) (hX : TX I f n) {s1 : PSt} (hz : Mz I n (.inr s1)) (ho : Okp n s1) : Cw l G (d + 126) m10_lawLine [.ref 102] (I, J, K) (fun r h' => r = none ∧ ∃ I', h' = (I', J, K) ∧ FL I I' ∧ Mz I' n (lwT f n s1)) := by
  have R : tkR (pTk s1) (pVa s1) (I 102 26) (I 102 27) := hz.1.2.2.2.2.1
  have h3 : I 102 28 = nI 0 := hz.1.1
  have out : ∀ I1 k v, (k = 1 ∨ k = 3) → FT I I1 → Tz I1 n (flS k s1) → lwT f n s1 = flS k s1 → Gw l G (d + 126) m10_lawLine 65 [.ref 102, .int v] [] (I1, J, K) (fun r h' => r = none ∧ ∃ I', h' = (I', J, K) ∧ FL I I' ∧ Mz I' n (lwT f n s1)) := by
    intro I1 k v hk g1 T1 e
    have e28 : I1 102 28 = nI k := T1.2.2.1
    refine e_aload_n rfl rfl ?_
    refine e_getI rfl f10_205 hM.k rfl ?_
    rw [e28]
    first | refine e_if_eqB (tgt := 73) rfl rfl (fun z => ?_) (fun z => ?_) | refine e_if_eqN (tgt := 73) rfl rfl (by omega) (fun z => ?_) (fun z => ?_) | refine e_if_eq (tgt := 73) rfl rfl (fun z => ?_) (fun z => ?_)
    · omega
    · refine e_return rfl rfl ?_
      rw [e]
      exact ⟨rfl, I1, rfl, g1.fl, T1, trivial⟩
  have bad : ¬ (nI 9 ≤ pTk s1 ∧ pTk s1 ≤ nI 11) → Gw l G (d + 126) m10_lawLine 25 [.ref 102, .null] [] (I, J, K) (fun r h' => r = none ∧ ∃ I', h' = (I', J, K) ∧ FL I I' ∧ Mz I' n (lwT f n s1)) := by
    intro q
    refine e_aload_n rfl rfl ?_
    refine e_iconst (v := nI 1) rfl ic_1N ?_
    refine e_callV (kd := 10) (M2 := m10_wrong) rfl v10_214 ok10_wrong (c10_wrongM hM hz.1 (k := 1) (by omega) (by omega)) rfl hM.k rfl rfl rfl rfl (fun r1 h1 q1 => ?_)
    obtain ⟨rfl, I1, rfl, g1, T1⟩ := q1
    refine e_aload_n rfl rfl ?_
    refine e_getI rfl f10_180 hM.k rfl ?_
    refine e_bipush (v := nI 8) rfl bp_8N ?_
    have e28 : I1 102 28 = nI 1 := T1.2.2.1
    refine e_isub rfl ?_
    refine e_ist1 rfl rfl rfl ?_
    refine e_aload_n rfl rfl ?_
    refine e_getI rfl f10_205 hM.k rfl ?_
    rw [e28]
    first | refine e_if_neB (tgt := 65) rfl rfl (fun z => ?_) (fun z => ?_) | refine e_if_neN (tgt := 65) rfl rfl (by omega) (fun z => ?_) (fun z => ?_) | refine e_if_ne (tgt := 65) rfl rfl (fun z => ?_) (fun z => ?_)
    · exact out I1 1 _ (by omega) g1 T1 (by unfold lwT; rw [if_neg q])
    · omega
  refine Cw.of ok10_lawLine rfl (rfl : argL _ _ = [.ref 102, .null]) ?_
  refine e_aload_n rfl rfl ?_
  refine e_getI rfl f10_170 hM.k rfl ?_
  refine e_if_ne (tgt := 25) rfl rfl (fun z => ?_) (fun z => ?_)
  · refine bad (fun q => ?_)
    obtain ⟨t, ht, et⟩ := nI_of (x := pTk s1) (Int32.not_lt.mpr (Int32.le_trans (by decide) q.1))
    rw [et, nI_leI (by omega) ht, nI_leI ht (by omega)] at q
    exact R.n0 z (k := t) (by omega) (by omega) et
  · obtain ⟨j, hj, et, ev⟩ := R.w0 z
    have hm := mwF_lt hj
    have lo : mwF j < 8 → ¬ (nI 9 ≤ pTk s1 ∧ pTk s1 ≤ nI 11) := fun q w => by
      rw [et, nI_leI (by omega) (by omega), nI_leI (by omega) (by omega)] at w
      unfold mwF at q
      rw [if_pos (by omega)] at q
      omega
    have hi : 10 < mwF j → ¬ (nI 9 ≤ pTk s1 ∧ pTk s1 ≤ nI 11) := fun q w => by
      rw [et, nI_leI (by omega) (by omega), nI_leI (by omega) (by omega)] at w
      unfold mwF at q
      rw [if_pos (by omega)] at q
      omega
    refine e_aload_n rfl rfl ?_
    refine e_getI rfl f10_180 hM.k rfl ?_
    rw [ev]
    refine e_bipush (v := nI 8) rfl bp_8N ?_
    refine e_icmp_ltN (tgt := 25) rfl rfl (by omega) (by omega) (fun q => bad (lo q)) (fun q8 => ?_)
    refine e_aload_n rfl rfl ?_
    refine e_getI rfl f10_180 hM.k rfl ?_
    rw [ev]
    refine e_bipush (v := nI 10) rfl bp_10N ?_
    refine e_icmp_leN (tgt := 30) rfl rfl (by omega) (by omega) (fun q10 => ?_) (fun q => bad (hi q))
    have ej : mwF j = j := by
      unfold mwF at q10 ⊢
      split
      · rfl
      · next c =>
        rw [if_neg c] at q10
        split at q10 <;> omega
    rw [ej] at q8 q10 ev
    obtain ⟨w, rfl⟩ : ∃ w, j = w + 8 := ⟨j - 8, by omega⟩
    have hw : w < 3 := by omega
    have elw : lwN s1 = w := by
      unfold lwN
      rw [et, pk_sub (by omega), nI_clamp (by omega)]
      omega
    have yes : nI 9 ≤ pTk s1 ∧ pTk s1 ≤ nI 11 := by rw [et, nI_leI (by omega) (by omega), nI_leI (by omega) (by omega)]; omega
    obtain ⟨-, hP, h33, ⟨hb1, hb2⟩, h22, h32⟩ := id hz
    refine e_aload_n rfl rfl ?_
    refine e_getI rfl f10_180 hM.k rfl ?_
    rw [ev]
    refine e_bipush (v := nI 8) rfl bp_8N ?_
    first | refine e_isubN rfl (by omega) ?_ | refine e_isub rfl ?_
    refine e_ist1 rfl rfl rfl ?_
    refine e_aload_n rfl rfl ?_
    refine e_getI rfl f10_205 hM.k rfl ?_
    rw [h3, show w + 8 - 8 = w by omega]
    first | refine e_if_neB (tgt := 65) rfl rfl (fun z => ?_) (fun z => ?_) | refine e_if_neN (tgt := 65) rfl rfl (by omega) (fun z => ?_) (fun z => ?_) | refine e_if_ne (tgt := 65) rfl rfl (fun z => ?_) (fun z => ?_)
    · omega
    · refine e_aload_n rfl rfl ?_
      refine e_getI rfl f10_231 hM.k rfl ?_
      refine e_bipush (v := nI 16) rfl bp_16N ?_
      refine e_iload_n rfl rfl ?_
      first | refine e_iaddN rfl ?_ | refine e_iadd rfl ?_
      refine e_ishr rfl ?_
      refine e_iconst (v := nI 1) rfl ic_1N ?_
      refine e_iand rfl ?_
      refine e_iconst (v := nI 1) rfl ic_1N ?_
      refine e_icmp_ne (tgt := 65) rfl rfl (fun zb => ?_) (fun zb => ?_)
      · have nb : ¬ bitOf ((pP s1).2 16 0) (nI w) = true := fun q => zb ((bit_1 _ _).mpr (by rw [hb2 w hw]; exact q))
        obtain ⟨s2, es2⟩ := avS_go (f := f) (n := n) s1
        have e22 := avS_2 es2
        have eP : pP s2 = pP s1 := congrArg Prod.fst e22
        have el : lwT f n s1 = bnd (exT f n (stP s2 (bgP (pP s2) w))) fun s3 => .inr (stP s3 (edP (pP s3) w)) := by
          unfold lwT
          rw [if_pos yes, elw, if_neg nb, es2, bnd_r]
        rw [el]
        refine e_aload_n rfl rfl ?_
        refine e_getI rfl f10_205 hM.k rfl ?_
        rw [h3]
        first | refine e_if_eqB (tgt := 73) rfl rfl (fun z => ?_) (fun z => ?_) | refine e_if_eqN (tgt := 73) rfl rfl (by omega) (fun z => ?_) (fun z => ?_) | refine e_if_eq (tgt := 73) rfl rfl (fun z => ?_) (fun z => ?_)
        · refine e_aload_n rfl rfl ?_
          refine e_dup rfl rfl ?_
          refine e_getI rfl f10_231 hM.k rfl ?_
          refine e_iconst (v := nI 1) rfl ic_1N ?_
          refine e_bipush (v := nI 16) rfl bp_16N ?_
          refine e_iload_n rfl rfl ?_
          first | refine e_iaddN rfl ?_ | refine e_iadd rfl ?_
          refine e_ishl rfl ?_
          refine e_ior rfl ?_
          refine e_putI rfl f10_231 hM.k rfl rfl ?_
          have X1 : TX (u2 I 102 21 (I 102 21 ||| nI 1 <<< (nI (16 + w) &&& 31))) f n := hX.fl (FL.wo (Or.inl rfl))
          have T1 : Tz (u2 I 102 21 (I 102 21 ||| nI 1 <<< (nI (16 + w) &&& 31))) n (.inr s1) := by
            obtain ⟨⟨a1, a2, a3, a4, a5⟩, -⟩ := hz
            exact ⟨by rw [u2_nk _ _ (by omega)]; exact a1, by rw [u2_nk _ _ (by omega)]; exact a2, a3, by rw [u2_nk _ _ (by omega)]; exact a4, by rw [u2_nk _ _ (by omega), u2_nk _ _ (by omega), u2_nk _ _ (by omega)]; exact a5⟩
          refine e_aload_n rfl rfl ?_
          refine e_callV (kd := 10) (M2 := m10_token) rfl v10_211 ok10_token (c10_tokenM (f := f) hM X1 T1 (by rw [et]; exact nI_m1 (by omega))) rfl hM.k rfl rfl rfl rfl (fun r1 h1 q1 => ?_)
          obtain ⟨rfl, I2, rfl, g2, T2⟩ := q1
          rw [es2] at T2
          have f2 : ∀ c x, ¬ (c = 102 ∧ (x = 21 ∨ 24 ≤ x ∧ x ≤ 29)) → I2 c x = I c x := fun c x q => (g2 c x (by omega)).trans (if_neg (by omega))
          have b2 : I2 102 21 = I 102 21 ||| nI 1 <<< (nI (16 + w) &&& 31) := (g2 102 21 (by omega)).trans (u2_at _ _ _ _)
          have n7 : I2 104 (8 + 7) = nI ((pP s1).1 4) := (f2 104 15 (by omega)).trans hP.1.2.2.2.2.2.2.2
          refine e_aload_n rfl rfl ?_
          refine e_getP rfl f10_55 hM.k rfl hM.p17 ?_
          refine e_iconst (v := nI 3) rfl ic_3N ?_
          refine e_iload_n rfl rfl ?_
          first | refine e_iaddN rfl ?_ | refine e_iadd rfl ?_
          refine e_aload_n rfl rfl ?_
          refine e_bipush (v := nI 7) rfl bp_7N ?_
          refine e_callVp (kd := 10) (M2 := m10_fresher) rfl v10_224 ok10_fresher (c10_fresher hM (by omega)) rfl hM.k rfl rfl rfl rfl ?_
          rw [n7]
          first | refine e_iastoreN rfl hM.a17 (by omega) (by omega) ?_ | (refine e_iastore rfl hM.a17 ?_ ?_; rotate_left)
          have f3 : ∀ c x, ¬ (c = 102 ∧ (x = 21 ∨ 24 ≤ x ∧ x ≤ 29)) → ¬ (c = 118 ∧ x = 3 + w) → u2 I2 118 (3 + w) (nI ((pP s1).1 4)) c x = I c x := fun c x a b => (if_neg b).trans (f2 c x a)
          have FL3 : FL I (u2 I2 118 (3 + w) (nI ((pP s1).1 4))) := fun c x a b => f3 c x (by omega) (fun e => b ⟨by omega, by omega, by rw [e.1, e.2]; exact Nat.le_add_right 3 w⟩)
          have E3 : Ez (u2 I2 118 (3 + w) (nI ((pP s1).1 4))) n 0 (.inr (stP s2 (bgP (pP s2) w))) := by
            refine ⟨(show Tz I2 n (.inr (stP s2 (bgP (pP s2) w))) from T2).st (by omega), ?_⟩
            show _ = nI ((pP s2).1 4) ∧ _ = nI ((pP s2).1 5) ∧ Okp n (stP s2 (bgP (pP s2) w)) ∧ (∀ i, i < (pP s2).1 4 → _ = kS ((bgP (pP s2) w).2 13 i) ∧ _ = kV ((bgP (pP s2) w).2 13 i)) ∧ _
            have e13 : (bgP (pP s1) w).2 13 = (pP s1).2 13 := by
              show u2 (u2 (u2 (pP s1).2 16 0 ((pP s1).2 16 0 ||| nI 1 <<< (nI w &&& 31))) 14 w (nI ((pP s1).1 4))) 15 w (nI ((pP s1).1 4)) 13 = _
              rw [u2_row _ _ (by omega), u2_row _ _ (by omega), u2_row _ _ (by omega)]
            refine ⟨?_, ?_, ⟨T2.2.2.1, ?_⟩, ?_, ?_⟩
            · rw [eP, f3 _ _ (by omega) (by omega)]; exact hP.1.2.2.2.2.2.2.2
            · rw [eP, f3 _ _ (by omega) (by omega)]; exact h33
            · show (pP s2).1 5 ≤ 64 ∧ (pP s2).1 4 ≤ (pP s2).1 5
              rw [eP]; exact ho.2
            · intro i hi
              rw [eP] at hi ⊢
              rw [e13, f3 _ _ (by omega) (by omega), f3 _ _ (by omega) (by omega)]
              exact hP.2.2.2.2.2.2 i hi
            · rw [f3 _ _ (by omega) (by omega)]; exact h32
          refine e_aload_n rfl rfl ?_
          refine e_callV (kd := 10) (M2 := m10_expression) rfl v10_258 ok10_expression (c10_expression (d := d) hM (hX.fl FL3) E3) rfl hM.k rfl rfl rfl rfl (fun r1 h1 q1 => ?_)
          obtain ⟨rfl, I4, rfl, g4, E4⟩ := q1
          have F4 := FL3.tr g4.fl
          cases ez : exT f n (stP s2 (bgP (pP s2) w)) with
          | inl e =>
            rw [ez] at E4
            rw [show bnd (.inl e) (fun s3 => .inr (stP s3 (edP (pP s3) w))) = .inl e from rfl]
            refine e_aload_n rfl rfl ?_
            refine e_getP rfl f10_58 hM.k rfl hM.p18 ?_
            refine e_iconst (v := nI 3) rfl ic_3N ?_
            refine e_iload_n rfl rfl ?_
            first | refine e_iaddN rfl ?_ | refine e_iadd rfl ?_
            refine e_aload_n rfl rfl ?_
            refine e_bipush (v := nI 7) rfl bp_7N ?_
            refine e_callVp (kd := 10) (M2 := m10_fresher) rfl v10_224 ok10_fresher (c10_fresher hM (by omega)) rfl hM.k rfl rfl rfl rfl ?_
            first | refine e_iastoreN rfl hM.a18 (by omega) (by omega) ?_ | (refine e_iastore rfl hM.a18 ?_ ?_; rotate_left)
            refine e_return rfl rfl ?_
            exact ⟨rfl, _, rfl, F4.tr (FL.wu (c := 119) (i := w) (by omega) (by omega)), E4.1.st (by omega), trivial⟩
          | inr s3 =>
            rw [ez] at E4
            rw [bnd_r]
            obtain ⟨T4, k1, k2, k3, k4, k5⟩ := E4
            have gb := (exA_ok hX.2.2.2 6500 _ _ _ _ E3.2.2.2.1 ((exT_eq hX.2.2.2 E3.2.2.2.1).trans (congrArg some ez))).1
            obtain ⟨r1, r2, r3, -⟩ := gb.1
            refine e_aload_n rfl rfl ?_
            refine e_getP rfl f10_58 hM.k rfl hM.p18 ?_
            refine e_iconst (v := nI 3) rfl ic_3N ?_
            refine e_iload_n rfl rfl ?_
            first | refine e_iaddN rfl ?_ | refine e_iadd rfl ?_
            refine e_aload_n rfl rfl ?_
            refine e_bipush (v := nI 7) rfl bp_7N ?_
            refine e_callVp (kd := 10) (M2 := m10_fresher) rfl v10_224 ok10_fresher (c10_fresher hM (by omega)) rfl hM.k rfl rfl rfl rfl ?_
            rw [show I4 104 (8 + 7) = nI ((pP s3).1 4) from k1]
            first | refine e_iastoreN rfl hM.a18 (by omega) (by omega) ?_ | (refine e_iastore rfl hM.a18 ?_ ?_; rotate_left)
            refine e_return rfl rfl ?_
            have f4 : ∀ c x, ¬ (c = 102 ∧ (x = 21 ∨ 24 ≤ x ∧ x ≤ 29 ∨ x = 32 ∨ x = 33)) → ¬ (c = 104 ∧ x = 15) → ¬ (c = 118 ∧ x = 3 + w) → c ≠ 120 → c ≠ 121 → I4 c x = I c x := fun c x a b e p q => (g4 c x (by omega) b (by omega)).trans (f3 c x (by omega) e)
            have b4 : I4 102 21 = I 102 21 ||| nI 1 <<< (nI (16 + w) &&& 31) := (g4 102 21 (by omega) (by omega) (by omega)).trans ((u2_ne _ _ (by omega)).trans b2)
            refine ⟨rfl, _, rfl, F4.tr (FL.wu (c := 119) (i := w) (by omega) (by omega)), T4.st (by omega), ?_⟩
            have o16 : (edP (pP s3) w).2 16 0 = (pP s1).2 16 0 ||| nI 1 <<< (nI w &&& 31) := by
              show u2 (pP s3).2 15 w (nI ((pP s3).1 4)) 16 0 = _
              rw [u2_ne _ _ (by omega), r3 16 (by omega)]
              show (bgP (pP s2) w).2 16 0 = _
              rw [eP]
              show u2 (u2 (u2 (pP s1).2 16 0 ((pP s1).2 16 0 ||| nI 1 <<< (nI w &&& 31))) 14 w (nI ((pP s1).1 4))) 15 w (nI ((pP s1).1 4)) 16 0 = _
              rw [u2_ne _ _ (by omega), u2_ne _ _ (by omega), u2_at]
            refine ⟨?_, ?_, ⟨fun t t1 t2 => ?_, fun x hx => ?_⟩, ?_, ?_⟩
            · refine MP.lw (P3 := pP s3) hP hw (fun k hk => ?_) ?_ (fun c a b => ?_) ?_ ?_ (fun i hi => ?_) (fun k a b => ?_) (fun k a => ?_)
              · exact (u2_ne _ _ (by omega)).trans (f4 104 (8 + k) (by omega) (by omega) (by omega) (by omega) (by omega))
              · exact (u2_ne _ _ (by omega)).trans k1
              · funext i
                exact (u2_ne _ _ (by omega)).trans (f4 c _ (by omega) (by omega) (by omega) (by omega) (by omega))
              · funext i
                show u2 I4 119 (3 + w) (nI ((pP s3).1 4)) 118 (3 + i) = _
                rw [u2_ne _ _ (by omega), g4 _ _ (by omega) (by omega) (by omega)]
                by_cases c : i = w
                · rw [c, u2_at, u2_at]
                · rw [u2_nk _ _ (by omega), u2_nk _ _ c, f2 _ _ (by omega)]; rfl
              · funext i
                show u2 I4 119 (3 + w) (nI ((pP s3).1 4)) 119 (3 + i) = _
                by_cases c : i = w
                · rw [c, u2_at, u2_at]
                · rw [u2_nk _ _ (by omega), u2_nk _ _ c, f4 _ _ (by omega) (by omega) (by omega) (by omega) (by omega)]; rfl
              · show u2 I4 119 (3 + w) (nI ((pP s3).1 4)) 120 (64 + i) = _ ∧ u2 I4 119 (3 + w) (nI ((pP s3).1 4)) 121 (64 + i) = _
                rw [u2_ne _ _ (by omega), u2_ne _ _ (by omega)]
                exact k4 i hi
              · rw [r2 k a b]
                show (pP s2).1 k = _
                rw [eP]
              · rw [r3 k a]
                show (bgP (pP s2) w).2 k = _
                rw [eP]
            · rw [u2_ne _ _ (by omega)]; exact k2
            · rw [u2_ne _ _ (by omega), b4, bit_or _ (by omega) (by omega), decide_eq_false (by omega), Bool.or_false, hb1 t t1 t2]
              show _ = s3.2.2.1 t
              rw [r1]
              show _ = s2.2.2.1 t
              rw [e22]
            · rw [u2_ne _ _ (by omega), b4, bit_or _ (by omega) (by omega), hb2 x hx]
              show _ = bitOf ((edP (pP s3) w).2 16 0) (nI x)
              rw [o16, bit_or _ (by omega) (by omega)]
              congr 1
              exact decide_eq_decide.mpr (by omega)
            · rw [u2_ne _ _ (by omega), f4 _ _ (by omega) (by omega) (by omega) (by omega) (by omega), h22]
              show _ = nI s3.2.2.2
              rw [r1]
              show _ = nI s2.2.2.2
              rw [e22]
            · rw [u2_ne _ _ (by omega)]; exact k5
        · omega
      · have yb : bitOf ((pP s1).2 16 0) (nI w) = true := by rw [← hb2 w hw]; exact (bit_1 _ _).mp zb
        refine e_aload_n rfl rfl ?_
        refine e_iconst (v := nI 3) rfl ic_3N ?_
        refine e_callV (kd := 10) (M2 := m10_wrong) rfl v10_214 ok10_wrong (c10_wrongM hM hz.1 (k := 3) (by omega) (by omega)) rfl hM.k rfl rfl rfl rfl (fun r1 h1 q1 => ?_)
        obtain ⟨rfl, I1, rfl, g1, T1⟩ := q1
        exact out I1 3 _ (by omega) g1 T1 (by unfold lwT; rw [if_pos yes, elw, if_pos yb])
end MLine3
