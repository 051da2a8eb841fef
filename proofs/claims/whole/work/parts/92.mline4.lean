/-! ===== the reference: a LINE, LINES ===== -/
theorem lnS_0 {f : Nat → Nat} {n : Nat} {s : PSt} (h : pTk s = nI 1) : lnS f n s = kiS f n s := by
  unfold lnS
  rw [if_pos h]
theorem lnS_1 {f : Nat → Nat} {n : Nat} {s : PSt} (h : pTk s = nI 2) : lnS f n s = tiS f n s := by
  unfold lnS
  rw [if_neg (by rw [h]; decide), if_pos h]
theorem lnS_2 {f : Nat → Nat} {n : Nat} {s : PSt} (h : pTk s = nI 3) : lnS f n s = opS f n s := by
  unfold lnS
  rw [if_neg (by rw [h]; decide), if_neg (by rw [h]; decide), if_pos h]
theorem lnS_3 {f : Nat → Nat} {n : Nat} {s : PSt} (h : pTk s = nI 4) : lnS f n s = waS f n s := by
  unfold lnS
  rw [if_neg (by rw [h]; decide), if_neg (by rw [h]; decide), if_neg (by rw [h]; decide), if_pos h]
theorem lnS_4 {f : Nat → Nat} {n : Nat} {s : PSt} (h : pTk s = nI 5) : lnS f n s = onS f n 5 0 (nI 20) s := by
  unfold lnS
  rw [if_neg (by rw [h]; decide), if_neg (by rw [h]; decide), if_neg (by rw [h]; decide), if_neg (by rw [h]; decide), if_pos h]
theorem lnS_5 {f : Nat → Nat} {n : Nat} {s : PSt} (h : pTk s = nI 6) : lnS f n s = onS f n 6 1 (nI 100) s := by
  unfold lnS
  rw [if_neg (by rw [h]; decide), if_neg (by rw [h]; decide), if_neg (by rw [h]; decide), if_neg (by rw [h]; decide), if_neg (by rw [h]; decide), if_pos h]
theorem lnS_6 {f : Nat → Nat} {n : Nat} {s : PSt} (h : pTk s = nI 7) : lnS f n s = onS f n 7 2 (nI 99999) s := by
  unfold lnS
  rw [if_neg (by rw [h]; decide), if_neg (by rw [h]; decide), if_neg (by rw [h]; decide), if_neg (by rw [h]; decide), if_neg (by rw [h]; decide), if_neg (by rw [h]; decide), if_pos h]
theorem lnS_7 {f : Nat → Nat} {n : Nat} {s : PSt} (h : pTk s = nI 8) : lnS f n s = lwS f n s := by
  unfold lnS
  rw [if_neg (by rw [h]; decide), if_neg (by rw [h]; decide), if_neg (by rw [h]; decide), if_neg (by rw [h]; decide), if_neg (by rw [h]; decide), if_neg (by rw [h]; decide), if_neg (by rw [h]; decide), if_pos h]
theorem ln_f0 {f : Nat → Nat} {n : Nat} {s : PSt} (h : pTk s = nI 1) (q : (pP s).1 0 = 6) : lnS f n s = flS 2 s := by
  rw [lnS_0 h]
  unfold kiS roS
  rw [if_pos (by omega)]
  rfl
theorem ln_g0 {f : Nat → Nat} {n : Nat} {s s1 : PSt} (h : pTk s = nI 1) (q : (pP s).1 0 < 6) (e : avS f n s = .inr s1) : lnS f n s = kiT f n s1 := by
  rw [lnS_0 h]
  unfold kiS roS kiT
  rw [if_neg (by omega), e]
  rfl
theorem ln_f1 {f : Nat → Nat} {n : Nat} {s : PSt} (h : pTk s = nI 2) (q : (pP s).1 1 = 8) : lnS f n s = flS 2 s := by
  rw [lnS_1 h]
  unfold tiS roS
  rw [if_pos (by omega)]
  rfl
theorem ln_g1 {f : Nat → Nat} {n : Nat} {s s1 : PSt} (h : pTk s = nI 2) (q : (pP s).1 1 < 8) (e : avS f n s = .inr s1) : lnS f n s = tiT f n s1 := by
  rw [lnS_1 h]
  unfold tiS roS tiT
  rw [if_neg (by omega), e]
  rfl
theorem ln_f2 {f : Nat → Nat} {n : Nat} {s : PSt} (h : pTk s = nI 3) (q : (pP s).1 2 = 10) : lnS f n s = flS 2 s := by
  rw [lnS_2 h]
  unfold opS roS
  rw [if_pos (by omega)]
  rfl
theorem ln_g2 {f : Nat → Nat} {n : Nat} {s s1 : PSt} (h : pTk s = nI 3) (q : (pP s).1 2 < 10) (e : avS f n s = .inr s1) : lnS f n s = opT f n s1 := by
  rw [lnS_2 h]
  unfold opS roS opT
  rw [if_neg (by omega), e]
  rfl
theorem ln_f3 {f : Nat → Nat} {n : Nat} {s : PSt} (h : pTk s = nI 4) (q : (pP s).1 3 = 8) : lnS f n s = flS 2 s := by
  rw [lnS_3 h]
  unfold waS roS
  rw [if_pos (by omega)]
  rfl
theorem ln_g3 {f : Nat → Nat} {n : Nat} {s s1 : PSt} (h : pTk s = nI 4) (q : (pP s).1 3 < 8) (e : avS f n s = .inr s1) : lnS f n s = waT f n s1 := by
  rw [lnS_3 h]
  unfold waS roS waT
  rw [if_neg (by omega), e]
  rfl
/-- with LINE t told -/
def tlS (s : PSt) (t : Nat) : PSt := (s.1, s.2.1, fun k => s.2.2.1 k || decide (t = k), s.2.2.2)
theorem ln_f4 {f : Nat → Nat} {n : Nat} {s : PSt} (h : pTk s = nI 5) (q : s.2.2.1 5 = true) : lnS f n s = flS 3 s := by
  rw [lnS_4 h]
  unfold onS
  rw [if_pos q]
theorem ln_g4 {f : Nat → Nat} {n : Nat} {s s1 : PSt} (h : pTk s = nI 5) (q : ¬ s.2.2.1 5 = true) (e : avS f n (tlS s 5) = .inr s1) : lnS f n s = onT f n 0 20 s1 := by
  rw [lnS_4 h]
  unfold onS onT
  rw [if_neg q]
  show bnd (avS f n (tlS s 5)) _ = _
  rw [e]
  rfl
theorem ln_f5 {f : Nat → Nat} {n : Nat} {s : PSt} (h : pTk s = nI 6) (q : s.2.2.1 6 = true) : lnS f n s = flS 3 s := by
  rw [lnS_5 h]
  unfold onS
  rw [if_pos q]
theorem ln_g5 {f : Nat → Nat} {n : Nat} {s s1 : PSt} (h : pTk s = nI 6) (q : ¬ s.2.2.1 6 = true) (e : avS f n (tlS s 6) = .inr s1) : lnS f n s = onT f n 1 100 s1 := by
  rw [lnS_5 h]
  unfold onS onT
  rw [if_neg q]
  show bnd (avS f n (tlS s 6)) _ = _
  rw [e]
  rfl
theorem ln_f6 {f : Nat → Nat} {n : Nat} {s : PSt} (h : pTk s = nI 7) (q : s.2.2.1 7 = true) : lnS f n s = flS 3 s := by
  rw [lnS_6 h]
  unfold onS
  rw [if_pos q]
theorem ln_g6 {f : Nat → Nat} {n : Nat} {s s1 : PSt} (h : pTk s = nI 7) (q : ¬ s.2.2.1 7 = true) (e : avS f n (tlS s 7) = .inr s1) : lnS f n s = onT f n 2 99999 s1 := by
  rw [lnS_6 h]
  unfold onS onT
  rw [if_neg q]
  show bnd (avS f n (tlS s 7)) _ = _
  rw [e]
  rfl
theorem ln_g7 {f : Nat → Nat} {n : Nat} {s s1 : PSt} (h : pTk s = nI 8) (e : avS f n s = .inr s1) : lnS f n s = lwT f n s1 := by
  rw [lnS_7 h]
  unfold lwS lwT
  rw [e]
  rfl
def nlS (s : PSt) : PR := .inr (s.1, s.2.1, s.2.2.1, s.2.2.2 + 1)
section MLine4
variable {l : Launch} {G : GG} {d : Nat} {I : IM} {J : JM} {K : Kt} {Q : Option Value → Hp → Prop} {f : Nat → Nat} {n : Nat}
set_option maxRecDepth 6000 in
theorem mline_end (hM : MK K) {I1 : IM} (hX : TX I1 f n) (g1 : FL I I1) {zz : PR} (hz : Mz I1 n zz) {v1 v2 v3 v4 v5 : Value} : Gw l G (d + 8) m10_line 501 [.ref 102, v1, v2, v3, v4, v5] [] (I1, J, K) (fun r h' => r = none ∧ ∃ I', h' = (I', J, K) ∧ FL I I' ∧ Mz I' n (bnd (bnd zz (exS f n (nI 59))) nlS)) := by
  cases zz with
  | inl e =>
    have h3 := hz.1.2.2.1
    have h1 := hz.1.1
    have h2 := hz.1.2.1
    refine e_aload_n rfl rfl ?_
    refine e_getI rfl f10_205 hM.k rfl ?_
    rw [h3]
    first | refine e_if_eqB (tgt := 509) rfl rfl (fun z => ?_) (fun z => ?_) | refine e_if_eqN (tgt := 509) rfl rfl (by omega) (fun z => ?_) (fun z => ?_) | refine e_if_eq (tgt := 509) rfl rfl (fun z => ?_) (fun z => ?_)
    · exact absurd (by assumption) h1
    · refine e_return rfl rfl ?_
      exact ⟨rfl, I1, rfl, g1, hz⟩
  | inr s =>
    have h3 : I1 102 28 = nI 0 := hz.1.1
    have h22 : I1 102 22 = nI s.2.2.2 := hz.2.2.2.2.1
    refine e_aload_n rfl rfl ?_
    refine e_getI rfl f10_205 hM.k rfl ?_
    rw [h3]
    first | refine e_if_eqB (tgt := 509) rfl rfl (fun z => ?_) (fun z => ?_) | refine e_if_eqN (tgt := 509) rfl rfl (by omega) (fun z => ?_) (fun z => ?_) | refine e_if_eq (tgt := 509) rfl rfl (fun z => ?_) (fun z => ?_)
    · refine e_aload_n rfl rfl ?_
      refine e_bipush (v := nI 59) rfl bp_59N ?_
      refine e_callVp (kd := 10) (M2 := m10_isSign) rfl v10_252 ok10_isSign (c10_isSign hM hz.1 (by omega)) rfl hM.k rfl rfl rfl rfl ?_
      refine e_if_neB (tgt := 526) rfl rfl (fun z => ?_) (fun z => ?_)
      · have t59 : pTk s = nI 59 := of_decide_eq_true z
        obtain ⟨s2, es⟩ := avS_go (f := f) (n := n) s
        refine e_aload_n rfl rfl ?_
        refine e_callV (kd := 10) (M2 := m10_token) rfl v10_211 ok10_token (c10_tokenM hM hX hz.1 (by rw [t59]; decide)) rfl hM.k rfl rfl rfl rfl (fun r1 h1 q1 => ?_)
        obtain ⟨rfl, I2, rfl, g2, T2⟩ := q1
        rw [es] at T2
        have M2 := hz.ft g2 T2 (avS_2 es)
        have e22 : I2 102 22 = nI s2.2.2.2 := M2.2.2.2.2.1
        refine e_aload_n rfl rfl ?_
        refine e_dup rfl rfl ?_
        refine e_getI rfl f10_255 hM.k rfl ?_
        rw [e22]
        refine e_iconst (v := nI 1) rfl ic_1N ?_
        first | refine e_iaddN rfl ?_ | refine e_iadd rfl ?_
        refine e_putI rfl f10_255 hM.k rfl rfl ?_
        refine e_return rfl rfl ?_
        refine ⟨rfl, _, rfl, (g1.tr g2.fl).tr (FL.wo (Or.inr (Or.inl rfl))), ?_⟩
        have ez : bnd (bnd (.inr s) (exS f n (nI 59))) nlS = nlS s2 := by
          show bnd (exS f n (nI 59) s) nlS = _
          unfold exS
          rw [if_pos t59, es]
          rfl
        rw [ez]
        obtain ⟨⟨a1, a2, a3, a4, a5⟩, b1, b2, b3, b4, b5⟩ := M2
        exact ⟨⟨by rw [u2_nk _ _ (by omega)]; exact a1, by rw [u2_nk _ _ (by omega)]; exact a2, a3, by rw [u2_nk _ _ (by omega)]; exact a4, by rw [u2_nk _ _ (by omega), u2_nk _ _ (by omega), u2_nk _ _ (by omega)]; exact a5⟩, b1.frame (fun c p q => funext fun i => u2_ne _ _ (by omega)), by rw [u2_nk _ _ (by omega)]; exact b2, by rw [u2_nk _ _ (by omega)]; exact b3, u2_at _ _ _ _, by rw [u2_nk _ _ (by omega)]; exact b5⟩
      · have t59 : ¬ pTk s = nI 59 := of_decide_eq_false z
        refine e_aload_n rfl rfl ?_
        refine e_iconst (v := nI 1) rfl ic_1N ?_
        refine e_callV (kd := 10) (M2 := m10_wrong) rfl v10_214 ok10_wrong (c10_wrongM hM hz.1 (k := 1) (by omega) (by omega)) rfl hM.k rfl rfl rfl rfl (fun r1 h1 q1 => ?_)
        obtain ⟨rfl, I2, rfl, g2, T2⟩ := q1
        refine e_goto (tgt := 530) rfl rfl ?_
        have e22 : I2 102 22 = nI s.2.2.2 := (g2 102 22 (by omega)).trans h22
        refine e_aload_n rfl rfl ?_
        refine e_dup rfl rfl ?_
        refine e_getI rfl f10_255 hM.k rfl ?_
        rw [e22]
        refine e_iconst (v := nI 1) rfl ic_1N ?_
        first | refine e_iaddN rfl ?_ | refine e_iadd rfl ?_
        refine e_putI rfl f10_255 hM.k rfl rfl ?_
        refine e_return rfl rfl ?_
        refine ⟨rfl, _, rfl, (g1.tr g2.fl).tr (FL.wo (Or.inr (Or.inl rfl))), ?_⟩
        have ez : bnd (bnd (.inr s) (exS f n (nI 59))) nlS = flS 1 s := by
          show bnd (exS f n (nI 59) s) nlS = _
          unfold exS
          rw [if_neg t59]
          rfl
        rw [ez]
        obtain ⟨a1, a2, a3, a4⟩ := T2
        exact ⟨⟨a1, a2, by rw [u2_nk _ _ (by omega)]; exact a3, by rw [u2_nk _ _ (by omega)]; exact a4⟩, trivial⟩
    · omega
/-- bits of LINES told -/
theorem Mz.told {s : PSt} (hz : Mz I n (.inr s)) {w : Nat} (hw : w < 8) : Mz (u2 I 102 21 (I 102 21 ||| nI 1 <<< (nI w &&& 31))) n (.inr (if 4 ≤ w ∧ w ≤ 6 then tlS s (w + 1) else s)) := by
  obtain ⟨⟨a1, a2, a3, a4, a5⟩, b1, b2, ⟨b3, b4⟩, b5, b6⟩ := hz
  have c1 : MP (upF (u2 I 102 21 (I 102 21 ||| nI 1 <<< (nI w &&& 31)))) (pP s) := b1.frame (fun c p q => funext fun i => u2_ne _ _ (by omega))
  have c4 : ∀ x, x < 3 → bitOf (u2 I 102 21 (I 102 21 ||| nI 1 <<< (nI w &&& 31)) 102 21) (nI (16 + x)) = bitOf ((pP s).2 16 0) (nI x) := fun x hx => by
    rw [u2_at, bit_or _ (by omega) (by omega), decide_eq_false (by omega), Bool.or_false]; exact b4 x hx
  have hT : I 102 28 = nI 0 ∧ TV I n s.1 := ⟨a1, a2, a3, a4, a5⟩
  have tz : u2 I 102 21 (I 102 21 ||| nI 1 <<< (nI w &&& 31)) 102 28 = nI 0 ∧ TV (u2 I 102 21 (I 102 21 ||| nI 1 <<< (nI w &&& 31))) n s.1 := ⟨by rw [u2_nk _ _ (by omega)]; exact a1, by rw [u2_nk _ _ (by omega)]; exact a2, a3, by rw [u2_nk _ _ (by omega)]; exact a4, by rw [u2_nk _ _ (by omega), u2_nk _ _ (by omega), u2_nk _ _ (by omega)]; exact a5⟩
  by_cases c : 4 ≤ w ∧ w ≤ 6
  · rw [if_pos c]
    refine ⟨tz, c1, by rw [u2_nk _ _ (by omega)]; exact b2, ⟨fun t t1 t2 => ?_, c4⟩, by rw [u2_nk _ _ (by omega)]; exact b5, by rw [u2_nk _ _ (by omega)]; exact b6⟩
    rw [u2_at, bit_or _ (by omega) (by omega), b3 t t1 t2]
    show _ = (s.2.2.1 t || decide (w + 1 = t))
    congr 1
    exact decide_eq_decide.mpr (by omega)
  · rw [if_neg c]
    refine ⟨tz, c1, by rw [u2_nk _ _ (by omega)]; exact b2, ⟨fun t t1 t2 => ?_, c4⟩, by rw [u2_nk _ _ (by omega)]; exact b5, by rw [u2_nk _ _ (by omega)]; exact b6⟩
    rw [u2_at, bit_or _ (by omega) (by omega), decide_eq_false (by omega), Bool.or_false]
    exact b3 t t1 t2
set_option maxRecDepth 6000 in
theorem mline_law (hM : MK K) (hX : TX I f n) {s1 : PSt} (hz : Mz I n (.inr s1)) (ho : Okp n s1) {y : Int32} (kk : ∀ I', FL I I' → Mz I' n (lwT f n s1) → Gw l G (d + 127) m10_line 501 [.ref 102, .int y, .null, .null, .null, .null] [] (I', J, K) Q) : Gw l G (d + 127) m10_line 497 [.ref 102, .int y, .null, .null, .null, .null] [] (I, J, K) Q := by
  refine e_aload_n rfl rfl ?_
  refine e_callV (kd := 10) (M2 := m10_lawLine) rfl v10_249 ok10_lawLine (c10_lawLine hM hX hz ho) rfl hM.k rfl rfl rfl rfl (fun r1 h1 q1 => ?_)
  obtain ⟨rfl, I1, rfl, g1, M1⟩ := q1
  exact kk I1 g1 M1
theorem c10_line (hM : MK K) (hX : TX I f n) {s : PSt} (hz : Mz I n (.inr s)) (hL : LI n s) : Cw l G (d + 127) m10_line [.ref 102] (I, J, K) (fun r h' => r = none ∧ ∃ I', h' = (I', J, K) ∧ FL I I' ∧ Mz I' n (bnd (bnd (lnS f n s) (exS f n (nI 59))) nlS)) := by
  have R : tkR (pTk s) (pVa s) (I 102 26) (I 102 27) := hz.1.2.2.2.2.1
  have h3 : I 102 28 = nI 0 := hz.1.1
  have hP := hz.2.1
  have cn := hL.2.2.1.1
  have c0 := cn.1
  have c1 := cn.2.1
  have c2 := cn.2.2.1
  have c3 := cn.2.2.2
  have hb := hz.2.2.2.1.1
  have none' : ∀ z, z = flS 1 s ∨ z = flS 2 s ∨ z = flS 3 s → bnd (bnd z (exS f n (nI 59))) nlS = z := fun z q => by
    rcases q with rfl | rfl | rfl <;> rfl
  have bad : lnS f n s = flS 1 s → Gw l G (d + 127) m10_line 16 [.ref 102, .null, .null, .null, .null, .null] [] (I, J, K) (fun r h' => r = none ∧ ∃ I', h' = (I', J, K) ∧ FL I I' ∧ Mz I' n (bnd (bnd (lnS f n s) (exS f n (nI 59))) nlS)) := by
    intro q
    refine e_aload_n rfl rfl ?_
    refine e_iconst (v := nI 1) rfl ic_1N ?_
    refine e_callV (kd := 10) (M2 := m10_wrong) rfl v10_214 ok10_wrong (c10_wrongM hM hz.1 (k := 1) (by omega) (by omega)) rfl hM.k rfl rfl rfl rfl (fun r1 h1 q1 => ?_)
    obtain ⟨rfl, I1, rfl, g1, T1⟩ := q1
    refine e_return rfl rfl ?_
    refine ⟨rfl, I1, rfl, g1.fl, ?_⟩
    rw [q, none' _ (Or.inl rfl)]
    exact ⟨T1, trivial⟩
  have nob : (∀ k, 1 ≤ k → k ≤ 8 → ¬ pTk s = nI k) → lnS f n s = flS 1 s := by
    intro q
    unfold lnS
    rw [if_neg (q 1 (by omega) (by omega)), if_neg (q 2 (by omega) (by omega)), if_neg (q 3 (by omega) (by omega)), if_neg (q 4 (by omega) (by omega)), if_neg (q 5 (by omega) (by omega)), if_neg (q 6 (by omega) (by omega)), if_neg (q 7 (by omega) (by omega)), if_neg (q 8 (by omega) (by omega))]
  refine Cw.of ok10_line rfl (rfl : argL _ _ = [.ref 102, .null, .null, .null, .null, .null]) ?_
  refine e_aload_n rfl rfl ?_
  refine e_getI rfl f10_170 hM.k rfl ?_
  refine e_if_ne (tgt := 16) rfl rfl (fun z => bad (nob (fun k a b => R.n0 z a (by omega)))) (fun z => ?_)
  obtain ⟨k, hk, et, ev⟩ := R.w0 z
  have hm := mwF_lt hk
  refine e_aload_n rfl rfl ?_
  refine e_getI rfl f10_180 hM.k rfl ?_
  rw [ev]
  refine e_bipush (v := nI 7) rfl bp_7N ?_
  refine e_icmp_leN (tgt := 22) rfl rfl (by omega) (by omega) (fun q7 => ?_) (fun q7 => bad (nob (fun j a b q => ?_)))
  rotate_left
  · rw [et] at q
    have : k + 1 = j := (nI_eq (by omega) (by omega)).mp q
    unfold mwF at q7
    rw [if_pos (by omega)] at q7
    omega
  have ek : mwF k = k := by
    unfold mwF at q7 ⊢
    split
    · rfl
    · next c =>
      rw [if_neg c] at q7
      split at q7 <;> omega
  rw [ek] at q7 ev
  have dead : ∀ I1 j, (j = 2 ∨ j = 3) → FT I I1 → Tz I1 n (flS j s) → lnS f n s = flS j s → Gw l G (d + 127) m10_line 71 [.ref 102, .int (nI k), .null, .null, .null, .null] [] (I1, J, K) (fun r h' => r = none ∧ ∃ I', h' = (I', J, K) ∧ FL I I' ∧ Mz I' n (bnd (bnd (lnS f n s) (exS f n (nI 59))) nlS)) := by
    intro I1 j hj g1 T1 e
    have e28 : I1 102 28 = nI j := T1.2.2.1
    refine e_aload_n rfl rfl ?_
    refine e_getI rfl f10_205 hM.k rfl ?_
    rw [e28]
    first | refine e_if_eqB (tgt := 79) rfl rfl (fun z => ?_) (fun z => ?_) | refine e_if_eqN (tgt := 79) rfl rfl (by omega) (fun z => ?_) (fun z => ?_) | refine e_if_eq (tgt := 79) rfl rfl (fun z => ?_) (fun z => ?_)
    · omega
    · refine e_return rfl rfl ?_
      refine ⟨rfl, I1, rfl, g1.fl, ?_⟩
      rw [e, none' _ (hj.elim (fun q => Or.inr (Or.inl (by rw [q]))) (fun q => Or.inr (Or.inr (by rw [q]))))]
      exact ⟨T1, trivial⟩
  have live : (k = 0 → (pP s).1 0 < 6) → (k = 1 → (pP s).1 1 < 8) → (k = 2 → (pP s).1 2 < 10) → (k = 3 → (pP s).1 3 < 8) → (4 ≤ k → k ≤ 6 → ¬ s.2.2.1 (k + 1) = true) → Gw l G (d + 127) m10_line 71 [.ref 102, .int (nI k), .null, .null, .null, .null] [] (I, J, K) (fun r h' => r = none ∧ ∃ I', h' = (I', J, K) ∧ FL I I' ∧ Mz I' n (bnd (bnd (lnS f n s) (exS f n (nI 59))) nlS)) := by
    intro w0 w1 w2 w3 w4
    have M1 := hz.told (w := k) (by omega)
    have X1 : TX (u2 I 102 21 (I 102 21 ||| nI 1 <<< (nI k &&& 31))) f n := hX.fl (FL.wo (Or.inl rfl))
    obtain ⟨s1, es⟩ := avS_go (f := f) (n := n) (if 4 ≤ k ∧ k ≤ 6 then tlS s (k + 1) else s)
    have etk : pTk (if 4 ≤ k ∧ k ≤ 6 then tlS s (k + 1) else s) = nI (k + 1) := by split <;> exact et
    refine e_aload_n rfl rfl ?_
    refine e_getI rfl f10_205 hM.k rfl ?_
    rw [h3]
    first | refine e_if_eqB (tgt := 79) rfl rfl (fun z => ?_) (fun z => ?_) | refine e_if_eqN (tgt := 79) rfl rfl (by omega) (fun z => ?_) (fun z => ?_) | refine e_if_eq (tgt := 79) rfl rfl (fun z => ?_) (fun z => ?_)
    · refine e_aload_n rfl rfl ?_
      refine e_dup rfl rfl ?_
      refine e_getI rfl f10_231 hM.k rfl ?_
      refine e_iconst (v := nI 1) rfl ic_1N ?_
      refine e_iload_n rfl rfl ?_
      refine e_ishl rfl ?_
      refine e_ior rfl ?_
      refine e_putI rfl f10_231 hM.k rfl rfl ?_
      refine e_aload_n rfl rfl ?_
      refine e_callV (kd := 10) (M2 := m10_token) rfl v10_211 ok10_token (c10_tokenM (f := f) hM X1 M1.1 (by rw [etk]; exact nI_m1 (by omega))) rfl hM.k rfl rfl rfl rfl (fun r1 h1 q1 => ?_)
      obtain ⟨rfl, I2, rfl, g2, T2⟩ := q1
      rw [es] at T2
      have M2 := M1.ft g2 T2 (avS_2 es)
      have F2 : FL I I2 := (FL.wo (Or.inl rfl)).tr g2.fl
      have X2 := X1.ft g2
      have eP : pP s1 = pP s := by
        have := congrArg Prod.fst (avS_2 es)
        refine Eq.trans this ?_
        split <;> rfl
      have a0 : (pP s1).1 0 ≤ 6 := by rw [eP]; exact c0
      have a1 : (pP s1).1 1 ≤ 8 := by rw [eP]; exact c1
      refine e_iload_n rfl rfl ?_
      refine sw10_line_96 (fun q => ?_) (fun q => ?_) (fun q => ?_) (fun q => ?_) (fun q => ?_) (fun q => ?_) (fun q => ?_) (fun p0 p1 p2 p3 p4 p5 p6 => ?_)
      · obtain rfl : k = 0 := (nI_eq (by omega) (by omega)).mp q
        rw [ln_g0 et (w0 rfl) es]
        exact mline_kind (d := d + 119) hM X2 M2 (by rw [eP]; exact w0 rfl) a0 a1 (fun I' v2 v3 v4 v5 g M => mline_end (d := d + 119) hM (X2.fl g) (F2.tr g) M)
      · obtain rfl : k = 1 := (nI_eq (by omega) (by omega)).mp q
        rw [ln_g1 et (w1 rfl) es]
        exact mline_tin (d := d + 119) hM X2 M2 (by rw [eP]; exact w1 rfl) a0 a1 (fun I' v2 v3 v4 v5 g M => mline_end (d := d + 119) hM (X2.fl g) (F2.tr g) M)
      · obtain rfl : k = 2 := (nI_eq (by omega) (by omega)).mp q
        rw [ln_g2 et (w2 rfl) es]
        exact mline_open (d := d + 119) hM X2 M2 (by rw [eP]; exact w2 rfl) a0 a1 (fun I' v2 v3 v4 v5 g M => mline_end (d := d + 119) hM (X2.fl g) (F2.tr g) M)
      · obtain rfl : k = 3 := (nI_eq (by omega) (by omega)).mp q
        rw [ln_g3 et (w3 rfl) es]
        exact mline_want (d := d + 119) hM X2 M2 (by rw [eP]; exact w3 rfl) a0 a1 (fun I' v2 v3 v4 v5 g M => mline_end (d := d + 119) hM (X2.fl g) (F2.tr g) M)
      · obtain rfl : k = 4 := (nI_eq (by omega) (by omega)).mp q
        rw [ln_g4 et (w4 (by omega) (by omega)) es]
        exact mline_keys (d := d + 119) hM X2 M2 (fun I' g M => mline_end (d := d + 119) hM (X2.fl g) (F2.tr g) M)
      · obtain rfl : k = 5 := (nI_eq (by omega) (by omega)).mp q
        rw [ln_g5 et (w4 (by omega) (by omega)) es]
        exact mline_rust (d := d + 119) hM X2 M2 (fun I' g M => mline_end (d := d + 119) hM (X2.fl g) (F2.tr g) M)
      · obtain rfl : k = 6 := (nI_eq (by omega) (by omega)).mp q
        rw [ln_g6 et (w4 (by omega) (by omega)) es]
        exact mline_seed (d := d + 119) hM X2 M2 (fun I' g M => mline_end (d := d + 119) hM (X2.fl g) (F2.tr g) M)
      · have k7 : k = 7 := by
          rcases (by omega : k = 0 ∨ k = 1 ∨ k = 2 ∨ k = 3 ∨ k = 4 ∨ k = 5 ∨ k = 6 ∨ k = 7) with e | e | e | e | e | e | e | e
          · exact absurd (by rw [e]) p0
          · exact absurd (by rw [e]) p1
          · exact absurd (by rw [e]) p2
          · exact absurd (by rw [e]) p3
          · exact absurd (by rw [e]) p4
          · exact absurd (by rw [e]) p5
          · exact absurd (by rw [e]) p6
          · exact e
        subst k7
        rw [ln_g7 et es]
        have o1 : Okp n s1 := ⟨T2.2.2.1, by rw [eP]; exact hL.1.2.1, by rw [eP]; exact hL.1.2.2⟩
        exact mline_law hM X2 M2 o1 (fun I' g M => mline_end (d := d + 119) hM (X2.fl g) (F2.tr g) M)
    · omega
  refine e_aload_n rfl rfl ?_
  refine e_getI rfl f10_180 hM.k rfl ?_
  rw [ev]
  refine e_ist1 rfl rfl rfl ?_
  refine e_aload_n rfl rfl ?_
  refine e_iload_n rfl rfl ?_
  refine e_callVp (kd := 10) (M2 := m10_isFull) rfl v10_228 ok10_isFull (c10_isFull (d := d + 125) hM (by omega) hP.1.1 c0 hP.1.2.1 c1 hP.1.2.2.1 c2 hP.1.2.2.2.1 c3) rfl hM.k rfl rfl rfl rfl ?_
  refine e_if_eqB (tgt := 43) rfl rfl (fun zf => ?_) (fun zf => ?_)
  · have zf := of_decide_eq_false zf
    refine e_iload_n rfl rfl ?_
    refine e_iconst (v := nI 4) rfl ic_4N ?_
    first | refine e_icmp_ltN (tgt := 71) rfl rfl (by omega) (by omega) (fun z => ?_) (fun z => ?_) | refine e_icmp_lt (tgt := 71) rfl rfl (fun z => ?_) (fun z => ?_)
    · exact live (by omega) (by omega) (by omega) (by omega) (by omega)
    · refine e_iload_n rfl rfl ?_
      refine e_bipush (v := nI 6) rfl bp_6N ?_
      first | refine e_icmp_gtN (tgt := 71) rfl rfl (by omega) (by omega) (fun z => ?_) (fun z => ?_) | refine e_icmp_gt (tgt := 71) rfl rfl (fun z => ?_) (fun z => ?_)
      · exact live (by omega) (by omega) (by omega) (by omega) (by omega)
      · refine e_aload_n rfl rfl ?_
        refine e_getI rfl f10_231 hM.k rfl ?_
        refine e_iload_n rfl rfl ?_
        refine e_ishr rfl ?_
        refine e_iconst (v := nI 1) rfl ic_1N ?_
        refine e_iand rfl ?_
        refine e_iconst (v := nI 1) rfl ic_1N ?_
        refine e_icmp_ne (tgt := 71) rfl rfl (fun zb => ?_) (fun zb => ?_)
        · refine live (by omega) (by omega) (by omega) (by omega) (fun _ _ q => zb ((bit_1 _ _).mpr ?_))
          rw [show k = k + 1 - 1 by omega, hb (k + 1) (by omega) (by omega)]
          exact q
        · have yb : s.2.2.1 (k + 1) = true := by
            rw [← hb (k + 1) (by omega) (by omega)]
            exact (bit_1 _ _).mp zb
          refine e_aload_n rfl rfl ?_
          refine e_iconst (v := nI 3) rfl ic_3N ?_
          refine e_callV (kd := 10) (M2 := m10_wrong) rfl v10_214 ok10_wrong (c10_wrongM hM hz.1 (k := 3) (by omega) (by omega)) rfl hM.k rfl rfl rfl rfl (fun r1 h1 q1 => ?_)
          obtain ⟨rfl, I1, rfl, g1, T1⟩ := q1
          refine dead I1 3 (by omega) g1 T1 ?_
          rcases (by omega : k = 4 ∨ k = 5 ∨ k = 6) with rfl | rfl | rfl
          · exact ln_f4 et yb
          · exact ln_f5 et yb
          · exact ln_f6 et yb
  · have zf := of_decide_eq_true zf
    refine e_aload_n rfl rfl ?_
    refine e_iconst (v := nI 2) rfl ic_2N ?_
    refine e_callV (kd := 10) (M2 := m10_wrong) rfl v10_214 ok10_wrong (c10_wrongM hM hz.1 (k := 2) (by omega) (by omega)) rfl hM.k rfl rfl rfl rfl (fun r1 h1 q1 => ?_)
    obtain ⟨rfl, I1, rfl, g1, T1⟩ := q1
    refine e_goto (tgt := 71) rfl rfl ?_
    refine dead I1 2 (by omega) g1 T1 ?_
    rcases zf with ⟨rfl, q⟩ | ⟨rfl, q⟩ | ⟨rfl, q⟩ | ⟨rfl, q⟩
    · exact ln_f0 et q
    · exact ln_f1 et q
    · exact ln_f2 et q
    · exact ln_f3 et q
end MLine4
