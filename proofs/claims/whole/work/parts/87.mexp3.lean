/-! ===== the reference: compared, denied, parts ===== -/
section MExp3
variable {l : Launch} {G : GG} {J : JM} {K : Kt} {Q : Option Value → Hp → Prop} {f : Nat → Nat} {n : Nat}
theorem lev3 (hM : MK K) {k : Nat} (ih : ∀ dp s I w D, dp ≤ 8 → TX I f n → Ez I n dp (.inr s) → exA f n k 2 dp s = some w → (8 - dp) * 6 + (64 - (pP s).1 5) + 10 ≤ D → CE l G D m10_sum [.ref 102] I J K n dp w) : ∀ dp s I w D, dp ≤ 8 → TX I f n → Ez I n dp (.inr s) → exA f n (k + 1) 3 dp s = some w → (8 - dp) * 6 + (64 - (pP s).1 5) + 11 ≤ D → ∀ v, Gw l G D m10_negation 30 [.ref 102, v] [] (I, J, K) (fun r h' => r = none ∧ ∃ I', h' = (I', J, K) ∧ FE I I' ∧ Ez I' n dp w) := by
  intro dp s I w D hd hX hz h hD v
  have h : obd (exA f n k 2 dp s) (cpS f n (exA f n k) dp) = some w := h
  obtain ⟨w1, h1⟩ := obd_ex h
  rw [h1] at h
  obtain ⟨D, rfl⟩ : ∃ q, D = q + 9 := ⟨D - 9, by omega⟩
  refine e_aload_n rfl rfl ?_
  refine e_callV (kd := 10) (M2 := m10_sum) rfl v10_278 ok10_sum (ih dp s I w1 (D + 8) hd hX hz h1 (by omega)) rfl hM.k rfl rfl rfl rfl (fun r1 h1 q1 => ?_)
  obtain ⟨rfl, I1, rfl, g1, L1⟩ := q1
  rcases obd_w h with ⟨e, rfl, rfl⟩ | ⟨s1, rfl, h4⟩
  · have h3 := L1.1.2.2.1
    have h1 := L1.1.1
    have h2 := L1.1.2.1
    refine e_aload_n rfl rfl ?_
    refine e_getI rfl f10_205 hM.k rfl ?_
    rw [h3]
    first | refine e_if_neB (tgt := 86) rfl rfl (fun z => ?_) (fun z => ?_) | refine e_if_neN (tgt := 86) rfl rfl (by omega) (fun z => ?_) (fun z => ?_) | refine e_if_ne (tgt := 86) rfl rfl (fun z => ?_) (fun z => ?_)
    · refine e_return rfl rfl ?_
      exact ⟨rfl, I1, rfl, g1, L1⟩
    · exact absurd (by assumption) h1
  · obtain ⟨gb, -, -⟩ := exA_ok hX.2.2.2 k _ _ _ _ hz.2.2.2.1 h1
    have m5 := gb.1.2.2.2.2.2.1
    have R : tkR (pTk s1) (pVa s1) (I1 102 26) (I1 102 27) := L1.1.2.2.2.2.1
    have hX1 := hX.fe g1
    have ho := L1.2.2.2.1
    have h3 : I1 102 28 = nI 0 := L1.1.1
    have no : isCmp (pTk s1) = false → Gw l G (D + 9) m10_negation 86 [.ref 102, v] [] (I1, J, K) (fun r h' => r = none ∧ ∃ I', h' = (I', J, K) ∧ FE I I' ∧ Ez I' n dp w) := by
      intro q
      unfold cpS at h4
      rw [if_neg (by rw [q]; decide)] at h4
      refine e_return rfl rfl ?_
      rw [← Option.some.inj h4]
      exact ⟨rfl, I1, rfl, g1, L1⟩
    have yes : ∀ c, pTk s1 = nI c → I1 102 27 = nI (if c = 257 then 258 else if c = 258 then 257 else c) → (60 ≤ c ∧ c ≤ 62 ∨ 256 ≤ c ∧ c ≤ 258) → Gw l G (D + 9) m10_negation 87 [.ref 102, v] [] (I1, J, K) (fun r h' => r = none ∧ ∃ I', h' = (I', J, K) ∧ FE I I' ∧ Ez I' n dp w) := by
      intro c ht ev hc
      have ic : isCmp (pTk s1) = true := by rw [ht]; exact (isCmp_iff (by omega)).mpr hc
      unfold cpS at h4
      rw [if_pos ic] at h4
      have h : obd (obd (some (knS f n s1)) (exA f n k 2 dp)) (fun s3 => some (emS (-pTk s1) s3)) = some w := by rw [obd_assoc]; exact h4
      obtain ⟨w2, h2⟩ := obd_ex h
      rw [h2, obd_em] at h
      have ew := Option.some.inj h
      refine e_aload_n rfl rfl ?_
      refine e_getI rfl f10_180 hM.k rfl ?_
      rw [ev]
      refine e_ist1 rfl rfl rfl ?_
      refine e_aload_n rfl rfl ?_
      refine e_callV (kd := 10) (M2 := m10_knot) rfl v10_270 ok10_knot (c10_knot hM L1) rfl hM.k rfl rfl rfl rfl (fun r1 h1 q1 => ?_)
      obtain ⟨rfl, I2, rfl, g2, L2⟩ := q1
      refine e_aload_n rfl rfl ?_
      refine e_callV (kd := 10) (M2 := m10_goOn) rfl v10_221 ok10_goOn (c10_goOnE hM (hX1.fe g2) L2 (fun s1 q => by rw [(kc_tk q).1, ht]; exact nI_m1 (by omega))) rfl hM.k rfl rfl rfl rfl (fun r1 h1 q1 => ?_)
      obtain ⟨rfl, I3, rfl, g3, L3⟩ := q1
      rw [show bnd (bnd (.inr s1) kcS) (avS f n) = knS f n s1 from kc_kn s1] at L3
      refine e_aload_n rfl rfl ?_
      refine e_callV (kd := 10) (M2 := m10_sum) rfl v10_278 ok10_sum (up2 hM ih hd ((hX1.fe g2).fe g3) L3 h2 (by omega) (fun s1 q => by have := kn_more hX.2.2.2 ho q; omega)) rfl hM.k rfl rfl rfl rfl (fun r1 h1 q1 => ?_)
      obtain ⟨rfl, I4, rfl, g4, L4⟩ := q1
      refine e_aload_n rfl rfl ?_
      refine e_iconst (v := nI 2) rfl ic_2N ?_
      refine e_iload_n rfl rfl ?_
      refine e_callV (kd := 10) (M2 := m10_puts) rfl v10_273 ok10_puts (c10_puts (v := -pTk s1) hM L4 (fun s2 q => (knE (k := k) (sub := 2) hX.2.2.2 (by omega) ho (by rw [← q]; exact h2)).1) (by rw [ht]; exact (kS_sg c (by omega) (by omega)).symm) (by rw [ht, kV_sg c (by omega) (by omega)])) rfl hM.k rfl rfl rfl rfl (fun r1 h1 q1 => ?_)
      obtain ⟨rfl, I5, rfl, g5, L5⟩ := q1
      refine e_return rfl rfl ?_
      rw [ew] at L5
      exact ⟨rfl, I5, rfl, (((g1.tr g2).tr g3).tr g4).tr g5, L5⟩
    refine e_aload_n rfl rfl ?_
    refine e_getI rfl f10_205 hM.k rfl ?_
    rw [h3]
    first | refine e_if_neB (tgt := 86) rfl rfl (fun z => ?_) (fun z => ?_) | refine e_if_neN (tgt := 86) rfl rfl (by omega) (fun z => ?_) (fun z => ?_) | refine e_if_ne (tgt := 86) rfl rfl (fun z => ?_) (fun z => ?_)
    · omega
    · refine e_aload_n rfl rfl ?_
      refine e_getI rfl f10_170 hM.k rfl ?_
      refine e_iconst (v := nI 3) rfl ic_3N ?_
      refine e_icmp_ne (tgt := 86) rfl rfl (fun z => no (R.nc z)) (fun z => ?_)
      obtain ⟨c, ht, ev, hc⟩ := R.s3 z
      have lt : (if c = 257 then 258 else if c = 258 then 257 else c) < 2 ^ 31 := by split; omega; split <;> omega
      have es : ∀ x, x < 256 → ((if c = 257 then 258 else if c = 258 then 257 else c) = x ↔ c = x) := by
        intro x hx
        constructor
        · intro q
          split at q
          · omega
          · split at q <;> omega
        · intro q; rw [if_neg (by omega), if_neg (by omega)]; exact q
      have eg : 256 ≤ (if c = 257 then 258 else if c = 258 then 257 else c) ↔ 256 ≤ c := by
        split
        · omega
        · split <;> omega
      refine e_aload_n rfl rfl ?_
      refine e_getI rfl f10_180 hM.k rfl ?_
      rw [ev]
      refine e_bipush (v := nI 60) rfl bp_60N ?_
      refine e_icmp_eqN (tgt := 87) rfl rfl lt (by omega) (fun q => yes c ht ev (by have := (es 60 (by omega)).mp q; omega)) (fun q60 => ?_)
      refine e_aload_n rfl rfl ?_
      refine e_getI rfl f10_180 hM.k rfl ?_
      rw [ev]
      refine e_bipush (v := nI 62) rfl bp_62N ?_
      refine e_icmp_eqN (tgt := 87) rfl rfl lt (by omega) (fun q => yes c ht ev (by have := (es 62 (by omega)).mp q; omega)) (fun q62 => ?_)
      refine e_aload_n rfl rfl ?_
      refine e_getI rfl f10_180 hM.k rfl ?_
      rw [ev]
      refine e_bipush (v := nI 61) rfl bp_61N ?_
      refine e_icmp_eqN (tgt := 87) rfl rfl lt (by omega) (fun q => yes c ht ev (by have := (es 61 (by omega)).mp q; omega)) (fun q61 => ?_)
      refine e_aload_n rfl rfl ?_
      refine e_getI rfl f10_180 hM.k rfl ?_
      rw [ev]
      refine e_sipush (v := nI 256) rfl sp_256N ?_
      refine e_icmp_geN (tgt := 87) rfl rfl lt (by omega) (fun q => yes c ht ev (by have := eg.mp q; omega)) (fun q => ?_)
      refine no (Bool.eq_false_iff.mpr (fun w => ?_))
      rw [ht] at w
      have w := (isCmp_iff (by omega)).mp w
      have x0 := es 60 (by omega)
      have x1 := es 61 (by omega)
      have x2 := es 62 (by omega)
      omega
theorem lev4 (hM : MK K) {k : Nat} (ih : ∀ dp s I w D, dp ≤ 8 → TX I f n → Ez I n dp (.inr s) → exA f n k 4 dp s = some w → (8 - dp) * 6 + (64 - (pP s).1 5) + 11 ≤ D → CE l G D m10_negation [.ref 102] I J K n dp w) (i3 : ∀ dp s I w D, dp ≤ 8 → TX I f n → Ez I n dp (.inr s) → exA f n k 3 dp s = some w → (8 - dp) * 6 + (64 - (pP s).1 5) + 11 ≤ D → ∀ v, Gw l G D m10_negation 30 [.ref 102, v] [] (I, J, K) (fun r h' => r = none ∧ ∃ I', h' = (I', J, K) ∧ FE I I' ∧ Ez I' n dp w)) : ∀ dp s I w D, dp ≤ 8 → TX I f n → Ez I n dp (.inr s) → exA f n (k + 1) 4 dp s = some w → (8 - dp) * 6 + (64 - (pP s).1 5) + 11 ≤ D → CE l G D m10_negation [.ref 102] I J K n dp w := by
  intro dp s I w D hd hX hz h hD
  have h : dnS f n (exA f n k) dp s = some w := h
  unfold dnS at h
  obtain ⟨D, rfl⟩ : ∃ q, D = q + 9 := ⟨D - 9, by omega⟩
  have ho := hz.2.2.2.1
  refine Cw.of ok10_negation rfl (rfl : argL _ _ = [.ref 102, .null]) ?_
  refine e_aload_n rfl rfl ?_
  refine e_bipush (v := nI 13) rfl bp_13N ?_
  refine e_callVp (kd := 10) (M2 := m10_isWord) rfl v10_267 ok10_isWord (c10_isWord hM hz.1 (by omega)) rfl hM.k rfl rfl rfl rfl ?_
  refine e_if_eqB (tgt := 30) rfl rfl (fun z => ?_) (fun z => ?_)
  · have z : ¬ pTk s = nI 19 := of_decide_eq_false z
    rw [if_neg z] at h
    exact i3 dp s I w (D + 9) hd hX hz h (by omega) _
  · have ht : pTk s = nI 19 := of_decide_eq_true z
    rw [if_pos ht] at h
    have h : obd (obd (some (knS f n s)) (exA f n k 4 dp)) (fun s3 => some (emS (-19) s3)) = some w := by rw [obd_assoc]; exact h
    obtain ⟨w2, h2⟩ := obd_ex h
    rw [h2, obd_em] at h
    have ew := Option.some.inj h
    refine e_aload_n rfl rfl ?_
    refine e_callV (kd := 10) (M2 := m10_knot) rfl v10_270 ok10_knot (c10_knot hM hz) rfl hM.k rfl rfl rfl rfl (fun r1 h1 q1 => ?_)
    obtain ⟨rfl, I1, rfl, g1, L1⟩ := q1
    refine e_aload_n rfl rfl ?_
    refine e_callV (kd := 10) (M2 := m10_goOn) rfl v10_221 ok10_goOn (c10_goOnE hM (hX.fe g1) L1 (fun s1 q => by rw [(kc_tk q).1, ht]; exact nI_m1 (by omega))) rfl hM.k rfl rfl rfl rfl (fun r1 h1 q1 => ?_)
    obtain ⟨rfl, I2, rfl, g2, L2⟩ := q1
    rw [show bnd (bnd (.inr s) kcS) (avS f n) = knS f n s from kc_kn s] at L2
    refine e_aload_n rfl rfl ?_
    refine e_callV (kd := 10) (M2 := m10_negation) rfl v10_275 ok10_negation (up4 hM ih hd ((hX.fe g1).fe g2) L2 h2 (by omega) (fun s1 q => by have := kn_more hX.2.2.2 ho q; omega)) rfl hM.k rfl rfl rfl rfl (fun r1 h1 q1 => ?_)
    obtain ⟨rfl, I3, rfl, g3, L3⟩ := q1
    refine e_aload_n rfl rfl ?_
    refine e_iconst (v := nI 2) rfl ic_2N ?_
    refine e_sipush (v := nI 260) rfl sp_260N ?_
    refine e_callV (kd := 10) (M2 := m10_puts) rfl v10_273 ok10_puts (c10_puts (v := -19) hM L3 (fun s2 q => (knE (k := k) (sub := 4) hX.2.2.2 (by omega) ho (by rw [← q]; exact h2)).1) (by decide) (by decide)) rfl hM.k rfl rfl rfl rfl (fun r1 h1 q1 => ?_)
    obtain ⟨rfl, I4, rfl, g4, L4⟩ := q1
    refine e_return rfl rfl ?_
    rw [ew] at L4
    exact ⟨rfl, I4, rfl, ((g1.tr g2).tr g3).tr g4, L4⟩
/-- a part behind its FAULT -/
theorem mpartD (hM : MK K) {dp D : Nat} {e : Nat × Nat} {I I1 : IM} {w : PR} (hX : TX I1 f n) (g1 : FE I I1) (hz : Ez I1 n dp (.inl e)) (hw : w = .inl e) (b : Bool) : Gw l G (D + 8) m10_primary 162 [.ref 102, .int (bI b)] [] (I1, J, K) (fun r h' => r = none ∧ ∃ I', h' = (I', J, K) ∧ FE I I' ∧ Ez I' n dp w) := by
  subst hw
  have fin : ∀ x y I2, FE I I2 → TX I2 f n → Ez I2 n dp (.inl e) → Gw l G (D + 8) m10_primary 194 [.ref 102, .int (bI b)] [.int y, .int x, .ref 102] (I2, J, K) (fun r h' => r = none ∧ ∃ I', h' = (I', J, K) ∧ FE I I' ∧ Ez I' n dp (.inl e)) := by
    intro x y I2 g2 X2 L2
    refine e_callV (kd := 10) (M2 := m10_puts) rfl v10_273 ok10_puts (c10_putsD hM L2 _ _) rfl hM.k rfl rfl rfl rfl (fun r1 h1 q1 => ?_)
    obtain ⟨rfl, I3, rfl, g3, L3⟩ := q1
    refine e_aload_n rfl rfl ?_
    refine e_callV (kd := 10) (M2 := m10_goOn) rfl v10_221 ok10_goOn (c10_goOnE hM (X2.fe g3) L3 (fun s q => absurd q (by simp))) rfl hM.k rfl rfl rfl rfl (fun r1 h1 q1 => ?_)
    obtain ⟨rfl, I4, rfl, g4, L4⟩ := q1
    refine e_return rfl rfl ?_
    exact ⟨rfl, I4, rfl, (g2.tr g3).tr g4, L4⟩
  refine e_aload_n rfl rfl ?_
  refine e_callV (kd := 10) (M2 := m10_knot) rfl v10_270 ok10_knot (c10_knot hM hz) rfl hM.k rfl rfl rfl rfl (fun r1 h1 q1 => ?_)
  obtain ⟨rfl, I2, rfl, g2, L2⟩ := q1
  refine e_aload_n rfl rfl ?_
  refine e_iload_n rfl rfl ?_
  refine e_if_eqB (tgt := 175) rfl rfl (fun z => ?_) (fun z => ?_)
  · refine e_iconst (v := nI 1) rfl ic_1N ?_
    refine e_iload_n rfl rfl ?_
    refine e_if_eqB (tgt := 187) rfl rfl (fun _ => ?_) (fun z2 => absurd (z.symm.trans z2) (by decide))
    refine e_aload_n rfl rfl ?_
    refine e_getI rfl f10_180 hM.k rfl ?_
    refine e_bipush (v := nI 14) rfl bp_14N ?_
    refine e_isub rfl ?_
    exact fin _ _ I2 (g1.tr g2) (hX.fe g2) L2
  · refine e_iconst (v := nI 0) rfl ic_0N ?_
    refine e_goto (tgt := 176) rfl rfl ?_
    refine e_iload_n rfl rfl ?_
    refine e_if_eqB (tgt := 187) rfl rfl (fun z2 => absurd (z2.symm.trans z) (by decide)) (fun _ => ?_)
    refine e_aload_n rfl rfl ?_
    refine e_getI rfl f10_180 hM.k rfl ?_
    refine e_goto (tgt := 194) rfl rfl ?_
    exact fin _ _ I2 (g1.tr g2) (hX.fe g2) L2
/-- a part that is a number or a NAME of a law -/
theorem mpartL (hM : MK K) {dp D : Nat} {s : PSt} {I : IM} {w : PR} (hX : TX I f n) (hz : Ez I n dp (.inr s)) {v : Int32} (hw : w = bnd (knS f n s) (emS v)) (ht : ¬ pTk s = -1) (b : Bool) (ha : (if b = true then nI 0 else nI 1) = kS v) (hb : (if b = true then I 102 27 else I 102 27 - nI 14) = kV v) : Gw l G (D + 8) m10_primary 162 [.ref 102, .int (bI b)] [] (I, J, K) (fun r h' => r = none ∧ ∃ I', h' = (I', J, K) ∧ FE I I' ∧ Ez I' n dp w) := by
  have eqw : bnd (bnd (bnd (.inr s) kcS) (emS v)) (avS f n) = w := by
    rw [hw, ← kc_kn s]
    show bnd (bnd (kcS s) (emS v)) (avS f n) = _
    rw [bnd_as, bnd_as]
    congr 1
    funext q
    exact em_av q
  have fin : ∀ x y I2, x = kS v → y = kV v → FE I I2 → TX I2 f n → Ez I2 n dp (bnd (.inr s) kcS) → Gw l G (D + 8) m10_primary 194 [.ref 102, .int (bI b)] [.int y, .int x, .ref 102] (I2, J, K) (fun r h' => r = none ∧ ∃ I', h' = (I', J, K) ∧ FE I I' ∧ Ez I' n dp w) := by
    intro x y I2 hx hy g2 X2 L2
    refine e_callV (kd := 10) (M2 := m10_puts) rfl v10_273 ok10_puts (c10_puts (v := v) hM L2 (fun s1 q => by have := L2.2; rw [q] at this; have o := hz.2.2.2.1.2.2; have q : kcS s = .inr s1 := q; unfold kcS at q; split at q; exact absurd q (by simp [flS]); rw [← Sum.inr.inj q]; show (pP s).1 4 < (pP s).1 5 + 1; omega) hx hy) rfl hM.k rfl rfl rfl rfl (fun r1 h1 q1 => ?_)
    obtain ⟨rfl, I3, rfl, g3, L3⟩ := q1
    refine e_aload_n rfl rfl ?_
    refine e_callV (kd := 10) (M2 := m10_goOn) rfl v10_221 ok10_goOn (c10_goOnE hM (X2.fe g3) L3 (fun s2 q => by obtain ⟨s1, q1, q2⟩ := bnd_inr q; have q2 : emS v s1 = .inr s2 := q2; unfold emS at q2; rw [← Sum.inr.inj q2]; show ¬ pTk s1 = -1; rw [(kc_tk q1).1]; exact ht)) rfl hM.k rfl rfl rfl rfl (fun r1 h1 q1 => ?_)
    obtain ⟨rfl, I4, rfl, g4, L4⟩ := q1
    refine e_return rfl rfl ?_
    rw [eqw] at L4
    exact ⟨rfl, I4, rfl, (g2.tr g3).tr g4, L4⟩
  have e27 : ∀ I2 : IM, (∀ c x, ¬ (c = 102 ∧ (x = 28 ∨ x = 29 ∨ x = 33)) → I2 c x = I c x) → I2 102 27 = I 102 27 := fun I2 q => q 102 27 (by omega)
  refine e_aload_n rfl rfl ?_
  refine e_callV (kd := 10) (M2 := m10_knot) rfl v10_270 ok10_knot (c10_knotF hM hz) rfl hM.k rfl rfl rfl rfl (fun r1 h1 q1 => ?_)
  obtain ⟨rfl, I2, rfl, f2, g2, L2⟩ := q1
  refine e_aload_n rfl rfl ?_
  refine e_iload_n rfl rfl ?_
  refine e_if_eqB (tgt := 175) rfl rfl (fun z => ?_) (fun z => ?_)
  · refine e_iconst (v := nI 1) rfl ic_1N ?_
    refine e_iload_n rfl rfl ?_
    refine e_if_eqB (tgt := 187) rfl rfl (fun _ => ?_) (fun z2 => absurd (z.symm.trans z2) (by decide))
    rw [if_neg (by rw [z]; decide)] at ha hb
    refine e_aload_n rfl rfl ?_
    refine e_getI rfl f10_180 hM.k rfl ?_
    rw [e27 I2 f2]
    refine e_bipush (v := nI 14) rfl bp_14N ?_
    refine e_isub rfl ?_
    exact fin _ _ I2 ha hb g2 (hX.fe g2) L2
  · refine e_iconst (v := nI 0) rfl ic_0N ?_
    refine e_goto (tgt := 176) rfl rfl ?_
    refine e_iload_n rfl rfl ?_
    refine e_if_eqB (tgt := 187) rfl rfl (fun z2 => absurd (z2.symm.trans z) (by decide)) (fun _ => ?_)
    rw [if_pos z] at ha hb
    refine e_aload_n rfl rfl ?_
    refine e_getI rfl f10_180 hM.k rfl ?_
    rw [e27 I2 f2]
    refine e_goto (tgt := 194) rfl rfl ?_
    exact fin _ _ I2 ha hb g2 (hX.fe g2) L2
end MExp3
