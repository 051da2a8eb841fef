/-! ===== Parser: E, all levels ===== -/
theorem emN_sz {w : PR} {s' : PSt} : ∀ r, emN r w = .inr s' → ∃ s, w = .inr s
  | 0, h => ⟨s', h⟩
  | r + 1, h => by
    obtain ⟨s, h⟩ := emN_sz (w := bnd w (emS (-19))) r h
    obtain ⟨s2, h2, -⟩ := bnd_inr h
    exact ⟨s2, h2⟩
section MExp2
variable {l : Launch} {G : GG} {d : Nat} {I : IM} {J : JM} {K : Kt} {Q : Option Value → Hp → Prop} {f : Nat → Nat} {n : Nat} {zz : PR} {e : Nat × Nat} {dp : Nat}
theorem part_dead (hK : PK K) (hz : Lz I f n (.inl e)) : CV l G (d + 1) m2_part [.ref 2, .int (nI dp)] I J K f n (.inl e) := by
  have hK2 := hK
  obtain ⟨k2, p20, p21, hP3, k5, p0, a31, p1, a1⟩ := hK2
  refine Cw.of ok2_part rfl (rfl : argL _ _ = [.ref 2, .int (nI dp), .null, .null]) ?_
  refine e_aload_n rfl rfl ?_
  refine e_getP rfl f2_21 (by assumption) rfl (by assumption) ?_
  refine e_getI rfl f2_48 (by assumption) rfl ?_
  rw [hz.dead]
  refine e_ist2 rfl rfl rfl ?_
  refine e_aload_n rfl rfl ?_
  refine e_getP rfl f2_21 (by assumption) rfl (by assumption) ?_
  refine e_getI rfl f2_143 (by assumption) rfl ?_
  refine e_ist3 rfl rfl rfl ?_
  refine e_iload_n rfl rfl ?_
  refine e_bipush (v := nI 23) rfl bp_23N ?_
  refine e_icmp_ne (tgt := 46) rfl rfl (fun _ => ?_) (fun z => absurd z (by decide))
  refine e_iload_n rfl rfl ?_
  refine e_bipush (v := nI 12) rfl bp_12N ?_
  refine e_icmp_lt (tgt := 71) rfl rfl (fun _ => ?_) (fun z => absurd (by decide : (-1 : Int32) < nI 12) z)
  refine e_iload_n rfl rfl ?_
  refine e_bipush (v := nI 40) rfl bp_40N ?_
  refine e_icmp_ne (tgt := 85) rfl rfl (fun _ => ?_) (fun z => absurd z (by decide))
  refine e_aload_n rfl rfl ?_
  refine e_iconst (v := nI 1) rfl ic_1N ?_
  refine e_callV (kd := 2) (M2 := m2_fail) rfl v2_59 ok2_fail (c2_fail hK hz (by omega) (by omega)) rfl (by assumption) rfl rfl rfl rfl (fun r1 h1 q1 => ?_)
  obtain ⟨rfl, I1, rfl, g1, L1⟩ := q1
  refine e_return rfl rfl ?_
  exact ⟨rfl, I1, rfl, g1, L1⟩
theorem product_dead (hK : PK K) (hz : Lz I f n (.inl e)) : CV l G (d + 2) m2_product [.ref 2, .int (nI dp)] I J K f n (.inl e) := by
  have hK2 := hK
  obtain ⟨k2, p20, p21, hP3, k5, p0, a31, p1, a1⟩ := hK2
  refine Cw.of ok2_product rfl (rfl : argL _ _ = [.ref 2, .int (nI dp), .null, .null]) ?_
  refine e_aload_n rfl rfl ?_
  refine e_iload_n rfl rfl ?_
  refine e_callV (kd := 2) (M2 := m2_part) rfl v2_196 ok2_part (part_dead (dp := dp) hK hz) rfl (by assumption) rfl rfl rfl rfl (fun r1 h1 q1 => ?_)
  obtain ⟨rfl, I1, rfl, g1, L1⟩ := q1
  refine e_iconst (v := nI 0) rfl ic_0N ?_
  refine e_ist2 rfl rfl rfl ?_
  exact lo7_dead (i := 0) hK L1 ⟨rfl, I1, rfl, g1, L1⟩ .null
theorem sum_dead (hK : PK K) (hz : Lz I f n (.inl e)) : CV l G (d + 3) m2_sum [.ref 2, .int (nI dp)] I J K f n (.inl e) := by
  have hK2 := hK
  obtain ⟨k2, p20, p21, hP3, k5, p0, a31, p1, a1⟩ := hK2
  refine Cw.of ok2_sum rfl (rfl : argL _ _ = [.ref 2, .int (nI dp), .null, .null]) ?_
  refine e_aload_n rfl rfl ?_
  refine e_iload_n rfl rfl ?_
  refine e_callV (kd := 2) (M2 := m2_product) rfl v2_193 ok2_product (product_dead (dp := dp) hK hz) rfl (by assumption) rfl rfl rfl rfl (fun r1 h1 q1 => ?_)
  obtain ⟨rfl, I1, rfl, g1, L1⟩ := q1
  refine e_iconst (v := nI 0) rfl ic_0N ?_
  refine e_ist2 rfl rfl rfl ?_
  exact lo8_dead (i := 0) hK L1 ⟨rfl, I1, rfl, g1, L1⟩ .null
theorem compared_dead (hK : PK K) (hz : Lz I f n (.inl e)) : CV l G (d + 4) m2_compared [.ref 2, .int (nI dp)] I J K f n (.inl e) := by
  have hK2 := hK
  obtain ⟨k2, p20, p21, hP3, k5, p0, a31, p1, a1⟩ := hK2
  refine Cw.of ok2_compared rfl (rfl : argL _ _ = [.ref 2, .int (nI dp), .null]) ?_
  refine e_aload_n rfl rfl ?_
  refine e_iload_n rfl rfl ?_
  refine e_callV (kd := 2) (M2 := m2_sum) rfl v2_187 ok2_sum (sum_dead (dp := dp) hK hz) rfl (by assumption) rfl rfl rfl rfl (fun r1 h1 q1 => ?_)
  obtain ⟨rfl, I1, rfl, g1, L1⟩ := q1
  refine e_aload_n rfl rfl ?_
  refine e_getP rfl f2_21 (by assumption) rfl (by assumption) ?_
  refine e_getI rfl f2_48 (by assumption) rfl ?_
  rw [L1.dead]
  refine e_ist2 rfl rfl rfl ?_
  refine e_iload_n rfl rfl ?_
  refine e_callSp (M2 := m2_isComparison) rfl v2_190 ok2_isComparison (c2_isComparison (-1)) rfl rfl rfl ?_
  rw [show isCmp (-1) = false by decide]
  refine e_if_eqB (tgt := 35) rfl rfl (fun _ => ?_) (fun z => absurd z (by decide))
  refine e_return rfl rfl ?_
  exact ⟨rfl, I1, rfl, g1, L1⟩
theorem emits_loop (hK : PK K) {i : Nat} (hi : i ≤ 65) : ∀ r j I w, j + r = i → Lz I f n w → (∀ s, w = .inr s → (pP s).1 4 + r ≤ (pP s).1 5) → (∀ I2, FP I I2 → Lz I2 f n (emN r w) → Q none (I2, J, K)) → Gw l G (d + 2) m2_denied 37 [.ref 2, .int (nI dp), .int (nI i), .int (nI j)] [] (I, J, K) Q := by
  have hK2 := hK
  obtain ⟨k2, p20, p21, hP3, k5, p0, a31, p1, a1⟩ := hK2
  intro r
  induction r with
  | zero =>
    intro j I w hj hz hs kk
    refine e_iload_n rfl rfl ?_
    refine e_iload_n rfl rfl ?_
    first | refine e_icmp_geN (tgt := 54) rfl rfl (by omega) (by omega) (fun z => ?_) (fun z => ?_) | refine e_icmp_ge (tgt := 54) rfl rfl (fun z => ?_) (fun z => ?_)
    · refine e_return rfl rfl ?_
      exact kk I FP.rf hz
    · omega
  | succ r ih =>
    intro j I w hj hz hs kk
    refine e_iload_n rfl rfl ?_
    refine e_iload_n rfl rfl ?_
    first | refine e_icmp_geN (tgt := 54) rfl rfl (by omega) (by omega) (fun z => ?_) (fun z => ?_) | refine e_icmp_ge (tgt := 54) rfl rfl (fun z => ?_) (fun z => ?_)
    · omega
    · refine e_aload_n rfl rfl ?_
      refine e_bipush rfl bp_m19 ?_
      refine e_callV (kd := 2) (M2 := m2_emit) rfl v2_180 ok2_emit (c2_emit hK hz (-19) (fun s e => by have := hs s e; omega)) rfl (by assumption) rfl rfl rfl rfl (fun r1 h1 q1 => ?_)
      obtain ⟨rfl, I1, rfl, g1, L1⟩ := q1
      first | refine e_inc3 rfl rfl rfl (incN1 _) ?_ | refine e_inc3 rfl rfl rfl rfl ?_
      refine e_goto (tgt := 37) rfl rfl ?_
      refine ih (j + 1) I1 _ (by omega) L1 (fun s e => ?_) (fun I2 g2 L2 => kk I2 (g1.tr g2) L2)
      obtain ⟨s0, rfl, e2⟩ := bnd_inr e
      have h1 := hs s0 rfl
      have h2 := hz.2.2.2.2.1.2.1
      unfold emS emP at e2
      rw [if_pos (by omega)] at e2
      obtain rfl := Sum.inr.inj e2
      show (pP s0).1 4 + 1 + r ≤ (pP s0).1 5
      omega
/-- denied, from its loop on -/
def DNc (l : Launch) (G : GG) (J : JM) (K : Kt) (f : Nat → Nat) (n k : Nat) : Prop := ∀ dp, dp ≤ 8 → ∀ d, 8 * (8 - dp) + 4 + 9 ≤ d → ∀ I zz w i, i ≤ 65 → Lz I f n zz → obd (some zz) (exA f n k 4 dp) = some w → (∀ s, zz = .inr s → (pP s).1 4 + i ≤ (pP s).1 5) → ∀ (Q : Option Value → Hp → Prop), (∀ I2, FP I I2 → Lz I2 f n (emN i w) → Q none (I2, J, K)) → ∀ (v3 : Value), Gw l G d m2_denied 2 [.ref 2, .int (nI dp), .int (nI i), v3] [] (I, J, K) Q
theorem dn_dead (hK : PK K) (hz : Lz I f n (.inl e)) {i : Nat} (hi : i ≤ 65) (kk : ∀ I2, FP I I2 → Lz I2 f n (.inl e) → Q none (I2, J, K)) (v3 : Value) : Gw l G (d + 5) m2_denied 2 [.ref 2, .int (nI dp), .int (nI i), v3] [] (I, J, K) Q := by
  have hK2 := hK
  obtain ⟨k2, p20, p21, hP3, k5, p0, a31, p1, a1⟩ := hK2
  have rest : ∀ v3, Gw l G (d + 5) m2_denied 30 [.ref 2, .int (nI dp), .int (nI i), v3] [] (I, J, K) Q := by
    intro v3
    refine e_aload_n rfl rfl ?_
    refine e_iload_n rfl rfl ?_
    refine e_callV (kd := 2) (M2 := m2_compared) rfl v2_184 ok2_compared (compared_dead (dp := dp) hK hz) rfl (by assumption) rfl rfl rfl rfl (fun r1 h1 q1 => ?_)
    obtain ⟨rfl, I1, rfl, g1, L1⟩ := q1
    refine e_iconst (v := nI 0) rfl ic_0N ?_
    refine e_ist3 rfl rfl rfl ?_
    refine emits_loop (d := d + 3) hK hi i 0 I1 (.inl e) (by omega) L1 (fun s e => absurd e (by simp)) (fun I2 g2 L2 => ?_)
    rw [emN_dead] at L2
    exact kk I2 (g1.tr g2) L2
  refine e_iload_n rfl rfl ?_
  refine e_bipush (v := nI 64) rfl bp_64N ?_
  first | refine e_icmp_gtN (tgt := 30) rfl rfl (by omega) (by omega) (fun z => ?_) (fun z => ?_) | refine e_icmp_gt (tgt := 30) rfl rfl (fun z => ?_) (fun z => ?_)
  · exact rest _
  · refine e_aload_n rfl rfl ?_
    refine e_getP rfl f2_21 (by assumption) rfl (by assumption) ?_
    refine e_getI rfl f2_48 (by assumption) rfl ?_
    rw [hz.dead]
    refine e_bipush (v := nI 19) rfl bp_19N ?_
    refine e_icmp_ne (tgt := 30) rfl rfl (fun _ => ?_) (fun z => absurd z (by decide))
    exact rest _
theorem denied_dead (hK : PK K) (hz : Lz I f n (.inl e)) : CV l G (d + 5) m2_denied [.ref 2, .int (nI dp)] I J K f n (.inl e) := by
  refine Cw.of ok2_denied rfl (rfl : argL _ _ = [.ref 2, .int (nI dp), .null, .null]) ?_
  refine e_iconst (v := nI 0) rfl ic_0N ?_
  refine e_ist2 rfl rfl rfl ?_
  exact dn_dead hK hz (by omega) (fun I2 g2 L2 => ⟨rfl, I2, rfl, g2, L2⟩) _
theorem both_dead (hK : PK K) (hz : Lz I f n (.inl e)) : CV l G (d + 6) m2_both [.ref 2, .int (nI dp)] I J K f n (.inl e) := by
  have hK2 := hK
  obtain ⟨k2, p20, p21, hP3, k5, p0, a31, p1, a1⟩ := hK2
  refine Cw.of ok2_both rfl (rfl : argL _ _ = [.ref 2, .int (nI dp), .null]) ?_
  refine e_aload_n rfl rfl ?_
  refine e_iload_n rfl rfl ?_
  refine e_callV (kd := 2) (M2 := m2_denied) rfl v2_181 ok2_denied (denied_dead (dp := dp) hK hz) rfl (by assumption) rfl rfl rfl rfl (fun r1 h1 q1 => ?_)
  obtain ⟨rfl, I1, rfl, g1, L1⟩ := q1
  refine e_iconst (v := nI 0) rfl ic_0N ?_
  refine e_ist2 rfl rfl rfl ?_
  exact lo9_dead (i := 0) hK L1 ⟨rfl, I1, rfl, g1, L1⟩ .null
theorem either_dead (hK : PK K) (hz : Lz I f n (.inl e)) : CV l G (d + 7) m2_either [.ref 2, .int (nI dp)] I J K f n (.inl e) := by
  have hK2 := hK
  obtain ⟨k2, p20, p21, hP3, k5, p0, a31, p1, a1⟩ := hK2
  refine Cw.of ok2_either rfl (rfl : argL _ _ = [.ref 2, .int (nI dp), .null]) ?_
  refine e_aload_n rfl rfl ?_
  refine e_iload_n rfl rfl ?_
  refine e_callV (kd := 2) (M2 := m2_both) rfl v2_174 ok2_both (both_dead (dp := dp) hK hz) rfl (by assumption) rfl rfl rfl rfl (fun r1 h1 q1 => ?_)
  obtain ⟨rfl, I1, rfl, g1, L1⟩ := q1
  refine e_iconst (v := nI 0) rfl ic_0N ?_
  refine e_ist2 rfl rfl rfl ?_
  exact lo10_dead (i := 0) hK L1 ⟨rfl, I1, rfl, g1, L1⟩ .null
theorem obd_r (s : PSt) (g : PSt → Option PR) : obd (some (.inr s)) g = g s := rfl
theorem c2_bracket (hK : PK K) {k : Nat} (h6 : EXc l G J K f n k 6) (hdp : dp ≤ 8) (hd : 8 * (8 - dp) + 8 ≤ d) {s : PSt} {w : PR} (hz : Lz I f n (.inr s)) (h : (if 8 ≤ dp then some (flS 2 s) else obd (some (avS f n s)) fun s1 => obd (exA f n k 6 (dp + 1) s1) fun s2 => some (exS f n (nI 41) s2)) = some w) : CV l G d m2_bracket [.ref 2, .int (nI dp)] I J K f n w := by
  have hK2 := hK
  obtain ⟨k2, p20, p21, hP3, k5, p0, a31, p1, a1⟩ := hK2
  obtain ⟨d0, rfl⟩ : ∃ d0, d = d0 + 8 := ⟨d - 8, by omega⟩
  refine Cw.of ok2_bracket rfl (rfl : argL _ _ = [.ref 2, .int (nI dp)]) ?_
  refine e_iload_n rfl rfl ?_
  refine e_bipush (v := nI 8) rfl bp_8N ?_
  first | refine e_icmp_ltN (tgt := 12) rfl rfl (by omega) (by omega) (fun z => ?_) (fun z => ?_) | refine e_icmp_lt (tgt := 12) rfl rfl (fun z => ?_) (fun z => ?_)
  · have y : dp < 8 := by assumption
    rw [if_neg (by omega)] at h
    have h := (obd_assoc (some (avS f n s)) (exA f n k 6 (dp + 1)) _).trans h
    obtain ⟨w2, h2⟩ := obd_ex h
    rw [h2] at h
    refine e_aload_n rfl rfl ?_
    refine e_getP rfl f2_21 (by assumption) rfl (by assumption) ?_
    refine e_callV (kd := 5) (M2 := m5_advance) rfl v2_45 ok5_advance (c5_adv (d := d0 + 2) hK hz) rfl (by assumption) rfl rfl rfl rfl (fun r1 h1 q1 => ?_)
    obtain ⟨rfl, I1, rfl, g1, L1⟩ := q1
    refine e_aload_n rfl rfl ?_
    refine e_iload_n rfl rfl ?_
    refine e_iconst (v := nI 1) rfl ic_1N ?_
    first | refine e_iaddN rfl ?_ | refine e_iadd rfl ?_
    refine e_callV (kd := 2) (M2 := m2_either) rfl v2_162 ok2_either (h6 (dp + 1) (by omega) (d0 + 7) (by omega) I1 (avS f n s) w2 L1 h2) rfl (by assumption) rfl rfl rfl rfl (fun r1 h1 q1 => ?_)
    obtain ⟨rfl, I2, rfl, g2, L2⟩ := q1
    refine e_aload_n rfl rfl ?_
    refine e_bipush (v := nI 41) rfl bp_41N ?_
    refine e_callV (kd := 2) (M2 := m2_expect) rfl v2_54 ok2_expect (c2_expect (d := d0 + 1) hK L2 41) rfl (by assumption) rfl rfl rfl rfl (fun r1 h1 q1 => ?_)
    obtain ⟨rfl, I3, rfl, g3, L3⟩ := q1
    refine e_return rfl rfl ?_
    refine ⟨rfl, I3, rfl, (g1.tr g2).tr g3, ?_⟩
    have ew : bnd w2 (exS f n (nI 41)) = w := by
      cases w2 with
      | inl e => exact Option.some.inj h
      | inr s2 => exact Option.some.inj h
    rw [← ew]
    exact L3
  · have y : 8 ≤ dp := by assumption
    rw [if_pos y] at h
    obtain rfl := Option.some.inj h
    refine e_aload_n rfl rfl ?_
    refine e_iconst (v := nI 2) rfl ic_2N ?_
    refine e_callV (kd := 2) (M2 := m2_fail) rfl v2_59 ok2_fail (c2_fail hK hz (by omega) (by omega)) rfl (by assumption) rfl rfl rfl rfl (fun r1 h1 q1 => ?_)
    obtain ⟨rfl, I1, rfl, g1, L1⟩ := q1
    refine e_return rfl rfl ?_
    exact ⟨rfl, I1, rfl, g1, L1⟩
theorem part_step (hK : PK K) {k : Nat} (h6 : EXc l G J K f n k 6) : EXc l G J K f n (k + 1) 0 := by
  intro dp hdp d hd I zz w hz h
  obtain ⟨d0, rfl⟩ : ∃ d0, d = d0 + 9 := ⟨d - 9, by omega⟩
  have hK2 := hK
  obtain ⟨k2, p20, p21, hP3, k5, p0, a31, p1, a1⟩ := hK2
  cases zz with
  | inl e =>
    obtain rfl := Option.some.inj h
    exact part_dead (d := d0 + 8) hK hz
  | inr s =>
    have h : ptS f n (exA f n k) dp s = some w := h
    unfold ptS at h
    have hf := hz.hf
    have ho := hz.2.2.2.2.1
    have ho1 := ho.2.1
    have kn : ∀ s1, knS f n s = .inr s1 → (pP s1).1 4 < (pP s1).1 5 := fun s1 e1 => by
      obtain ⟨g, a, e5, e4, b, -⟩ := knS_ok hf ho e1
      have := ho.2.2
      omega
    show CV l G (d0 + 9) m2_part [.ref 2, .int (nI dp)] I J K f n w
    have last : ¬ pTk s = nI 23 → ¬ (nI 12 ≤ pTk s ∧ pTk s ≤ nI 18) → Gw l G (d0 + 9) m2_part 71 [.ref 2, .int (nI dp), .int (pTk s), .int (pVa s)] [] (I, J, K) (fun r h' => r = none ∧ ∃ I', h' = (I', J, K) ∧ FP I I' ∧ Lz I' f n w) := by
      intro a b
      rw [if_neg a, if_neg b] at h
      refine e_iload_n rfl rfl ?_
      refine e_bipush (v := nI 40) rfl bp_40N ?_
      refine e_icmp_ne (tgt := 85) rfl rfl (fun z => ?_) (fun z => ?_)
      · rw [if_neg z] at h
        obtain rfl := Option.some.inj h
        refine e_aload_n rfl rfl ?_
        refine e_iconst (v := nI 1) rfl ic_1N ?_
        refine e_callV (kd := 2) (M2 := m2_fail) rfl v2_59 ok2_fail (c2_fail hK hz (by omega) (by omega)) rfl (by assumption) rfl rfl rfl rfl (fun r1 h1 q1 => ?_)
        obtain ⟨rfl, I1, rfl, g1, L1⟩ := q1
        refine e_return rfl rfl ?_
        exact ⟨rfl, I1, rfl, g1, L1⟩
      · rw [if_pos z] at h
        refine e_aload_n rfl rfl ?_
        refine e_iload_n rfl rfl ?_
        refine e_callV (kd := 2) (M2 := m2_bracket) rfl v2_199 ok2_bracket (c2_bracket (dp := dp) (d := d0 + 8) hK h6 hdp (by omega) hz h) rfl (by assumption) rfl rfl rfl rfl (fun r1 h1 q1 => ?_)
        obtain ⟨rfl, I1, rfl, g1, L1⟩ := q1
        refine e_goto (tgt := 90) rfl rfl ?_
        refine e_return rfl rfl ?_
        exact ⟨rfl, I1, rfl, g1, L1⟩
    refine Cw.of ok2_part rfl (rfl : argL _ _ = [.ref 2, .int (nI dp), .null, .null]) ?_
    refine e_aload_n rfl rfl ?_
    refine e_getP rfl f2_21 (by assumption) rfl (by assumption) ?_
    refine e_getI rfl f2_48 (by assumption) rfl ?_
    rw [hz.tk]
    refine e_ist2 rfl rfl rfl ?_
    refine e_aload_n rfl rfl ?_
    refine e_getP rfl f2_21 (by assumption) rfl (by assumption) ?_
    refine e_getI rfl f2_143 (by assumption) rfl ?_
    rw [hz.va]
    refine e_ist3 rfl rfl rfl ?_
    refine e_iload_n rfl rfl ?_
    refine e_bipush (v := nI 23) rfl bp_23N ?_
    refine e_icmp_ne (tgt := 46) rfl rfl (fun z => ?_) (fun z => ?_)
    · refine e_iload_n rfl rfl ?_
      refine e_bipush (v := nI 12) rfl bp_12N ?_
      refine e_icmp_lt (tgt := 71) rfl rfl (fun y => ?_) (fun y => ?_)
      · exact last z (fun q => absurd y (Int32.not_lt.mpr q.1))
      · refine e_iload_n rfl rfl ?_
        refine e_bipush (v := nI 18) rfl bp_18N ?_
        refine e_icmp_gt (tgt := 71) rfl rfl (fun y2 => ?_) (fun y2 => ?_)
        · exact last z (fun q => absurd y2 (Int32.not_lt.mpr q.2))
        · rw [if_neg z, if_pos ⟨Int32.not_lt.mp y, Int32.not_lt.mp y2⟩] at h
          obtain rfl := Option.some.inj h
          refine e_aload_n rfl rfl ?_
          refine e_callV (kd := 2) (M2 := m2_knot) rfl v2_177 ok2_knot (c2_knot (d := d0 + 2) hK hz) rfl (by assumption) rfl rfl rfl rfl (fun r1 h1 q1 => ?_)
          obtain ⟨rfl, I1, rfl, g1, L1⟩ := q1
          refine e_aload_n rfl rfl ?_
          refine e_iload_n rfl rfl ?_
          refine e_ineg rfl ?_
          refine e_callV (kd := 2) (M2 := m2_emit) rfl v2_180 ok2_emit (c2_emit (d := d0 + 7) hK L1 (-pTk s) kn) rfl (by assumption) rfl rfl rfl rfl (fun r1 h1 q1 => ?_)
          obtain ⟨rfl, I2, rfl, g2, L2⟩ := q1
          refine e_goto (tgt := 90) rfl rfl ?_
          refine e_return rfl rfl ?_
          exact ⟨rfl, I2, rfl, g1.tr g2, L2⟩
    · rw [if_pos z] at h
      refine e_iload_n rfl rfl ?_
      refine e_sipush (v := nI 9999) rfl sp_9999N ?_
      refine e_icmp_le (tgt := 34) rfl rfl (fun y => ?_) (fun y => ?_)
      · rw [if_neg (Int32.not_lt.mpr y)] at h
        obtain rfl := Option.some.inj h
        refine e_aload_n rfl rfl ?_
        refine e_callV (kd := 2) (M2 := m2_knot) rfl v2_177 ok2_knot (c2_knot (d := d0 + 2) hK hz) rfl (by assumption) rfl rfl rfl rfl (fun r1 h1 q1 => ?_)
        obtain ⟨rfl, I1, rfl, g1, L1⟩ := q1
        refine e_aload_n rfl rfl ?_
        refine e_iload_n rfl rfl ?_
        refine e_callV (kd := 2) (M2 := m2_emit) rfl v2_180 ok2_emit (c2_emit (d := d0 + 7) hK L1 (pVa s) kn) rfl (by assumption) rfl rfl rfl rfl (fun r1 h1 q1 => ?_)
        obtain ⟨rfl, I2, rfl, g2, L2⟩ := q1
        refine e_goto (tgt := 90) rfl rfl ?_
        refine e_return rfl rfl ?_
        exact ⟨rfl, I2, rfl, g1.tr g2, L2⟩
      · rw [if_pos (Int32.not_le.mp y)] at h
        obtain rfl := Option.some.inj h
        have hk : I (3 + 22) 6 = nI ((pP s).1 5) := hz.2.2.2.1.2.2.2.2.2.2.2.2.2.1.2.2.1
        refine e_aload_n rfl rfl ?_
        refine e_iconst (v := nI 2) rfl ic_2N ?_
        refine e_callV (kd := 2) (M2 := m2_fail) rfl v2_59 ok2_fail (c2_failF hK hz (by omega) (by omega)) rfl (by assumption) rfl rfl rfl rfl (fun r1 h1 q1 => ?_)
        obtain ⟨rfl, I1, rfl, g1, L1⟩ := q1
        have hk1 : I1 (3 + 22) 6 = nI ((pP s).1 5) := by rw [g1 _ (by omega) (by omega)]; exact hk
        refine e_aload_n rfl rfl ?_
        refine e_callV (kd := 2) (M2 := m2_knot) rfl v2_177 ok2_knot (c2_knotD (d := d0 + 2) hK L1 hk1 ho1) rfl (by assumption) rfl rfl rfl rfl (fun r1 h1 q1 => ?_)
        obtain ⟨rfl, I2, rfl, g2, L2⟩ := q1
        refine e_aload_n rfl rfl ?_
        refine e_iload_n rfl rfl ?_
        refine e_callV (kd := 2) (M2 := m2_emit) rfl v2_180 ok2_emit (c2_emit (d := d0 + 7) hK L2 (pVa s) (fun s e => absurd e (by simp))) rfl (by assumption) rfl rfl rfl rfl (fun r1 h1 q1 => ?_)
        obtain ⟨rfl, I3, rfl, g3, L3⟩ := q1
        refine e_goto (tgt := 90) rfl rfl ?_
        refine e_return rfl rfl ?_
        exact ⟨rfl, I3, rfl, fun c hc => by rw [g3 c hc, g2 c hc, g1 c (by omega) (by omega)], L3⟩
theorem comp_step (hK : PK K) {k : Nat} (h2 : EXc l G J K f n k 2) : EXc l G J K f n (k + 1) 3 := by
  intro dp hdp d hd I zz w hz h
  obtain ⟨d0, rfl⟩ : ∃ d0, d = d0 + 9 := ⟨d - 9, by omega⟩
  have hK2 := hK
  obtain ⟨k2, p20, p21, hP3, k5, p0, a31, p1, a1⟩ := hK2
  have hf := hz.hf
  cases zz with
  | inl e =>
    obtain rfl := Option.some.inj h
    exact compared_dead (d := d0 + 5) hK hz
  | inr s =>
    have h : obd (exA f n k 2 dp s) (cpS f n (exA f n k) dp) = some w := h
    obtain ⟨w1, h1⟩ := obd_ex h
    rw [h1] at h
    show CV l G (d0 + 9) m2_compared [.ref 2, .int (nI dp)] I J K f n w
    refine Cw.of ok2_compared rfl (rfl : argL _ _ = [.ref 2, .int (nI dp), .null]) ?_
    refine e_aload_n rfl rfl ?_
    refine e_iload_n rfl rfl ?_
    refine e_callV (kd := 2) (M2 := m2_sum) rfl v2_187 ok2_sum (h2 dp hdp (d0 + 8) (by omega) I (.inr s) w1 hz h1) rfl (by assumption) rfl rfl rfl rfl (fun r1 h1 q1 => ?_)
    obtain ⟨rfl, I1, rfl, g1, L1⟩ := q1
    refine e_aload_n rfl rfl ?_
    refine e_getP rfl f2_21 (by assumption) rfl (by assumption) ?_
    refine e_getI rfl f2_48 (by assumption) rfl ?_
    cases w1 with
    | inl e =>
      obtain rfl := Option.some.inj h
      rw [L1.dead]
      refine e_ist2 rfl rfl rfl ?_
      refine e_iload_n rfl rfl ?_
      refine e_callSp (M2 := m2_isComparison) rfl v2_190 ok2_isComparison (c2_isComparison (-1)) rfl rfl rfl ?_
      rw [show isCmp (-1) = false by decide]
      refine e_if_eqB (tgt := 35) rfl rfl (fun _ => ?_) (fun z => absurd z (by decide))
      refine e_return rfl rfl ?_
      exact ⟨rfl, I1, rfl, g1, L1⟩
    | inr s1 =>
      have h : cpS f n (exA f n k) dp s1 = some w := h
      unfold cpS at h
      have ho := L1.2.2.2.2.1
      rw [L1.tk]
      refine e_ist2 rfl rfl rfl ?_
      refine e_iload_n rfl rfl ?_
      refine e_callSp (M2 := m2_isComparison) rfl v2_190 ok2_isComparison (c2_isComparison (pTk s1)) rfl rfl rfl ?_
      refine e_if_eqB (tgt := 35) rfl rfl (fun z => ?_) (fun z => ?_)
      · rw [if_neg (by rw [z]; decide)] at h
        obtain rfl := Option.some.inj h
        refine e_return rfl rfl ?_
        exact ⟨rfl, I1, rfl, g1, L1⟩
      · rw [if_pos z] at h
        have h := (obd_assoc (some (knS f n s1)) (exA f n k 2 dp) _).trans h
        obtain ⟨w2, hw2⟩ := obd_ex h
        rw [hw2, obd_em] at h
        obtain rfl := Option.some.inj h
        refine e_aload_n rfl rfl ?_
        refine e_callV (kd := 2) (M2 := m2_knot) rfl v2_177 ok2_knot (c2_knot (d := d0 + 2) hK L1) rfl (by assumption) rfl rfl rfl rfl (fun r1 h1 q1 => ?_)
        obtain ⟨rfl, I2, rfl, g2, L2⟩ := q1
        refine e_aload_n rfl rfl ?_
        refine e_iload_n rfl rfl ?_
        refine e_callV (kd := 2) (M2 := m2_sum) rfl v2_187 ok2_sum (h2 dp hdp (d0 + 8) (by omega) I2 _ w2 L2 hw2) rfl (by assumption) rfl rfl rfl rfl (fun r1 h1 q1 => ?_)
        obtain ⟨rfl, I3, rfl, g3, L3⟩ := q1
        refine e_aload_n rfl rfl ?_
        refine e_iload_n rfl rfl ?_
        refine e_ineg rfl ?_
        refine e_callV (kd := 2) (M2 := m2_emit) rfl v2_180 ok2_emit (c2_emit (d := d0 + 7) hK L3 (-pTk s1) (fun s2 e => by subst e; exact (knE hf (by omega) ho hw2).1)) rfl (by assumption) rfl rfl rfl rfl (fun r1 h1 q1 => ?_)
        obtain ⟨rfl, I4, rfl, g4, L4⟩ := q1
        refine e_return rfl rfl ?_
        exact ⟨rfl, I4, rfl, ((g1.tr g2).tr g3).tr g4, L4⟩
theorem dn_step (hK : PK K) {k : Nat} (hD : DNc l G J K f n k) (h3 : EXc l G J K f n k 3) : DNc l G J K f n (k + 1) := by
  intro dp hdp d hd I zz w i hi hz h hs Q kk v3
  obtain ⟨d0, rfl⟩ : ∃ d0, d = d0 + 9 := ⟨d - 9, by omega⟩
  have hK2 := hK
  obtain ⟨k2, p20, p21, hP3, k5, p0, a31, p1, a1⟩ := hK2
  have hf := hz.hf
  cases zz with
  | inl e =>
    obtain rfl := Option.some.inj h
    refine dn_dead (d := d0 + 4) hK hz hi (fun I2 g2 L2 => kk I2 g2 ?_) v3
    rw [emN_dead]
    exact L2
  | inr s =>
    have ho := hz.2.2.2.2.1
    have ho1 := ho.2.1
    have hsi := hs s rfl
    have h : dnS f n (exA f n k) dp s = some w := h
    unfold dnS at h
    refine e_iload_n rfl rfl ?_
    refine e_bipush (v := nI 64) rfl bp_64N ?_
    first | refine e_icmp_gtN (tgt := 30) rfl rfl (by omega) (by omega) (fun z => ?_) (fun z => ?_) | refine e_icmp_gt (tgt := 30) rfl rfl (fun z => ?_) (fun z => ?_)
    · omega
    · refine e_aload_n rfl rfl ?_
      refine e_getP rfl f2_21 (by assumption) rfl (by assumption) ?_
      refine e_getI rfl f2_48 (by assumption) rfl ?_
      rw [hz.tk]
      refine e_bipush (v := nI 19) rfl bp_19N ?_
      refine e_icmp_ne (tgt := 30) rfl rfl (fun z => ?_) (fun z => ?_)
      · rw [if_neg z] at h
        refine e_aload_n rfl rfl ?_
        refine e_iload_n rfl rfl ?_
        refine e_callV (kd := 2) (M2 := m2_compared) rfl v2_184 ok2_compared (h3 dp hdp (d0 + 8) (by omega) I (.inr s) w hz h) rfl (by assumption) rfl rfl rfl rfl (fun r1 h1 q1 => ?_)
        obtain ⟨rfl, I1, rfl, g1, L1⟩ := q1
        refine e_iconst (v := nI 0) rfl ic_0N ?_
        refine e_ist3 rfl rfl rfl ?_
        refine emits_loop (d := d0 + 7) hK hi i 0 I1 w (by omega) L1 (fun s1 e => ?_) (fun I2 g2 L2 => kk I2 (g1.tr g2) L2)
        subst e
        obtain ⟨gg, o, lt⟩ := exA_ok hf k _ _ _ _ ho h
        have := gg.2
        omega
      · rw [if_pos z] at h
        have h := (obd_assoc (some (knS f n s)) (exA f n k 4 dp) _).trans h
        obtain ⟨w2, hw2⟩ := obd_ex h
        rw [hw2, obd_em] at h
        obtain rfl := Option.some.inj h
        refine e_aload_n rfl rfl ?_
        refine e_callV (kd := 2) (M2 := m2_knot) rfl v2_177 ok2_knot (c2_knot (d := d0 + 2) hK hz) rfl (by assumption) rfl rfl rfl rfl (fun r1 h1 q1 => ?_)
        obtain ⟨rfl, I1, rfl, g1, L1⟩ := q1
        first | refine e_inc2 rfl rfl rfl (incN1 _) ?_ | refine e_inc2 rfl rfl rfl rfl ?_
        refine e_goto (tgt := 2) rfl rfl ?_
        refine hD dp hdp (d0 + 9) (by omega) I1 _ w2 (i + 1) (by omega) L1 hw2 (fun s1 e1 => ?_) Q (fun I2 g2 L2 => kk I2 (g1.tr g2) L2) _
        obtain ⟨g, a, e5, e4, b, -⟩ := knS_ok hf ho e1
        omega
theorem den_of (hK : PK K) {k : Nat} (hD : DNc l G J K f n k) : EXc l G J K f n k 4 := by
  intro dp hdp d hd I zz w hz h
  show CV l G d m2_denied [.ref 2, .int (nI dp)] I J K f n w
  refine Cw.of ok2_denied rfl (rfl : argL _ _ = [.ref 2, .int (nI dp), .null, .null]) ?_
  refine e_iconst (v := nI 0) rfl ic_0N ?_
  refine e_ist2 rfl rfl rfl ?_
  refine hD dp hdp d hd I zz w 0 (by omega) hz h (fun s e => by subst e; exact hz.2.2.2.2.1.2.2) _ (fun I2 g2 L2 => ⟨rfl, I2, rfl, g2, L2⟩) _
theorem product_step (hK : PK K) {k : Nat} (hS : EXc l G J K f n k 0) (hL : LOc7 l G J K f n k) : EXc l G J K f n (k + 1) 1 := by
  intro dp hdp d hd I zz w hz h
  obtain ⟨d0, rfl⟩ : ∃ d0, d = d0 + 9 := ⟨d - 9, by omega⟩
  have hf := hz.hf
  cases zz with
  | inl e =>
    obtain rfl := Option.some.inj h
    exact product_dead (d := d0 + 7) hK hz
  | inr s =>
    have h : obd (exA f n k 0 dp s) (exA f n k 7 dp) = some w := h
    obtain ⟨w1, hw1⟩ := obd_ex h
    rw [hw1] at h
    have k2 := hK.1
    have ho := hz.2.2.2.2.1
    show CV l G (d0 + 9) m2_product [.ref 2, .int (nI dp)] I J K f n w
    refine Cw.of ok2_product rfl (rfl : argL _ _ = [.ref 2, .int (nI dp), .null, .null]) ?_
    refine e_aload_n rfl rfl ?_
    refine e_iload_n rfl rfl ?_
    refine e_callV (kd := 2) (M2 := m2_part) rfl v2_196 ok2_part (hS dp hdp (d0 + 8) (by omega) I (.inr s) w1 hz hw1) rfl (by assumption) rfl rfl rfl rfl (fun r1 h1 q1 => ?_)
    obtain ⟨rfl, I1, rfl, g1, L1⟩ := q1
    refine e_iconst (v := nI 0) rfl ic_0N ?_
    refine e_ist2 rfl rfl rfl ?_
    refine hL dp hdp (d0 + 9) (by omega) I1 w1 w 0 L1 h (fun s1 e => ?_) _ (fun I2 g2 L2 => ⟨rfl, I2, rfl, g1.tr g2, L2⟩) .null
    subst e
    have := (exA_ok hf k _ _ _ _ ho hw1).2.2 (by omega)
    omega
theorem sum_step (hK : PK K) {k : Nat} (hS : EXc l G J K f n k 1) (hL : LOc8 l G J K f n k) : EXc l G J K f n (k + 1) 2 := by
  intro dp hdp d hd I zz w hz h
  obtain ⟨d0, rfl⟩ : ∃ d0, d = d0 + 9 := ⟨d - 9, by omega⟩
  have hf := hz.hf
  cases zz with
  | inl e =>
    obtain rfl := Option.some.inj h
    exact sum_dead (d := d0 + 6) hK hz
  | inr s =>
    have h : obd (exA f n k 1 dp s) (exA f n k 8 dp) = some w := h
    obtain ⟨w1, hw1⟩ := obd_ex h
    rw [hw1] at h
    have k2 := hK.1
    have ho := hz.2.2.2.2.1
    show CV l G (d0 + 9) m2_sum [.ref 2, .int (nI dp)] I J K f n w
    refine Cw.of ok2_sum rfl (rfl : argL _ _ = [.ref 2, .int (nI dp), .null, .null]) ?_
    refine e_aload_n rfl rfl ?_
    refine e_iload_n rfl rfl ?_
    refine e_callV (kd := 2) (M2 := m2_product) rfl v2_193 ok2_product (hS dp hdp (d0 + 8) (by omega) I (.inr s) w1 hz hw1) rfl (by assumption) rfl rfl rfl rfl (fun r1 h1 q1 => ?_)
    obtain ⟨rfl, I1, rfl, g1, L1⟩ := q1
    refine e_iconst (v := nI 0) rfl ic_0N ?_
    refine e_ist2 rfl rfl rfl ?_
    refine hL dp hdp (d0 + 9) (by omega) I1 w1 w 0 L1 h (fun s1 e => ?_) _ (fun I2 g2 L2 => ⟨rfl, I2, rfl, g1.tr g2, L2⟩) .null
    subst e
    have := (exA_ok hf k _ _ _ _ ho hw1).2.2 (by omega)
    omega
theorem both_step (hK : PK K) {k : Nat} (hS : EXc l G J K f n k 4) (hL : LOc9 l G J K f n k) : EXc l G J K f n (k + 1) 5 := by
  intro dp hdp d hd I zz w hz h
  obtain ⟨d0, rfl⟩ : ∃ d0, d = d0 + 9 := ⟨d - 9, by omega⟩
  have hf := hz.hf
  cases zz with
  | inl e =>
    obtain rfl := Option.some.inj h
    exact both_dead (d := d0 + 3) hK hz
  | inr s =>
    have h : obd (exA f n k 4 dp s) (exA f n k 9 dp) = some w := h
    obtain ⟨w1, hw1⟩ := obd_ex h
    rw [hw1] at h
    have k2 := hK.1
    have ho := hz.2.2.2.2.1
    show CV l G (d0 + 9) m2_both [.ref 2, .int (nI dp)] I J K f n w
    refine Cw.of ok2_both rfl (rfl : argL _ _ = [.ref 2, .int (nI dp), .null]) ?_
    refine e_aload_n rfl rfl ?_
    refine e_iload_n rfl rfl ?_
    refine e_callV (kd := 2) (M2 := m2_denied) rfl v2_181 ok2_denied (hS dp hdp (d0 + 8) (by omega) I (.inr s) w1 hz hw1) rfl (by assumption) rfl rfl rfl rfl (fun r1 h1 q1 => ?_)
    obtain ⟨rfl, I1, rfl, g1, L1⟩ := q1
    refine e_iconst (v := nI 0) rfl ic_0N ?_
    refine e_ist2 rfl rfl rfl ?_
    refine hL dp hdp (d0 + 9) (by omega) I1 w1 w 0 L1 h (fun s1 e => ?_) _ (fun I2 g2 L2 => ⟨rfl, I2, rfl, g1.tr g2, L2⟩) .null
    subst e
    have := (exA_ok hf k _ _ _ _ ho hw1).2.2 (by omega)
    omega
theorem either_step (hK : PK K) {k : Nat} (hS : EXc l G J K f n k 5) (hL : LOc10 l G J K f n k) : EXc l G J K f n (k + 1) 6 := by
  intro dp hdp d hd I zz w hz h
  obtain ⟨d0, rfl⟩ : ∃ d0, d = d0 + 9 := ⟨d - 9, by omega⟩
  have hf := hz.hf
  cases zz with
  | inl e =>
    obtain rfl := Option.some.inj h
    exact either_dead (d := d0 + 2) hK hz
  | inr s =>
    have h : obd (exA f n k 5 dp s) (exA f n k 10 dp) = some w := h
    obtain ⟨w1, hw1⟩ := obd_ex h
    rw [hw1] at h
    have k2 := hK.1
    have ho := hz.2.2.2.2.1
    show CV l G (d0 + 9) m2_either [.ref 2, .int (nI dp)] I J K f n w
    refine Cw.of ok2_either rfl (rfl : argL _ _ = [.ref 2, .int (nI dp), .null]) ?_
    refine e_aload_n rfl rfl ?_
    refine e_iload_n rfl rfl ?_
    refine e_callV (kd := 2) (M2 := m2_both) rfl v2_174 ok2_both (hS dp hdp (d0 + 8) (by omega) I (.inr s) w1 hz hw1) rfl (by assumption) rfl rfl rfl rfl (fun r1 h1 q1 => ?_)
    obtain ⟨rfl, I1, rfl, g1, L1⟩ := q1
    refine e_iconst (v := nI 0) rfl ic_0N ?_
    refine e_ist2 rfl rfl rfl ?_
    refine hL dp hdp (d0 + 9) (by omega) I1 w1 w 0 L1 h (fun s1 e => ?_) _ (fun I2 g2 L2 => ⟨rfl, I2, rfl, g1.tr g2, L2⟩) .null
    subst e
    have := (exA_ok hf k _ _ _ _ ho hw1).2.2 (by omega)
    omega
theorem ex_all (hK : PK K) : ∀ k, (∀ lv, lv ≤ 6 → EXc l G J K f n k lv) ∧ DNc l G J K f n k ∧ LOc7 l G J K f n k ∧ LOc8 l G J K f n k ∧ LOc9 l G J K f n k ∧ LOc10 l G J K f n k
  | 0 => by
    have none_ : ∀ lv dp s w, ¬ obd (some (.inr s)) (exA f n 0 lv dp) = some w := fun lv dp s w h => absurd h (by simp [obd, exA])
    have hD : DNc l G J K f n 0 := by
      intro dp hdp d hd I zz w i hi hz h hs Q kk v3
      obtain ⟨d0, rfl⟩ : ∃ d0, d = d0 + 9 := ⟨d - 9, by omega⟩
      cases zz with
      | inl e =>
        obtain rfl := Option.some.inj h
        exact dn_dead (d := d0 + 4) hK hz hi (fun I2 g2 L2 => kk I2 g2 (by rw [emN_dead]; exact L2)) v3
      | inr s => exact absurd h (none_ _ _ _ _)
    refine ⟨fun lv hl => ?_, hD, ?_, ?_, ?_, ?_⟩
    · intro dp hdp d hd I zz w hz h
      obtain ⟨d0, rfl⟩ : ∃ d0, d = d0 + 9 := ⟨d - 9, by omega⟩
      cases zz with
      | inr s => exact absurd h (none_ _ _ _ _)
      | inl e =>
        obtain rfl := Option.some.inj h
        match lv, hl with
        | 0, _ => exact part_dead (d := d0 + 8) hK hz
        | 1, _ => exact product_dead (d := d0 + 7) hK hz
        | 2, _ => exact sum_dead (d := d0 + 6) hK hz
        | 3, _ => exact compared_dead (d := d0 + 5) hK hz
        | 4, _ => exact denied_dead (d := d0 + 4) hK hz
        | 5, _ => exact both_dead (d := d0 + 3) hK hz
        | 6, _ => exact either_dead (d := d0 + 2) hK hz
    · intro dp hdp d hd I zz w i hz h hkn Q kk v3
      cases zz with
      | inl e =>
        obtain rfl := Option.some.inj h
        exact lo7_dead hK hz (kk I FP.rf hz) v3
      | inr s => exact absurd h (none_ _ _ _ _)
    · intro dp hdp d hd I zz w i hz h hkn Q kk v3
      cases zz with
      | inl e =>
        obtain rfl := Option.some.inj h
        exact lo8_dead hK hz (kk I FP.rf hz) v3
      | inr s => exact absurd h (none_ _ _ _ _)
    · intro dp hdp d hd I zz w i hz h hkn Q kk v3
      cases zz with
      | inl e =>
        obtain rfl := Option.some.inj h
        exact lo9_dead hK hz (kk I FP.rf hz) v3
      | inr s => exact absurd h (none_ _ _ _ _)
    · intro dp hdp d hd I zz w i hz h hkn Q kk v3
      cases zz with
      | inl e =>
        obtain rfl := Option.some.inj h
        exact lo10_dead hK hz (kk I FP.rf hz) v3
      | inr s => exact absurd h (none_ _ _ _ _)
  | k + 1 => by
    obtain ⟨hE, hD, l7, l8, l9, l10⟩ := ex_all hK k
    have hD1 := dn_step hK hD (hE 3 (by omega))
    refine ⟨fun lv hl => ?_, hD1, lo7_step hK (hE 0 (by omega)) l7, lo8_step hK (hE 1 (by omega)) l8, lo9_step hK (hE 4 (by omega)) l9, lo10_step hK (hE 5 (by omega)) l10⟩
    match lv, hl with
    | 0, _ => exact part_step hK (hE 6 (by omega))
    | 1, _ => exact product_step hK (hE 0 (by omega)) l7
    | 2, _ => exact sum_step hK (hE 1 (by omega)) l8
    | 3, _ => exact comp_step hK (hE 2 (by omega))
    | 4, _ => exact den_of hK hD1
    | 5, _ => exact both_step hK (hE 4 (by omega)) l9
    | 6, _ => exact either_step hK (hE 5 (by omega)) l10
end MExp2
