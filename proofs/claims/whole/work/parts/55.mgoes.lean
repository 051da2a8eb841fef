/-! ===== the reference: goes, within, calls, opens ===== -/
theorem isNm_c {c : Int32} (h : isNm c = true) : (0 ≤ c ∧ kS c = nI 0 ∧ kV c = c) ∨ (∃ j, j < 7 ∧ c = -(nI (12 + j)) ∧ kS c = nI 1 ∧ kV c = nI j) := by
  rcases of_decide_eq_true h with ⟨a, b⟩ | ⟨a, b⟩
  · exact Or.inl ⟨a, by unfold kS; rw [if_pos a], by unfold kV; rw [if_pos a]⟩
  · right
    have h1 : nI 12 ≤ -c ∧ -c ≤ nI 18 := by
      have e : c.toInt ≤ -12 ∧ -18 ≤ c.toInt := by
        rw [Int32.le_iff_toInt_le] at a b
        have e1 : (-18 : Int32).toInt = -18 := by decide
        have e2 : (-12 : Int32).toInt = -12 := by decide
        omega
      rw [Int32.le_iff_toInt_le, Int32.le_iff_toInt_le, Int32.toInt_neg, Int.bmod_def]
      have e1 : (nI 12).toInt = 12 := by decide
      have e2 : (nI 18).toInt = 18 := by decide
      omega
    obtain ⟨j, j1, j2, j3⟩ := nI_rg (by omega) (by omega) h1.1 h1.2
    have ec : c = -(nI j) := by rw [← j3, Int32.neg_neg]
    subst ec
    have : ∀ j, j ≤ 18 → 12 ≤ j → kS (-(nI j)) = nI 1 ∧ kV (-(nI j)) = nI (j - 12) := by decide
    obtain ⟨t1, t2⟩ := this j j2 j1
    exact ⟨j - 12, by omega, by rw [show 12 + (j - 12) = j by omega], t1, t2⟩
theorem isJn_c {c : Int32} (h : isJn c = true) : kS c = nI 2 ∧ 0 < -c ∧ ¬ (nI 12 ≤ -c ∧ -c ≤ nI 18) ∧ ¬ -c = nI 19 := by
  rcases of_decide_eq_true h with rfl | rfl | rfl | rfl | rfl | rfl | rfl | rfl | rfl | rfl | rfl | rfl <;> decide
/-- a KNOT that can be: what it is, and how the pile goes on -/
theorem hs1_cases {c : Int32} {h h' : Nat} (e : hs1 c h = some h') : (isNm c = true ∧ h' = h + 1) ∨ (c = -19 ∧ 1 ≤ h ∧ h' = h) ∨ (isJn c = true ∧ 2 ≤ h ∧ h' = h - 1) := by
  unfold hs1 at e
  split at e
  · next a => exact Or.inl ⟨a, (Option.some.inj e).symm⟩
  · split at e
    · next b =>
      split at e
      · next c => exact Or.inr (Or.inl ⟨b, c, (Option.some.inj e).symm⟩)
      · exact absurd e (by simp)
    · split at e
      · next b =>
        split at e
        · next c => exact Or.inr (Or.inr ⟨b, c, (Option.some.inj e).symm⟩)
        · exact absurd e (by simp)
      · exact absurd e (by simp)
theorem htF_step {code : Nat → Int32} {k i h r : Nat} (e : htF code (k + 1) i h = some r) : ∃ h1, hs1 (code i) h = some h1 ∧ htF code k (i + 1) h1 = some r := by
  rw [htF] at e
  cases h1 : hs1 (code i) h with
  | none => rw [h1] at e; exact absurd e (by simp)
  | some x => rw [h1] at e; exact ⟨x, rfl, e⟩
theorem jn_vB {c : Int32} {x y : Int64} (h : ¬ (MOSTL < jn (-c) x y ∨ jn (-c) x y < -MOSTL)) : vB (jn (-c) x y) := ⟨Int64.not_lt.mp (fun q => h (Or.inr q)), Int64.not_lt.mp (fun q => h (Or.inl q))⟩
theorem vB_ne {v : Int64} (h : vB v) : ¬ v = MINL := by
  rintro rfl
  exact absurd h.1 (by decide)
def allB : List Int64 → Prop
  | [] => True
  | v :: r => vB v ∧ allB r
/-- of what goes, within and calls may change -/
def FW5 (I : IM) (J : JM) (I' : IM) (J' : JM) : Prop := (∀ c k, ¬ (c = 102 ∧ k = 36) → I' c k = I c k) ∧ ∀ c, c ≠ 122 → c ≠ 123 → J' c = J c
theorem FW5.rf {I : IM} {J : JM} : FW5 I J I J := ⟨fun _ _ _ => rfl, fun _ _ _ => rfl⟩
theorem FW5.tr {I I1 I2 : IM} {J J1 J2 : JM} (h : FW5 I J I1 J1) (g : FW5 I1 J1 I2 J2) : FW5 I J I2 J2 := ⟨fun c k e => (g.1 c k e).trans (h.1 c k e), fun c a b => (g.2 c a b).trans (h.2 c a b)⟩
theorem FW5.row {I I' : IM} {J J' : JM} (h : FW5 I J I' J') {c : Nat} (hc : c ≠ 102) : I' c = I c := funext fun k => h.1 c k (fun q => hc q.1)
section MGoes
variable {l : Launch} {G : GG} {d : Nat} {I : IM} {J : JM} {K : Kt} {Q : Option Value → Hp → Prop} {P : Pl} {f n B : Nat} {S : SM}
theorem goes_loop (hM : MK K) {code nm : Nat → Int32} {w b : Nat} (hw : w < 3) (hb : b ≤ 64) : ∀ k i pl I J, i + k = b → I 119 w = nI b → (∀ j, j < b → I 120 j = kS (code j) ∧ I 121 j = kV (code j)) → (∀ j, j < 7 → J 122 j = (nm j).toInt64) → pileIs (J 123) pl → I 102 36 = nI pl.length → pl.length + k ≤ 64 → allB pl → htF code k i pl.length = some 1 → (∀ I' J', FW5 I J I' J' → evW code nm k i pl = MINL → Q (some (.int (bI false))) (I', J', K)) → (∀ I' J', FW5 I J I' J' → vB (evW code nm k i pl) → J' 123 0 = evW code nm k i pl → Q (some (.int (bI true))) (I', J', K)) → Gw l G (d + 2) m10_goes 12 [.ref 102, .int (nI w), .int (nI i)] [] (I, J, K) Q := by
  intro k
  induction k with
  | zero =>
    intro i pl I J hi hu hk hn hp hm hl hB hh kf kt
    refine e_iload_n rfl rfl ?_
    refine e_aload_n rfl rfl ?_
    refine e_getP rfl f10_58 hM.k rfl hM.p18 ?_
    refine e_iload_n rfl rfl ?_
    first | refine e_ialoadN rfl hM.a18 (by omega) (by omega) ?_ | (refine e_iaload rfl hM.a18 ?_ ?_; rotate_left)
    rw [hu]
    first | refine e_icmp_geN (tgt := 102) rfl rfl (by omega) (by omega) (fun z => ?_) (fun z => ?_) | refine e_icmp_ge (tgt := 102) rfl rfl (fun z => ?_) (fun z => ?_)
    · refine e_iconst (v := nI 1) rfl ic_1N ?_
      refine e_zreturn rfl rfl ?_ ?_
      · exact Or.inr rfl
      · have h1 : pl.length = 1 := Option.some.inj hh
        match pl, h1, hp, hB, kt with
        | [v], _, hp, hB, kt => exact kt I J FW5.rf hB.1 hp.1
    · omega
  | succ k ih =>
    intro i pl I J hi hu hk hn hp hm hl hB hh kf kt
    obtain ⟨e1, e2⟩ := hk i (by omega)
    obtain ⟨h1, hs, hh⟩ := htF_step hh
    refine e_iload_n rfl rfl ?_
    refine e_aload_n rfl rfl ?_
    refine e_getP rfl f10_58 hM.k rfl hM.p18 ?_
    refine e_iload_n rfl rfl ?_
    first | refine e_ialoadN rfl hM.a18 (by omega) (by omega) ?_ | (refine e_iaload rfl hM.a18 ?_ ?_; rotate_left)
    rw [hu]
    first | refine e_icmp_geN (tgt := 102) rfl rfl (by omega) (by omega) (fun z => ?_) (fun z => ?_) | refine e_icmp_ge (tgt := 102) rfl rfl (fun z => ?_) (fun z => ?_)
    · omega
    · refine e_aload_n rfl rfl ?_
      refine e_getP rfl f10_61 hM.k rfl hM.p19 ?_
      refine e_iload_n rfl rfl ?_
      first | refine e_ialoadN rfl hM.a19 (by omega) (by omega) ?_ | (refine e_iaload rfl hM.a19 ?_ ?_; rotate_left)
      rw [e1]
      rcases hs1_cases hs with ⟨a, rfl⟩ | ⟨a, a1, rfl⟩ | ⟨a, a1, rfl⟩
      · -- a number or a name
        have push : ∀ v : Int64, vB v → stW (code i) nm pl = some (v :: pl) → Gw l G (d + 2) m10_goes 85 [.ref 102, .int (nI w), .int (nI i)] [.long v, .int (nI pl.length), .ref 123] (I, J, K) Q := by
          intro v hv hst
          first | refine e_lastoreN rfl hM.a35 (by omega) (by omega) ?_ | (refine e_lastore rfl hM.a35 ?_ ?_; rotate_left)
          refine e_aload_n rfl rfl ?_
          refine e_dup rfl rfl ?_
          refine e_getI rfl f10_310 hM.k rfl ?_
          rw [hm]
          refine e_iconst (v := nI 1) rfl ic_1N ?_
          first | refine e_iaddN rfl ?_ | refine e_iadd rfl ?_
          refine e_putI rfl f10_310 hM.k rfl rfl ?_
          first | refine e_inc2 rfl rfl rfl (incN1 _) ?_ | refine e_inc2 rfl rfl rfl rfl ?_
          refine e_goto (tgt := 12) rfl rfl ?_
          have ew := evW_some (k := k) hst
          have fw : FW5 I J (u2 I 102 36 (nI (pl.length + 1))) (u2 J 123 pl.length v) := ⟨fun c q e => if_neg e, fun c _ e => u2_row _ _ e⟩
          refine ih (i + 1) (v :: pl) _ _ (by omega) (by rw [u2_ne _ _ (by omega)]; exact hu) (fun j hj => by rw [u2_ne _ _ (by omega), u2_ne _ _ (by omega)]; exact hk j hj) (fun j hj => by rw [u2_ne _ _ (by omega)]; exact hn j hj) ⟨u2_at _ _ _ _, pileIs_keep hp (fun j hj => u2_nk _ _ (by omega))⟩ (u2_at _ _ _ _) (by simp only [List.length_cons]; omega) ⟨hv, hB⟩ hh (fun I' J' g e => kf I' J' (fw.tr g) (ew.trans e)) (fun I' J' g e1 e2 => kt I' J' (fw.tr g) (by rw [ew]; exact e1) (by rw [ew]; exact e2))
        rcases isNm_c a with ⟨c0, cs, cv⟩ | ⟨j, hj, cj, cs, cv⟩
        · rw [cs]
          refine e_iconst (v := nI 2) rfl ic_2N ?_
          refine e_icmp_ne (tgt := 47) rfl rfl (fun _ => ?_) (fun z => absurd z (by decide))
          refine e_aload_n rfl rfl ?_
          refine e_getP rfl f10_75 hM.k rfl hM.p35 ?_
          refine e_aload_n rfl rfl ?_
          refine e_getI rfl f10_310 hM.k rfl ?_
          rw [hm]
          refine e_aload_n rfl rfl ?_
          refine e_getP rfl f10_61 hM.k rfl hM.p19 ?_
          refine e_iload_n rfl rfl ?_
          first | refine e_ialoadN rfl hM.a19 (by omega) (by omega) ?_ | (refine e_iaload rfl hM.a19 ?_ ?_; rotate_left)
          rw [e1, cs]
          refine e_if_ne (tgt := 74) rfl rfl (fun z => absurd rfl z) (fun _ => ?_)
          refine e_aload_n rfl rfl ?_
          refine e_getP rfl f10_64 hM.k rfl hM.p20 ?_
          refine e_iload_n rfl rfl ?_
          first | refine e_ialoadN rfl hM.a20 (by omega) (by omega) ?_ | (refine e_iaload rfl hM.a20 ?_ ?_; rotate_left)
          rw [e2, cv]
          refine e_i2l rfl ?_
          refine e_goto (tgt := 85) rfl rfl ?_
          refine push _ (vB_of32 _) ?_
          rw [stW_num]
          · rw [Int32.neg_neg]
          · rcases of_decide_eq_true a with ⟨q1, q2⟩ | ⟨q1, q2⟩
            · obtain ⟨j, j1, j2, j3⟩ := nI_rg (a := 0) (by omega) (by omega) q1 q2
              rw [j3, Int32.lt_iff_toInt_lt, Int32.toInt_neg, Int.bmod_def]
              have : (nI j).toInt = j := by
                have := (nI_leI (by omega) (by omega)).mpr j2
                exact nI_toInt (by omega)
              rw [this]
              have z0 : (0 : Int32).toInt = 0 := rfl
              omega
            · exact absurd (Int32.le_trans c0 q2) (by decide)
        · rw [cs]
          refine e_iconst (v := nI 2) rfl ic_2N ?_
          refine e_icmp_ne (tgt := 47) rfl rfl (fun _ => ?_) (fun z => absurd z (by decide))
          refine e_aload_n rfl rfl ?_
          refine e_getP rfl f10_75 hM.k rfl hM.p35 ?_
          refine e_aload_n rfl rfl ?_
          refine e_getI rfl f10_310 hM.k rfl ?_
          rw [hm]
          refine e_aload_n rfl rfl ?_
          refine e_getP rfl f10_61 hM.k rfl hM.p19 ?_
          refine e_iload_n rfl rfl ?_
          first | refine e_ialoadN rfl hM.a19 (by omega) (by omega) ?_ | (refine e_iaload rfl hM.a19 ?_ ?_; rotate_left)
          rw [e1, cs]
          refine e_if_ne (tgt := 74) rfl rfl (fun _ => ?_) (fun z => absurd z (by decide))
          refine e_aload_n rfl rfl ?_
          refine e_getP rfl f10_71 hM.k rfl hM.p34 ?_
          refine e_aload_n rfl rfl ?_
          refine e_getP rfl f10_64 hM.k rfl hM.p20 ?_
          refine e_iload_n rfl rfl ?_
          first | refine e_ialoadN rfl hM.a20 (by omega) (by omega) ?_ | (refine e_iaload rfl hM.a20 ?_ ?_; rotate_left)
          rw [e2, cv]
          first | refine e_laloadN rfl hM.a34 (by omega) (by omega) ?_ | (refine e_laload rfl hM.a34 ?_ ?_; rotate_left)
          rw [hn j hj]
          refine push _ (vB_of32 _) ?_
          have : ∀ j, j < 7 → 0 < -(-(nI (12 + j))) ∧ (nI 12 ≤ -(-(nI (12 + j))) ∧ -(-(nI (12 + j))) ≤ nI 18) ∧ (-(-(nI (12 + j))) - nI 12).toNatClampNeg = j := by decide
          obtain ⟨t1, t2, t3⟩ := this j hj
          rw [stW_nam (by rw [cj]; exact t1) (by rw [cj]; exact t2), cj, t3]
      · match pl, hp, hm, hl, hB, a1, hh, kf, kt with
        | y :: r, hp, hm, hl, hB, _, hh, kf, kt =>
          have ek : kS (code i) = nI 2 ∧ kV (code i) = nI 260 := by rw [a]; decide
          rw [ek.1]
          have hl : r.length + 1 + (k + 1) ≤ 64 := hl
          refine e_iconst (v := nI 2) rfl ic_2N ?_
          first | refine e_icmp_neN (tgt := 47) rfl rfl (by omega) (by omega) (fun z => ?_) (fun z => ?_) | refine e_icmp_ne (tgt := 47) rfl rfl (fun z => ?_) (fun z => ?_)
          · omega
          · refine e_aload_n rfl rfl ?_
            refine e_aload_n rfl rfl ?_
            refine e_getP rfl f10_64 hM.k rfl hM.p20 ?_
            refine e_iload_n rfl rfl ?_
            first | refine e_ialoadN rfl hM.a20 (by omega) (by omega) ?_ | (refine e_iaload rfl hM.a20 ?_ ?_; rotate_left)
            rw [e2, ek.2]
            refine e_callV (kd := 10) (M2 := m10_works) rfl v10_327 ok10_works (c10_worksNot (d := d) hM hp (by omega) hm) rfl hM.k rfl rfl rfl rfl (fun r1 h1 q1 => ?_)
            obtain ⟨rfl, J1, rfl, j1, p1⟩ := q1
            refine e_if_neB (tgt := 96) rfl rfl (fun _ => ?_) (fun z => absurd z (by decide))
            first | refine e_inc2 rfl rfl rfl (incN1 _) ?_ | refine e_inc2 rfl rfl rfl rfl ?_
            refine e_goto (tgt := 12) rfl rfl ?_
            have ew := evW_some (k := k) (show stW (code i) nm (y :: r) = some ((if y = 0 then 1 else 0) :: r) from stW_not (by rw [a]; decide) (by rw [a]; decide) (by rw [a]; decide))
            have fw : FW5 I J I J1 := ⟨fun _ _ _ => rfl, fun c _ e => j1 c e⟩
            have hv : vB (if y = 0 then 1 else 0) := by split <;> (unfold vB; decide)
            exact ih (i + 1) _ I J1 (by omega) hu hk (fun j hj => by rw [j1 122 (by omega)]; exact hn j hj) p1 hm (by show r.length + 1 + k ≤ 64; omega) ⟨hv, hB.2⟩ hh (fun I' J' g e => kf I' J' (fw.tr g) (ew.trans e)) (fun I' J' g e1 e2 => kt I' J' (fw.tr g) (by rw [ew]; exact e1) (by rw [ew]; exact e2))
      · match pl, hp, hm, hl, hB, a1, hh, kf, kt with
        | [y], _, _, _, _, a1, _, _, _ => exact absurd a1 (by simp)
        | y :: x :: r, hp, hm, hl, hB, _, hh, kf, kt =>
          obtain ⟨c1, c2, c3, c4⟩ := isJn_c a
          rw [c1]
          have hl : r.length + 1 + 1 + (k + 1) ≤ 64 := hl
          refine e_iconst (v := nI 2) rfl ic_2N ?_
          first | refine e_icmp_neN (tgt := 47) rfl rfl (by omega) (by omega) (fun z => ?_) (fun z => ?_) | refine e_icmp_ne (tgt := 47) rfl rfl (fun z => ?_) (fun z => ?_)
          · omega
          · refine e_aload_n rfl rfl ?_
            refine e_aload_n rfl rfl ?_
            refine e_getP rfl f10_64 hM.k rfl hM.p20 ?_
            refine e_iload_n rfl rfl ?_
            first | refine e_ialoadN rfl hM.a20 (by omega) (by omega) ?_ | (refine e_iaload rfl hM.a20 ?_ ?_; rotate_left)
            rw [e2]
            refine e_callV (kd := 10) (M2 := m10_works) rfl v10_327 ok10_works (c10_works (d := d) hM a hp (by omega) hm hB.2.1 hB.1) rfl hM.k rfl rfl rfl rfl (fun r1 h1 q1 => ?_)
            obtain ⟨I1, J1, rfl, i1, j1, q⟩ := q1
            have fw : FW5 I J I1 J1 := ⟨i1, fun c _ e => j1 c e⟩
            by_cases hb2 : MOSTL < jn (-(code i)) x y ∨ jn (-(code i)) x y < -MOSTL
            · rw [if_pos hb2] at q
              subst q
              refine e_if_neB (tgt := 96) rfl rfl (fun z => absurd z (by decide)) (fun _ => ?_)
              refine e_iconst (v := nI 0) rfl ic_0N ?_
              refine e_zreturn rfl rfl ?_ ?_
              · exact Or.inl rfl
              · refine kf I1 J1 fw (evW_none ?_)
                unfold stW
                rw [if_neg (fun q => q c2), if_neg c3]
                simp only [if_neg c4, if_pos hb2]
            · rw [if_neg hb2] at q
              obtain ⟨rfl, p1, m1⟩ := q
              refine e_if_neB (tgt := 96) rfl rfl (fun _ => ?_) (fun z => absurd z (by decide))
              first | refine e_inc2 rfl rfl rfl (incN1 _) ?_ | refine e_inc2 rfl rfl rfl rfl ?_
              refine e_goto (tgt := 12) rfl rfl ?_
              have hst : stW (code i) nm (y :: x :: r) = some (jn (-(code i)) x y :: r) := by
                unfold stW
                rw [if_neg (fun q => q c2), if_neg c3]
                simp only [if_neg c4, if_neg hb2]
              have ew := evW_some (k := k) hst
              exact ih (i + 1) _ I1 J1 (by omega) (by rw [i1 _ _ (by omega)]; exact hu) (fun j hj => by rw [i1 _ _ (by omega), i1 _ _ (by omega)]; exact hk j hj) (fun j hj => by rw [j1 122 (by omega)]; exact hn j hj) p1 m1 (by show r.length + 1 + k ≤ 64; omega) ⟨jn_vB hb2, hB.2.2⟩ hh (fun I' J' g e => kf I' J' (fw.tr g) (ew.trans e)) (fun I' J' g e1 e2 => kt I' J' (fw.tr g) (by rw [ew]; exact e1) (by rw [ew]; exact e2))
end MGoes
