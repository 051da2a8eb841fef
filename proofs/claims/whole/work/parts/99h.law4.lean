/-! ===== the law: its loop ===== -/
theorem cmp6 {i L : Nat} (hi : i ≤ 4000) (hL : L ≤ 4000) : (nI L - nI 6 < nI i) ↔ L < i + 6 := by
  have t : ∀ k, k ≤ 4000 → (nI k).toInt = (k : Int) := fun k hk => Int32.toInt_ofNat_of_lt (by omega)
  by_cases c : 6 ≤ L
  · rw [pk_sub c, nI_ltI (by omega) (by omega)]
    omega
  · have : nI L - nI 6 < 0 := by
      rcases (by omega : L = 0 ∨ L = 1 ∨ L = 2 ∨ L = 3 ∨ L = 4 ∨ L = 5) with rfl | rfl | rfl | rfl | rfl | rfl <;> decide
    exact ⟨fun _ => by omega, fun _ => Int32.lt_of_lt_of_le this (nI_pos' (by omega))⟩
theorem and63 (x : Int32) : ∃ j, j < 64 ∧ x &&& nI 63 = nI j := by
  refine ⟨x.toBitVec.toNat % 64, Nat.mod_lt _ (by omega), ?_⟩
  rw [← Int32.toBitVec_inj, Int32.toBitVec_and]
  apply BitVec.eq_of_toNat_eq
  rw [BitVec.toNat_and]
  have e1 : (nI 63).toBitVec.toNat = 2 ^ 6 - 1 := rfl
  have e2 : (nI (x.toBitVec.toNat % 64)).toBitVec.toNat = x.toBitVec.toNat % 64 % 2 ^ 32 := rfl
  rw [e1, e2, Nat.and_two_pow_sub_one_eq_mod]
  omega
section LawLoop
variable {l : Launch} {G : GG} {d : Nat} {M : MD} {kc ks pc npc : Nat} {L st : List Value} {h : Hp} {i B : Nat} {v5 v6 : Value}
theorem gl_gt {x y : Int32} {off : Int} {tgt : Nat} (hc : lk M pc = some (.if_icmp .gt off, npc, 3)) (ht : (pc : Int) + off = (tgt : Int)) (kt : y < x → GL l G d M kc ks tgt L st h) (kf : ¬ y < x → GL l G d M kc ks npc L st h) : GL l G d M kc ks pc L (.int y :: .int x :: st) h := by
  by_cases c : y < x
  · obtain ⟨h', k⟩ := kt c
    exact ⟨h', go_icmp_gt hc ht (fun _ => k) (fun z => absurd c z)⟩
  · obtain ⟨h', k⟩ := kf c
    exact ⟨h', go_icmp_gt hc ht (fun z => absurd z c) (fun _ => k)⟩
theorem gl_isub {x y : Int32} (hc : lk M pc = some (.isub, npc, 1)) (k : GL l G d M kc ks npc L (.int (x - y) :: st) h) : GL l G d M kc ks pc L (.int y :: .int x :: st) h := k.elim fun h' k => ⟨h', go_isub hc k⟩
theorem gl_iand {x y : Int32} (hc : lk M pc = some (.iand, npc, 1)) (k : GL l G d M kc ks npc L (.int (x &&& y) :: st) h) : GL l G d M kc ks pc L (.int y :: .int x :: st) h := k.elim fun h' k => ⟨h', go_iand hc k⟩
theorem gl_tableIn {dflt lo hi : Int} {offs : Array Int} {len : Nat} {x : Int32} {off : Int} {tgt : Nat} (hc : lk M pc = some (.tableswitch dflt lo hi offs, npc, len)) (h1 : ¬ x.toInt < lo) (h2 : ¬ hi < x.toInt) (ho : offs[(x.toInt - lo).toNat]? = some off) (ht : (pc : Int) + off = (tgt : Int)) (k : GL l G d M kc ks tgt L st h) : GL l G d M kc ks pc L (.int x :: st) h := k.elim fun h' k => ⟨h', go_tableIn hc h1 h2 ho ht k⟩
theorem gl_tableOut {dflt lo hi : Int} {offs : Array Int} {len : Nat} {x : Int32} {tgt : Nat} (hc : lk M pc = some (.tableswitch dflt lo hi offs, npc, len)) (hh : x.toInt < lo ∨ hi < x.toInt) (ht : (pc : Int) + dflt = (tgt : Int)) (k : GL l G d M kc ks tgt L st h) : GL l G d M kc ks pc L (.int x :: st) h := k.elim fun h' k => ⟨h', go_tableOut hc hh ht k⟩
theorem gl_istore {j : Nat} {x : Int32} {L' : List Value} (hc : lk M pc = some (.istore j, npc, 2)) (hi : Nat.blt j M.2.2.1 = true) (ho : okL L j = true) (hl : L.set j (.int x) = L') (k : GL l G d M kc ks npc L' st h) : GL l G d M kc ks pc L (.int x :: st) h := k.elim fun h' k => ⟨h', go_istore hc hi ho hl k⟩
theorem gl_i2l {x : Int32} (hc : lk M pc = some (.i2l, npc, 1)) (k : GL l G d M kc ks npc L (.long x.toInt64 :: st) h) : GL l G d M kc ks pc L (.int x :: st) h := k.elim fun h' k => ⟨h', go_i2l hc k⟩
theorem gl_laload {a n : Nat} {x : Int32} (hc : lk M pc = some (.laload, npc, 1)) (hs : mS h a = (23, n)) (hin : vp_in x n) (k : GL l G d M kc ks npc L (.long (mJ h a x.toNatClampNeg) :: st) h) : GL l G d M kc ks pc L (.int x :: .ref a :: st) h := k.elim fun h' k => ⟨h', go_laload hc hs hin k⟩
theorem gl_ifne {x : Int32} {off : Int} {tgt : Nat} (hc : lk M pc = some (.ifCond .ne off, npc, 3)) (ht : (pc : Int) + off = (tgt : Int)) (kt : ¬ x = 0 → GL l G d M kc ks tgt L st h) (kf : x = 0 → GL l G d M kc ks npc L st h) : GL l G d M kc ks pc L (.int x :: st) h := by
  by_cases c : x = 0
  · obtain ⟨h', k⟩ := kf c
    exact ⟨h', go_if_ne hc ht (fun z => absurd c z) (fun _ => k)⟩
  · obtain ⟨h', k⟩ := kt c
    exact ⟨h', go_if_ne hc ht (fun _ => k) (fun z => absurd z c)⟩
theorem gl_callT {stk : List Value} {t w : Int32} {o j : Nat} {r1 : Option Value} {h1 : Hp} (hc : lk M pc = some (.invokestatic j, npc, 3)) (hlk : Cond.methodLink M.1.cls j yL_tin ∈ gtbl) (hct : CT3 l G (d + 128) t w o h r1 h1) (hstk : stk = [.ref 0, .int t, .int w, .ref o].reverse ++ st) (hst : Nat.ble (st.map fun v => v.category).sum 8 = true) (hmc : kc + 1 ≤ 601024) (hms : ks + 6 ≤ 7293033)
    (k : GL l G d M (kc + 1) (ks + 6) npc L (r1.toList ++ st) h1) : GL l G d M kc ks pc L stk h := k.elim fun h' k => ⟨h', go_callT hc hlk hct hstk hst hmc hms k⟩
theorem cs_tin (hl : l.stackTraces = false) (hi : i + 6 ≤ gL G) (hL : gL G ≤ 3072) (hI : Inv h B) (hkc : kc + 1 ≤ 601024) (hks : ks + 6 ≤ 7293033) (kk : ∀ h2 kc' ks' v5 v6, kc' ≤ kc + 1 → ks' ≤ ks + 6 → Inv h2 (B + 2) → GL l G d mL_0 kc' ks' 1410 [.retAddr 100, .ref 0, .ref 102, .ref 145, .int (nI i), v5, v6] [] h2) : GL l G d mL_tin kc ks 364 [.retAddr 100, .ref 0, .ref 102, .ref 145, .int (nI i), v5, v6] [] h := by
  obtain ⟨I, J, K, P, S, im, SI, m, T, kn, u, Hs, t, f, fk, fp, rfl, hK, hv⟩ := hI
  obtain ⟨J1, K1, ct, hK1, hJ, hA⟩ := t3_all (l := l) (G := G) (d := d) hl hK hv (gX G (i + 1)) (gX G (i + 2))
  obtain ⟨r2, h2, c2, v, e2, hva, I2, J2, e3, g2, M2, hth⟩ := c10_tin (l := l) (G := G) (d := d + 127) (J := J1) hK1.2.1 hv.2.2.1 rfl (gX G (i + 1)) (gX G (i + 2))
  subst e2
  subst e3
  have c3 := c10_thrown (l := l) (G := G) (d := d + 128) (I := I2) (J := J2) hK1.2.1
  rw [hth] at c3
  have i2 : Inv (I2, J2, K1) (B + 2) := ⟨I2, J2, K1, P, S, im, SI, m, T, kn, u, Hs, t, f, fk, fp, rfl, hK1, (hv.1.lo (fun c hc => g2.1 c (by omega)) (fun c hc => (g2.2.1 c (by omega)).trans (hJ c hc))).mono (by omega), hv.2.1.lo (fun c hc => g2.1 c (by omega)), M2, hv.2.2.2.1.fz g2, hv.2.2.2.2⟩
  refine gl_aload rfl rfl ?_
  refine gl_aloadS rfl rfl ?_
  refine gl_iload rfl rfl ?_
  refine gl_iconst (v := nI 1) rfl ic_1N ?_
  refine gl_iaddN rfl ?_
  refine gl_sld rfl (by omega) (by omega) ?_
  refine gl_aloadS rfl rfl ?_
  refine gl_iload rfl rfl ?_
  refine gl_iconst (v := nI 2) rfl ic_2N ?_
  refine gl_iaddN rfl ?_
  refine gl_sld rfl (by omega) (by omega) ?_
  refine gl_aload rfl rfl ?_
  refine gl_callT (h1 := (I, J1, K1)) rfl w_T4 ct rfl rfl hkc hks ?_
  refine gl_istore rfl rfl rfl rfl ?_
  refine gl_aload rfl rfl ?_
  refine gl_aloadS rfl rfl ?_
  refine gl_iload rfl rfl ?_
  refine gl_iconst (v := nI 1) rfl ic_1N ?_
  refine gl_iaddN rfl ?_
  refine gl_sld rfl (by omega) (by omega) ?_
  refine gl_aloadS rfl rfl ?_
  refine gl_iload rfl rfl ?_
  refine gl_iconst (v := nI 2) rfl ic_2N ?_
  refine gl_iaddN rfl ?_
  refine gl_sld rfl (by omega) (by omega) ?_
  refine gl_callV (M2 := m10_tin) (as := [.int (gX G (i + 1)), .int (gX G (i + 2))]) (kd := 10) rfl vL_44 ok10_tin c2 hK1.2.1.k rfl rfl rfl rfl rfl hkc hks ?_
  refine gl_istore rfl rfl rfl rfl ?_
  refine gl_aload rfl rfl ?_
  refine gl_callV (M2 := m10_thrown) (as := []) (kd := 10) rfl vL_45 ok10_thrown c3 hK1.2.1.k rfl rfl rfl rfl rfl hkc hks ?_
  refine gl_iload rfl rfl ?_
  refine gl_eq (tgt := 412) rfl rfl ?_
  refine gl_iload rfl rfl ?_
  have fin : ∀ L, L = ([.retAddr 100, .ref 0, .ref 102, .ref 145, .int (nI i), .int (nI (thr (P.1 1) (gX G (i + 1)) (gX G (i + 2)))), .int v] : List Value) → GL l G d mL_tin (kc + 1) (ks + 6) 429 L [] (I2, J2, K1) := fun L e => by
    subst e
    refine gl_goto (tgt := 1410) rfl rfl ?_
    exact gl_sw (M2 := mL_0) rfl rfl rfl rfl mL_0_d (kk _ _ _ _ _ (Nat.le_refl _) (Nat.le_refl _) i2)
  refine gl_ifne (tgt := 429) rfl rfl (fun _ => fin _ rfl) (fun z => ?_)
  have z0 : thr (P.1 1) (gX G (i + 1)) (gX G (i + 2)) = 0 := by
    unfold thr at z ⊢
    split
    · split
      · rfl
      · rename_i a b
        rw [if_pos a, if_neg b] at z
        exact absurd z (by decide)
    · rename_i a
      rw [if_neg a] at z
      exact absurd z (by decide)
  refine gl_aload rfl rfl ?_
  refine gl_iconst (v := nI 0) rfl ic_0N ?_
  refine gl_laload (n := 1) rfl hK1.2.2.1 (by unfold vp_in; decide) ?_
  refine gl_iload rfl rfl ?_
  refine gl_i2l rfl ?_
  have e5 : mJ ((I2, J2, K1) : Hp) 145 (nI 0).toNatClampNeg = v.toInt64 := by
    show J2 145 0 = _
    rw [g2.2.1 145 (by omega), hA z0, hva z0]
  rw [e5]
  exact gl_leq (tgt := 429) rfl rfl rfl (fin _ rfl)
theorem law_loop (hl : l.stackTraces = false) (hL : gL G ≤ 3072) : ∀ k i kc ks B h v5 v6, gL G < i + 6 * k + 6 → i ≤ 3072 + 6 → Inv h B → 6 ≤ B → B ≤ 20 + i → kc ≤ 200 + i → ks ≤ 10000 + i → GL l G d mL_0 kc ks 23 [.retAddr 100, .ref 0, .ref 102, .ref 145, .int (nI i), v5, v6] [] h := by
  intro k
  induction k with
  | zero =>
    intro i kc ks B h v5 v6 hk hi hI h6 hB hkc hks
    refine gl_iload rfl rfl ?_
    refine gl_aloadS rfl rfl ?_
    refine gl_slen rfl ?_
    refine gl_bipush (v := nI 6) rfl bp_6N ?_
    refine gl_isub rfl ?_
    refine gl_gt (tgt := 1416) rfl rfl (fun _ => ?_) (fun z => absurd ((cmp6 (by omega) (by omega)).mpr (by omega)) z)
    refine gl_widen (kc' := 601024) (ks' := 7293033) (by omega) (by omega) ?_
    exact ⟨h, go_iconst rfl rfl (go_zreturn rfl rfl (Or.inr rfl) rfl rfl)⟩
  | succ k ih =>
    intro i kc ks B h v5 v6 hk hi hI h6 hB hkc hks
    refine gl_iload rfl rfl ?_
    refine gl_aloadS rfl rfl ?_
    refine gl_slen rfl ?_
    refine gl_bipush (v := nI 6) rfl bp_6N ?_
    refine gl_isub rfl ?_
    refine gl_gt (tgt := 1416) rfl rfl (fun _ => ?_) (fun z => ?_)
    · refine gl_widen (kc' := 601024) (ks' := 7293033) (by omega) (by omega) ?_
      exact ⟨h, go_iconst rfl rfl (go_zreturn rfl rfl (Or.inr rfl) rfl rfl)⟩
    · have hi6 : i + 6 ≤ gL G := by
        have q : ¬ gL G < i + 6 := fun q => z ((cmp6 (i := i) (L := gL G) (by omega) (by omega)).mpr q)
        omega
      have nx : ∀ h2 B2 kc2 ks2 v5 v6, Inv h2 B2 → 6 ≤ B2 → B2 ≤ 20 + (i + 6) → kc2 ≤ 200 + (i + 6) → ks2 ≤ 10000 + (i + 6) → GL l G d mL_0 kc2 ks2 1410 [.retAddr 100, .ref 0, .ref 102, .ref 145, .int (nI i), v5, v6] [] h2 := by
        intro h2 B2 kc2 ks2 v5 v6 I2 b1 b2 b3 b4
        refine gl_iinc rfl rfl rfl rfl rfl ?_
        refine gl_goto (tgt := 23) rfl rfl ?_
        rw [show nI i + Int32.ofInt 6 = nI (i + 6) by rw [show Int32.ofInt 6 = nI 6 by decide, nI_add]]
        exact ih (i + 6) kc2 ks2 B2 h2 v5 v6 (by omega) (by omega) I2 b1 b2 b3 b4
      have one : ∀ h2, Inv h2 (B + 2) → GL l G d mL_0 kc ks 1410 [.retAddr 100, .ref 0, .ref 102, .ref 145, .int (nI i), v5, v6] [] h2 := fun h2 I2 => nx h2 (B + 2) kc ks v5 v6 I2 (by omega) (by omega) (by omega) (by omega)
      refine gl_aloadS rfl rfl ?_
      refine gl_iload rfl rfl ?_
      refine gl_sld rfl (by omega) (by omega) ?_
      refine gl_bipush (v := nI 63) rfl bp_63N ?_
      refine gl_iand rfl ?_
      obtain ⟨j, hj, ej⟩ := and63 (gX G i)
      rw [ej]
      by_cases c : 37 ≤ j
      · refine gl_tableOut (tgt := 1410) rfl (Or.inr ?_) rfl (nx h B kc ks v5 v6 hI (by omega) (by omega) (by omega) (by omega))
        have : (nI j).toInt = (j : Int) := Int32.toInt_ofNat_of_lt (by omega)
        rw [this]; omega
      · rcases (by omega : j = 0 ∨ j = 1 ∨ j = 2 ∨ j = 3 ∨ j = 4 ∨ j = 5 ∨ j = 6 ∨ j = 7 ∨ j = 8 ∨ j = 9 ∨ j = 10 ∨ j = 11 ∨ j = 12 ∨ j = 13 ∨ j = 14 ∨ j = 15 ∨ j = 16 ∨ j = 17 ∨ j = 18 ∨ j = 19 ∨ j = 20 ∨ j = 21 ∨ j = 22 ∨ j = 23 ∨ j = 24 ∨ j = 25 ∨ j = 26 ∨ j = 27 ∨ j = 28 ∨ j = 29 ∨ j = 30 ∨ j = 31 ∨ j = 32 ∨ j = 33 ∨ j = 34 ∨ j = 35 ∨ j = 36) with rfl | rfl | rfl | rfl | rfl | rfl | rfl | rfl | rfl | rfl | rfl | rfl | rfl | rfl | rfl | rfl | rfl | rfl | rfl | rfl | rfl | rfl | rfl | rfl | rfl | rfl | rfl | rfl | rfl | rfl | rfl | rfl | rfl | rfl | rfl | rfl | rfl
        · exact gl_tableIn (tgt := 204) rfl (by decide) (by decide) rfl rfl (gl_sw (M2 := mL_feed) rfl rfl rfl rfl mL_feed_d (cs_feed hi6 hL hI (by omega) h6 (by omega) (by omega) one))
        · exact gl_tableIn (tgt := 277) rfl (by decide) (by decide) rfl rfl (gl_sw (M2 := mL_text) rfl rfl rfl rfl mL_text_d (cs_text hi6 hL hI (by omega) h6 (by omega) (by omega) one))
        · exact gl_tableIn (tgt := 302) rfl (by decide) (by decide) rfl rfl (gl_sw (M2 := mL_fault) rfl rfl rfl rfl mL_fault_d (cs_fault hi6 hL hI (by omega) h6 (by omega) (by omega) one))
        · exact gl_tableIn (tgt := 327) rfl (by decide) (by decide) rfl rfl (gl_sw (M2 := mL_named) rfl rfl rfl rfl mL_named_d (cs_named hi6 hL hI (by omega) h6 (by omega) (by omega) one))
        · exact gl_tableIn (tgt := 364) rfl (by decide) (by decide) rfl rfl (gl_sw (M2 := mL_tin) rfl rfl rfl rfl mL_tin_d (cs_tin hl hi6 hL hI (by omega) (by omega) (fun h2 kc2 ks2 v5 v6 a b I2 => nx h2 (B + 2) kc2 ks2 v5 v6 I2 (by omega) (by omega) (by omega) (by omega))))
        · exact gl_tableIn (tgt := 432) rfl (by decide) (by decide) rfl rfl (gl_sw (M2 := mL_kind) rfl rfl rfl rfl mL_kind_d (cs_kind hi6 hL hI (by omega) h6 (by omega) (by omega) one))
        · exact gl_tableIn (tgt := 469) rfl (by decide) (by decide) rfl rfl (gl_sw (M2 := mL_want) rfl rfl rfl rfl mL_want_d (cs_want hi6 hL hI (by omega) h6 (by omega) (by omega) one))
        · exact gl_tableIn (tgt := 506) rfl (by decide) (by decide) rfl rfl (gl_sw (M2 := mL_top) rfl rfl rfl rfl mL_top_d (cs_top hi6 hL hI (by omega) h6 (by omega) (by omega) one))
        · exact gl_tableIn (tgt := 531) rfl (by decide) (by decide) rfl rfl (gl_sw (M2 := mL_law) rfl rfl rfl rfl mL_law_d (cs_law hi6 hL hI (by omega) h6 (by omega) (by omega) one))
        · exact gl_tableIn (tgt := 581) rfl (by decide) (by decide) rfl rfl (gl_sw (M2 := mL_open) rfl rfl rfl rfl mL_open_d (cs_open hi6 hL hI (by omega) h6 (by omega) (by omega) one))
        · exact gl_tableIn (tgt := 606) rfl (by decide) (by decide) rfl rfl (gl_sw (M2 := mL_put) rfl rfl rfl rfl mL_put_d (cs_put hi6 hL hI (by omega) h6 (by omega) (by omega) one))
        · exact gl_tableIn (tgt := 643) rfl (by decide) (by decide) rfl rfl (gl_sw (M2 := mL_dent) rfl rfl rfl rfl mL_dent_d (cs_dent hi6 hL hI (by omega) h6 (by omega) (by omega) one))
        · exact gl_tableIn (tgt := 668) rfl (by decide) (by decide) rfl rfl (gl_sw (M2 := mL_find) rfl rfl rfl rfl mL_find_d (cs_find hi6 hL hI (by omega) h6 (by omega) (by omega) one))
        · exact gl_tableIn (tgt := 693) rfl (by decide) (by decide) rfl rfl (gl_sw (M2 := mL_go) rfl rfl rfl rfl mL_go_d (cs_go hi6 hL hI (by omega) h6 (by omega) (by omega) one))
        · exact gl_tableIn (tgt := 718) rfl (by decide) (by decide) rfl rfl (gl_sw (M2 := mL_ahead) rfl rfl rfl rfl mL_ahead_d (cs_ahead hi6 hL hI (by omega) h6 (by omega) (by omega) one))
        · exact gl_tableIn (tgt := 755) rfl (by decide) (by decide) rfl rfl (gl_sw (M2 := mL_above) rfl rfl rfl rfl mL_above_d (cs_above hi6 hL hI (by omega) h6 (by omega) (by omega) one))
        · exact gl_tableIn (tgt := 780) rfl (by decide) (by decide) rfl rfl (gl_sw (M2 := mL_order) rfl rfl rfl rfl mL_order_d (cs_order hi6 hL hI (by omega) h6 (by omega) (by omega) one))
        · exact gl_tableIn (tgt := 805) rfl (by decide) (by decide) rfl rfl (gl_sw (M2 := mL_best) rfl rfl rfl rfl mL_best_d (cs_best hi6 hL hI (by omega) h6 (by omega) (by omega) one))
        · exact gl_tableIn (tgt := 842) rfl (by decide) (by decide) rfl rfl (gl_sw (M2 := mL_tidy) rfl rfl rfl rfl mL_tidy_d (cs_tidy hi6 hL hI (by omega) h6 (by omega) (by omega) one))
        · exact gl_tableIn (tgt := 867) rfl (by decide) (by decide) rfl rfl (gl_sw (M2 := mL_rests) rfl rfl rfl rfl mL_rests_d (cs_rests hi6 hL hI (by omega) h6 (by omega) (by omega) one))
        · exact gl_tableIn (tgt := 892) rfl (by decide) (by decide) rfl rfl (gl_sw (M2 := mL_rest) rfl rfl rfl rfl mL_rest_d (cs_rest hi6 hL hI (by omega) h6 (by omega) (by omega) one))
        · exact gl_tableIn (tgt := 929) rfl (by decide) (by decide) rfl rfl (gl_sw (M2 := mL_whole) rfl rfl rfl rfl mL_whole_d (cs_whole hi6 hL hI (by omega) h6 (by omega) (by omega) one))
        · exact gl_tableIn (tgt := 967) rfl (by decide) (by decide) rfl rfl (gl_sw (M2 := mL_unmet) rfl rfl rfl rfl mL_unmet_d (cs_unmet hi6 hL hI (by omega) h6 (by omega) (by omega) one))
        · exact gl_tableIn (tgt := 980) rfl (by decide) (by decide) rfl rfl (gl_sw (M2 := mL_blows) rfl rfl rfl rfl mL_blows_d (cs_blows hi6 hL hI (by omega) h6 (by omega) (by omega) one))
        · exact gl_tableIn (tgt := 1005) rfl (by decide) (by decide) rfl rfl (gl_sw (M2 := mL_note) rfl rfl rfl rfl mL_note_d (cs_note hi6 hL hI (by omega) h6 (by omega) (by omega) one))
        · exact gl_tableIn (tgt := 1070) rfl (by decide) (by decide) rfl rfl (gl_sw (M2 := mL_see) rfl rfl rfl rfl mL_see_d (cs_see hi6 hL hI (by omega) h6 (by omega) (by omega) one))
        · exact gl_tableIn (tgt := 1135) rfl (by decide) (by decide) rfl rfl (gl_sw (M2 := mL_strike) rfl rfl rfl rfl mL_strike_d (cs_strike hi6 hL hI (by omega) h6 (by omega) (by omega) one))
        · exact gl_tableIn (tgt := 1160) rfl (by decide) (by decide) rfl rfl (gl_sw (M2 := mL_known) rfl rfl rfl rfl mL_known_d (cs_known hi6 hL hI (by omega) h6 (by omega) (by omega) one))
        · exact gl_tableIn (tgt := 1185) rfl (by decide) (by decide) rfl rfl (gl_sw (M2 := mL_which) rfl rfl rfl rfl mL_which_d (cs_which hi6 hL hI (by omega) h6 (by omega) (by omega) one))
        · exact gl_tableIn (tgt := 1198) rfl (by decide) (by decide) rfl rfl (gl_sw (M2 := mL_ask) rfl rfl rfl rfl mL_ask_d (cs_ask hi6 hL hI (by omega) h6 (by omega) (by omega) one))
        · exact gl_tableIn (tgt := 1223) rfl (by decide) (by decide) rfl rfl (gl_sw (M2 := mL_dented) rfl rfl rfl rfl mL_dented_d (cs_dented hi6 hL hI (by omega) h6 (by omega) (by omega) one))
        · exact gl_tableIn (tgt := 1248) rfl (by decide) (by decide) rfl rfl (gl_sw (M2 := mL_chance) rfl rfl rfl rfl mL_chance_d (cs_chance hi6 hL hI (by omega) h6 (by omega) (by omega) one))
        · exact gl_tableIn (tgt := 1297) rfl (by decide) (by decide) rfl rfl (gl_sw (M2 := mL_tried) rfl rfl rfl rfl mL_tried_d (cs_tried hi6 hL hI (by omega) h6 (by omega) (by omega) one))
        · exact gl_tableIn (tgt := 1346) rfl (by decide) (by decide) rfl rfl (gl_sw (M2 := mL_undo) rfl rfl rfl rfl mL_undo_d (cs_undo hi6 hL hI (by omega) h6 (by omega) (by omega) one))
        · exact gl_tableIn (tgt := 1359) rfl (by decide) (by decide) rfl rfl (gl_sw (M2 := mL_keep) rfl rfl rfl rfl mL_keep_d (cs_keep hi6 hL hI (by omega) h6 (by omega) (by omega) one))
        · exact gl_tableIn (tgt := 1372) rfl (by decide) (by decide) rfl rfl (gl_sw (M2 := mL_back) rfl rfl rfl rfl mL_back_d (cs_back hi6 hL hI (by omega) h6 (by omega) (by omega) one))
        · exact gl_tableIn (tgt := 1385) rfl (by decide) (by decide) rfl rfl (gl_sw (M2 := mL_count) rfl rfl rfl rfl mL_count_d (cs_count hi6 hL hI (by omega) h6 (by omega) (by omega) one))
end LawLoop
