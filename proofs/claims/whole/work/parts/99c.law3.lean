/-! ===== the law: cases ===== -/
section LawCases
variable {l : Launch} {G : GG} {d kc ks i B : Nat} {h : Hp} {v5 v6 : Value}
theorem cs_feed (hi : i + 6 ≤ gL G) (hL : gL G ≤ 3072) (hI : Inv h B) (hB : B < 2 ^ 28) (h6 : 6 ≤ B) (hkc : kc ≤ 601024) (hks : ks ≤ 7293033) (kk : ∀ h2, Inv h2 (B + 2) → GL l G d mL_0 kc ks 1410 [.retAddr 100, .ref 0, .ref 102, .ref 145, .int (nI i), v5, v6] [] h2) : GL l G d mL_feed kc ks 204 [.retAddr 100, .ref 0, .ref 102, .ref 145, .int (nI i), v5, v6] [] h := by
  obtain ⟨I, J, K, P, S, im, SI, m, T, kn, u, Hs, t, f, fk, fp, rfl, hK, hv⟩ := hI
  obtain ⟨h1, c1, h2, c2, i2, k9, k10⟩ := tc_feed (l := l) (G := G) (d := d) hK hv (gX G (i + 1)) (gX G (i + 2)) (gX G (i + 3)) (gX G (i + 4)) (gX G (i + 5))
  refine gl_aload rfl rfl ?_
  refine gl_aloadS rfl rfl ?_
  refine gl_iload rfl rfl ?_
  refine gl_iconst (v := nI 1) rfl ic_1N ?_
  refine gl_iaddN rfl ?_
  refine gl_sld rfl (by omega) (by omega) ?_
  refine gl_aloadS rfl rfl ?_
  refine gl_iload rfl rfl ?_
  refine gl_iconst (v := nI 2) rfl ic_2N ?_
  refine gl_iaddN rfl ?_
  refine gl_sld rfl (by omega) (by omega) ?_
  refine gl_aloadS rfl rfl ?_
  refine gl_iload rfl rfl ?_
  refine gl_iconst (v := nI 3) rfl ic_3N ?_
  refine gl_iaddN rfl ?_
  refine gl_sld rfl (by omega) (by omega) ?_
  refine gl_aloadS rfl rfl ?_
  refine gl_iload rfl rfl ?_
  refine gl_iconst (v := nI 4) rfl ic_4N ?_
  refine gl_iaddN rfl ?_
  refine gl_sld rfl (by omega) (by omega) ?_
  refine gl_aloadS rfl rfl ?_
  refine gl_iload rfl rfl ?_
  refine gl_iconst (v := nI 5) rfl ic_5N ?_
  refine gl_iaddN rfl ?_
  refine gl_sld rfl (by omega) (by omega) ?_
  refine gl_callV (M2 := m9_feed) (as := [.int (gX G (i + 1)), .int (gX G (i + 2)), .int (gX G (i + 3)), .int (gX G (i + 4)), .int (gX G (i + 5))]) (kd := 9) rfl vL_21 ok9_feed c1 k9 rfl rfl rfl rfl rfl hkc hks ?_
  refine gl_aload rfl rfl ?_
  refine gl_aloadS rfl rfl ?_
  refine gl_iload rfl rfl ?_
  refine gl_iconst (v := nI 1) rfl ic_1N ?_
  refine gl_iaddN rfl ?_
  refine gl_sld rfl (by omega) (by omega) ?_
  refine gl_aloadS rfl rfl ?_
  refine gl_iload rfl rfl ?_
  refine gl_iconst (v := nI 2) rfl ic_2N ?_
  refine gl_iaddN rfl ?_
  refine gl_sld rfl (by omega) (by omega) ?_
  refine gl_aloadS rfl rfl ?_
  refine gl_iload rfl rfl ?_
  refine gl_iconst (v := nI 3) rfl ic_3N ?_
  refine gl_iaddN rfl ?_
  refine gl_sld rfl (by omega) (by omega) ?_
  refine gl_aloadS rfl rfl ?_
  refine gl_iload rfl rfl ?_
  refine gl_iconst (v := nI 4) rfl ic_4N ?_
  refine gl_iaddN rfl ?_
  refine gl_sld rfl (by omega) (by omega) ?_
  refine gl_aloadS rfl rfl ?_
  refine gl_iload rfl rfl ?_
  refine gl_iconst (v := nI 5) rfl ic_5N ?_
  refine gl_iaddN rfl ?_
  refine gl_sld rfl (by omega) (by omega) ?_
  refine gl_callV (M2 := m10_feed) (as := [.int (gX G (i + 1)), .int (gX G (i + 2)), .int (gX G (i + 3)), .int (gX G (i + 4)), .int (gX G (i + 5))]) (kd := 10) rfl vL_25 ok10_feed c2 k10 rfl rfl rfl rfl rfl hkc hks ?_
  refine gl_eq (tgt := 1410) rfl rfl ?_
  exact gl_sw (M2 := mL_0) rfl rfl rfl rfl mL_0_d (kk _ i2)
theorem cs_text (hi : i + 6 ≤ gL G) (hL : gL G ≤ 3072) (hI : Inv h B) (hB : B < 2 ^ 28) (h6 : 6 ≤ B) (hkc : kc ≤ 601024) (hks : ks ≤ 7293033) (kk : ∀ h2, Inv h2 (B + 2) → GL l G d mL_0 kc ks 1410 [.retAddr 100, .ref 0, .ref 102, .ref 145, .int (nI i), v5, v6] [] h2) : GL l G d mL_text kc ks 277 [.retAddr 100, .ref 0, .ref 102, .ref 145, .int (nI i), v5, v6] [] h := by
  obtain ⟨I, J, K, P, S, im, SI, m, T, kn, u, Hs, t, f, fk, fp, rfl, hK, hv⟩ := hI
  obtain ⟨v, h1, c1, h2, c2, i2, k9, k10⟩ := tc_text (l := l) (G := G) (d := d) hK hv h6 (gX G (i + 1))
  refine gl_aload rfl rfl ?_
  refine gl_aloadS rfl rfl ?_
  refine gl_iload rfl rfl ?_
  refine gl_iconst (v := nI 1) rfl ic_1N ?_
  refine gl_iaddN rfl ?_
  refine gl_sld rfl (by omega) (by omega) ?_
  refine gl_callV (M2 := m9_text) (as := [.int (gX G (i + 1))]) (kd := 9) rfl vL_26 ok9_text c1 k9 rfl rfl rfl rfl rfl hkc hks ?_
  refine gl_aload rfl rfl ?_
  refine gl_aloadS rfl rfl ?_
  refine gl_iload rfl rfl ?_
  refine gl_iconst (v := nI 1) rfl ic_1N ?_
  refine gl_iaddN rfl ?_
  refine gl_sld rfl (by omega) (by omega) ?_
  refine gl_callV (M2 := m10_text) (as := [.int (gX G (i + 1))]) (kd := 10) rfl vL_30 ok10_text c2 k10 rfl rfl rfl rfl rfl hkc hks ?_
  refine gl_eq (tgt := 1410) rfl rfl ?_
  exact gl_sw (M2 := mL_0) rfl rfl rfl rfl mL_0_d (kk _ i2)
theorem cs_fault (hi : i + 6 ≤ gL G) (hL : gL G ≤ 3072) (hI : Inv h B) (hB : B < 2 ^ 28) (h6 : 6 ≤ B) (hkc : kc ≤ 601024) (hks : ks ≤ 7293033) (kk : ∀ h2, Inv h2 (B + 2) → GL l G d mL_0 kc ks 1410 [.retAddr 100, .ref 0, .ref 102, .ref 145, .int (nI i), v5, v6] [] h2) : GL l G d mL_fault kc ks 302 [.retAddr 100, .ref 0, .ref 102, .ref 145, .int (nI i), v5, v6] [] h := by
  obtain ⟨I, J, K, P, S, im, SI, m, T, kn, u, Hs, t, f, fk, fp, rfl, hK, hv⟩ := hI
  obtain ⟨h1, c1, h2, c2, i2, k9, k10⟩ := tc_fault (l := l) (G := G) (d := d) hK hv (gX G (i + 1))
  refine gl_aload rfl rfl ?_
  refine gl_aloadS rfl rfl ?_
  refine gl_iload rfl rfl ?_
  refine gl_iconst (v := nI 1) rfl ic_1N ?_
  refine gl_iaddN rfl ?_
  refine gl_sld rfl (by omega) (by omega) ?_
  refine gl_callV (M2 := m9_fault) (as := [.int (gX G (i + 1))]) (kd := 9) rfl vL_31 ok9_fault c1 k9 rfl rfl rfl rfl rfl hkc hks ?_
  refine gl_aload rfl rfl ?_
  refine gl_aloadS rfl rfl ?_
  refine gl_iload rfl rfl ?_
  refine gl_iconst (v := nI 1) rfl ic_1N ?_
  refine gl_iaddN rfl ?_
  refine gl_sld rfl (by omega) (by omega) ?_
  refine gl_callV (M2 := m10_fault) (as := [.int (gX G (i + 1))]) (kd := 10) rfl vL_34 ok10_fault c2 k10 rfl rfl rfl rfl rfl hkc hks ?_
  refine gl_eq (tgt := 1410) rfl rfl ?_
  exact gl_sw (M2 := mL_0) rfl rfl rfl rfl mL_0_d (kk _ i2)
theorem cs_named (hi : i + 6 ≤ gL G) (hL : gL G ≤ 3072) (hI : Inv h B) (hB : B < 2 ^ 28) (h6 : 6 ≤ B) (hkc : kc ≤ 601024) (hks : ks ≤ 7293033) (kk : ∀ h2, Inv h2 (B + 2) → GL l G d mL_0 kc ks 1410 [.retAddr 100, .ref 0, .ref 102, .ref 145, .int (nI i), v5, v6] [] h2) : GL l G d mL_named kc ks 327 [.retAddr 100, .ref 0, .ref 102, .ref 145, .int (nI i), v5, v6] [] h := by
  obtain ⟨I, J, K, P, S, im, SI, m, T, kn, u, Hs, t, f, fk, fp, rfl, hK, hv⟩ := hI
  obtain ⟨h1, c1, h2, c2, i2, k9, k10⟩ := tc_named (l := l) (G := G) (d := d) hK hv (gX G (i + 1)) (gX G (i + 2))
  refine gl_aload rfl rfl ?_
  refine gl_aloadS rfl rfl ?_
  refine gl_iload rfl rfl ?_
  refine gl_iconst (v := nI 1) rfl ic_1N ?_
  refine gl_iaddN rfl ?_
  refine gl_sld rfl (by omega) (by omega) ?_
  refine gl_aloadS rfl rfl ?_
  refine gl_iload rfl rfl ?_
  refine gl_iconst (v := nI 2) rfl ic_2N ?_
  refine gl_iaddN rfl ?_
  refine gl_sld rfl (by omega) (by omega) ?_
  refine gl_callV (M2 := m9_named) (as := [.int (gX G (i + 1)), .int (gX G (i + 2))]) (kd := 9) rfl vL_35 ok9_named c1 k9 rfl rfl rfl rfl rfl hkc hks ?_
  refine gl_aload rfl rfl ?_
  refine gl_aloadS rfl rfl ?_
  refine gl_iload rfl rfl ?_
  refine gl_iconst (v := nI 1) rfl ic_1N ?_
  refine gl_iaddN rfl ?_
  refine gl_sld rfl (by omega) (by omega) ?_
  refine gl_aloadS rfl rfl ?_
  refine gl_iload rfl rfl ?_
  refine gl_iconst (v := nI 2) rfl ic_2N ?_
  refine gl_iaddN rfl ?_
  refine gl_sld rfl (by omega) (by omega) ?_
  refine gl_callV (M2 := m10_named) (as := [.int (gX G (i + 1)), .int (gX G (i + 2))]) (kd := 10) rfl vL_38 ok10_named c2 k10 rfl rfl rfl rfl rfl hkc hks ?_
  refine gl_eq (tgt := 1410) rfl rfl ?_
  exact gl_sw (M2 := mL_0) rfl rfl rfl rfl mL_0_d (kk _ i2)
theorem cs_kind (hi : i + 6 ≤ gL G) (hL : gL G ≤ 3072) (hI : Inv h B) (hB : B < 2 ^ 28) (h6 : 6 ≤ B) (hkc : kc ≤ 601024) (hks : ks ≤ 7293033) (kk : ∀ h2, Inv h2 (B + 2) → GL l G d mL_0 kc ks 1410 [.retAddr 100, .ref 0, .ref 102, .ref 145, .int (nI i), v5, v6] [] h2) : GL l G d mL_kind kc ks 432 [.retAddr 100, .ref 0, .ref 102, .ref 145, .int (nI i), v5, v6] [] h := by
  obtain ⟨I, J, K, P, S, im, SI, m, T, kn, u, Hs, t, f, fk, fp, rfl, hK, hv⟩ := hI
  obtain ⟨h1, c1, h2, c2, i2, k9, k10⟩ := tc_kind (l := l) (G := G) (d := d) hK hv (gX G (i + 1)) (gX G (i + 2))
  refine gl_aload rfl rfl ?_
  refine gl_aloadS rfl rfl ?_
  refine gl_iload rfl rfl ?_
  refine gl_iconst (v := nI 1) rfl ic_1N ?_
  refine gl_iaddN rfl ?_
  refine gl_sld rfl (by omega) (by omega) ?_
  refine gl_aloadS rfl rfl ?_
  refine gl_iload rfl rfl ?_
  refine gl_iconst (v := nI 2) rfl ic_2N ?_
  refine gl_iaddN rfl ?_
  refine gl_sld rfl (by omega) (by omega) ?_
  refine gl_callV (M2 := m9_kind) (as := [.int (gX G (i + 1)), .int (gX G (i + 2))]) (kd := 9) rfl vL_49 ok9_kind c1 k9 rfl rfl rfl rfl rfl hkc hks ?_
  refine gl_aload rfl rfl ?_
  refine gl_aloadS rfl rfl ?_
  refine gl_iload rfl rfl ?_
  refine gl_iconst (v := nI 1) rfl ic_1N ?_
  refine gl_iaddN rfl ?_
  refine gl_sld rfl (by omega) (by omega) ?_
  refine gl_aloadS rfl rfl ?_
  refine gl_iload rfl rfl ?_
  refine gl_iconst (v := nI 2) rfl ic_2N ?_
  refine gl_iaddN rfl ?_
  refine gl_sld rfl (by omega) (by omega) ?_
  refine gl_callV (M2 := m10_kind) (as := [.int (gX G (i + 1)), .int (gX G (i + 2))]) (kd := 10) rfl vL_52 ok10_kind c2 k10 rfl rfl rfl rfl rfl hkc hks ?_
  refine gl_eq (tgt := 1410) rfl rfl ?_
  exact gl_sw (M2 := mL_0) rfl rfl rfl rfl mL_0_d (kk _ i2)
theorem cs_want (hi : i + 6 ≤ gL G) (hL : gL G ≤ 3072) (hI : Inv h B) (hB : B < 2 ^ 28) (h6 : 6 ≤ B) (hkc : kc ≤ 601024) (hks : ks ≤ 7293033) (kk : ∀ h2, Inv h2 (B + 2) → GL l G d mL_0 kc ks 1410 [.retAddr 100, .ref 0, .ref 102, .ref 145, .int (nI i), v5, v6] [] h2) : GL l G d mL_want kc ks 469 [.retAddr 100, .ref 0, .ref 102, .ref 145, .int (nI i), v5, v6] [] h := by
  obtain ⟨I, J, K, P, S, im, SI, m, T, kn, u, Hs, t, f, fk, fp, rfl, hK, hv⟩ := hI
  obtain ⟨h1, c1, h2, c2, i2, k9, k10⟩ := tc_want (l := l) (G := G) (d := d) hK hv (gX G (i + 1)) (gX G (i + 2))
  refine gl_aload rfl rfl ?_
  refine gl_aloadS rfl rfl ?_
  refine gl_iload rfl rfl ?_
  refine gl_iconst (v := nI 1) rfl ic_1N ?_
  refine gl_iaddN rfl ?_
  refine gl_sld rfl (by omega) (by omega) ?_
  refine gl_aloadS rfl rfl ?_
  refine gl_iload rfl rfl ?_
  refine gl_iconst (v := nI 2) rfl ic_2N ?_
  refine gl_iaddN rfl ?_
  refine gl_sld rfl (by omega) (by omega) ?_
  refine gl_callV (M2 := m9_want) (as := [.int (gX G (i + 1)), .int (gX G (i + 2))]) (kd := 9) rfl vL_53 ok9_want c1 k9 rfl rfl rfl rfl rfl hkc hks ?_
  refine gl_aload rfl rfl ?_
  refine gl_aloadS rfl rfl ?_
  refine gl_iload rfl rfl ?_
  refine gl_iconst (v := nI 1) rfl ic_1N ?_
  refine gl_iaddN rfl ?_
  refine gl_sld rfl (by omega) (by omega) ?_
  refine gl_aloadS rfl rfl ?_
  refine gl_iload rfl rfl ?_
  refine gl_iconst (v := nI 2) rfl ic_2N ?_
  refine gl_iaddN rfl ?_
  refine gl_sld rfl (by omega) (by omega) ?_
  refine gl_callV (M2 := m10_want) (as := [.int (gX G (i + 1)), .int (gX G (i + 2))]) (kd := 10) rfl vL_56 ok10_want c2 k10 rfl rfl rfl rfl rfl hkc hks ?_
  refine gl_eq (tgt := 1410) rfl rfl ?_
  exact gl_sw (M2 := mL_0) rfl rfl rfl rfl mL_0_d (kk _ i2)
theorem cs_top (hi : i + 6 ≤ gL G) (hL : gL G ≤ 3072) (hI : Inv h B) (hB : B < 2 ^ 28) (h6 : 6 ≤ B) (hkc : kc ≤ 601024) (hks : ks ≤ 7293033) (kk : ∀ h2, Inv h2 (B + 2) → GL l G d mL_0 kc ks 1410 [.retAddr 100, .ref 0, .ref 102, .ref 145, .int (nI i), v5, v6] [] h2) : GL l G d mL_top kc ks 506 [.retAddr 100, .ref 0, .ref 102, .ref 145, .int (nI i), v5, v6] [] h := by
  obtain ⟨I, J, K, P, S, im, SI, m, T, kn, u, Hs, t, f, fk, fp, rfl, hK, hv⟩ := hI
  obtain ⟨h1, c1, h2, c2, i2, k9, k10⟩ := tc_top (l := l) (G := G) (d := d) hK hv (gX G (i + 1))
  refine gl_aload rfl rfl ?_
  refine gl_aloadS rfl rfl ?_
  refine gl_iload rfl rfl ?_
  refine gl_iconst (v := nI 1) rfl ic_1N ?_
  refine gl_iaddN rfl ?_
  refine gl_sld rfl (by omega) (by omega) ?_
  refine gl_callV (M2 := m9_top) (as := [.int (gX G (i + 1))]) (kd := 9) rfl vL_57 ok9_top c1 k9 rfl rfl rfl rfl rfl hkc hks ?_
  refine gl_aload rfl rfl ?_
  refine gl_aloadS rfl rfl ?_
  refine gl_iload rfl rfl ?_
  refine gl_iconst (v := nI 1) rfl ic_1N ?_
  refine gl_iaddN rfl ?_
  refine gl_sld rfl (by omega) (by omega) ?_
  refine gl_callV (M2 := m10_top) (as := [.int (gX G (i + 1))]) (kd := 10) rfl vL_60 ok10_top c2 k10 rfl rfl rfl rfl rfl hkc hks ?_
  refine gl_eq (tgt := 1410) rfl rfl ?_
  exact gl_sw (M2 := mL_0) rfl rfl rfl rfl mL_0_d (kk _ i2)
theorem cs_law (hi : i + 6 ≤ gL G) (hL : gL G ≤ 3072) (hI : Inv h B) (hB : B < 2 ^ 28) (h6 : 6 ≤ B) (hkc : kc ≤ 601024) (hks : ks ≤ 7293033) (kk : ∀ h2, Inv h2 (B + 2) → GL l G d mL_0 kc ks 1410 [.retAddr 100, .ref 0, .ref 102, .ref 145, .int (nI i), v5, v6] [] h2) : GL l G d mL_law kc ks 531 [.retAddr 100, .ref 0, .ref 102, .ref 145, .int (nI i), v5, v6] [] h := by
  obtain ⟨I, J, K, P, S, im, SI, m, T, kn, u, Hs, t, f, fk, fp, rfl, hK, hv⟩ := hI
  obtain ⟨h1, c1, h2, c2, i2, k9, k10⟩ := tc_law (l := l) (G := G) (d := d) hK hv (gX G (i + 1)) (gX G (i + 2)) (gX G (i + 3))
  refine gl_aload rfl rfl ?_
  refine gl_aloadS rfl rfl ?_
  refine gl_iload rfl rfl ?_
  refine gl_iconst (v := nI 1) rfl ic_1N ?_
  refine gl_iaddN rfl ?_
  refine gl_sld rfl (by omega) (by omega) ?_
  refine gl_aloadS rfl rfl ?_
  refine gl_iload rfl rfl ?_
  refine gl_iconst (v := nI 2) rfl ic_2N ?_
  refine gl_iaddN rfl ?_
  refine gl_sld rfl (by omega) (by omega) ?_
  refine gl_aloadS rfl rfl ?_
  refine gl_iload rfl rfl ?_
  refine gl_iconst (v := nI 3) rfl ic_3N ?_
  refine gl_iaddN rfl ?_
  refine gl_sld rfl (by omega) (by omega) ?_
  refine gl_callV (M2 := m9_law) (as := [.int (gX G (i + 1)), .int (gX G (i + 2)), .int (gX G (i + 3))]) (kd := 9) rfl vL_61 ok9_law c1 k9 rfl rfl rfl rfl rfl hkc hks ?_
  refine gl_aload rfl rfl ?_
  refine gl_aloadS rfl rfl ?_
  refine gl_iload rfl rfl ?_
  refine gl_iconst (v := nI 1) rfl ic_1N ?_
  refine gl_iaddN rfl ?_
  refine gl_sld rfl (by omega) (by omega) ?_
  refine gl_aloadS rfl rfl ?_
  refine gl_iload rfl rfl ?_
  refine gl_iconst (v := nI 2) rfl ic_2N ?_
  refine gl_iaddN rfl ?_
  refine gl_sld rfl (by omega) (by omega) ?_
  refine gl_aloadS rfl rfl ?_
  refine gl_iload rfl rfl ?_
  refine gl_iconst (v := nI 3) rfl ic_3N ?_
  refine gl_iaddN rfl ?_
  refine gl_sld rfl (by omega) (by omega) ?_
  refine gl_callV (M2 := m10_law) (as := [.int (gX G (i + 1)), .int (gX G (i + 2)), .int (gX G (i + 3))]) (kd := 10) rfl vL_65 ok10_law c2 k10 rfl rfl rfl rfl rfl hkc hks ?_
  refine gl_leq (tgt := 1410) rfl rfl rfl ?_
  exact gl_sw (M2 := mL_0) rfl rfl rfl rfl mL_0_d (kk _ i2)
theorem cs_open (hi : i + 6 ≤ gL G) (hL : gL G ≤ 3072) (hI : Inv h B) (hB : B < 2 ^ 28) (h6 : 6 ≤ B) (hkc : kc ≤ 601024) (hks : ks ≤ 7293033) (kk : ∀ h2, Inv h2 (B + 2) → GL l G d mL_0 kc ks 1410 [.retAddr 100, .ref 0, .ref 102, .ref 145, .int (nI i), v5, v6] [] h2) : GL l G d mL_open kc ks 581 [.retAddr 100, .ref 0, .ref 102, .ref 145, .int (nI i), v5, v6] [] h := by
  obtain ⟨I, J, K, P, S, im, SI, m, T, kn, u, Hs, t, f, fk, fp, rfl, hK, hv⟩ := hI
  obtain ⟨h1, c1, h2, c2, i2, k9, k10⟩ := tc_open (l := l) (G := G) (d := d) hK hv (gX G (i + 1))
  refine gl_aload rfl rfl ?_
  refine gl_aloadS rfl rfl ?_
  refine gl_iload rfl rfl ?_
  refine gl_iconst (v := nI 1) rfl ic_1N ?_
  refine gl_iaddN rfl ?_
  refine gl_sld rfl (by omega) (by omega) ?_
  refine gl_callV (M2 := m9_open) (as := [.int (gX G (i + 1))]) (kd := 9) rfl vL_66 ok9_open c1 k9 rfl rfl rfl rfl rfl hkc hks ?_
  refine gl_aload rfl rfl ?_
  refine gl_aloadS rfl rfl ?_
  refine gl_iload rfl rfl ?_
  refine gl_iconst (v := nI 1) rfl ic_1N ?_
  refine gl_iaddN rfl ?_
  refine gl_sld rfl (by omega) (by omega) ?_
  refine gl_callV (M2 := m10_open) (as := [.int (gX G (i + 1))]) (kd := 10) rfl vL_69 ok10_open c2 k10 rfl rfl rfl rfl rfl hkc hks ?_
  refine gl_eq (tgt := 1410) rfl rfl ?_
  exact gl_sw (M2 := mL_0) rfl rfl rfl rfl mL_0_d (kk _ i2)
theorem cs_put (hi : i + 6 ≤ gL G) (hL : gL G ≤ 3072) (hI : Inv h B) (hB : B < 2 ^ 28) (h6 : 6 ≤ B) (hkc : kc ≤ 601024) (hks : ks ≤ 7293033) (kk : ∀ h2, Inv h2 (B + 2) → GL l G d mL_0 kc ks 1410 [.retAddr 100, .ref 0, .ref 102, .ref 145, .int (nI i), v5, v6] [] h2) : GL l G d mL_put kc ks 606 [.retAddr 100, .ref 0, .ref 102, .ref 145, .int (nI i), v5, v6] [] h := by
  obtain ⟨I, J, K, P, S, im, SI, m, T, kn, u, Hs, t, f, fk, fp, rfl, hK, hv⟩ := hI
  obtain ⟨h1, c1, h2, c2, i2, k9, k10⟩ := tc_put (l := l) (G := G) (d := d) hK hv hB (gX G (i + 1)) (gX G (i + 2))
  refine gl_aload rfl rfl ?_
  refine gl_aloadS rfl rfl ?_
  refine gl_iload rfl rfl ?_
  refine gl_iconst (v := nI 1) rfl ic_1N ?_
  refine gl_iaddN rfl ?_
  refine gl_sld rfl (by omega) (by omega) ?_
  refine gl_aloadS rfl rfl ?_
  refine gl_iload rfl rfl ?_
  refine gl_iconst (v := nI 2) rfl ic_2N ?_
  refine gl_iaddN rfl ?_
  refine gl_sld rfl (by omega) (by omega) ?_
  refine gl_callV (M2 := m9_put) (as := [.int (gX G (i + 1)), .int (gX G (i + 2))]) (kd := 9) rfl vL_70 ok9_put c1 k9 rfl rfl rfl rfl rfl hkc hks ?_
  refine gl_aload rfl rfl ?_
  refine gl_aloadS rfl rfl ?_
  refine gl_iload rfl rfl ?_
  refine gl_iconst (v := nI 1) rfl ic_1N ?_
  refine gl_iaddN rfl ?_
  refine gl_sld rfl (by omega) (by omega) ?_
  refine gl_aloadS rfl rfl ?_
  refine gl_iload rfl rfl ?_
  refine gl_iconst (v := nI 2) rfl ic_2N ?_
  refine gl_iaddN rfl ?_
  refine gl_sld rfl (by omega) (by omega) ?_
  refine gl_callV (M2 := m10_put) (as := [.int (gX G (i + 1)), .int (gX G (i + 2))]) (kd := 10) rfl vL_74 ok10_put c2 k10 rfl rfl rfl rfl rfl hkc hks ?_
  refine gl_eq (tgt := 1410) rfl rfl ?_
  exact gl_sw (M2 := mL_0) rfl rfl rfl rfl mL_0_d (kk _ i2)
theorem cs_dent (hi : i + 6 ≤ gL G) (hL : gL G ≤ 3072) (hI : Inv h B) (hB : B < 2 ^ 28) (h6 : 6 ≤ B) (hkc : kc ≤ 601024) (hks : ks ≤ 7293033) (kk : ∀ h2, Inv h2 (B + 2) → GL l G d mL_0 kc ks 1410 [.retAddr 100, .ref 0, .ref 102, .ref 145, .int (nI i), v5, v6] [] h2) : GL l G d mL_dent kc ks 643 [.retAddr 100, .ref 0, .ref 102, .ref 145, .int (nI i), v5, v6] [] h := by
  obtain ⟨I, J, K, P, S, im, SI, m, T, kn, u, Hs, t, f, fk, fp, rfl, hK, hv⟩ := hI
  obtain ⟨h1, c1, h2, c2, i2, k9, k10⟩ := tc_dent (l := l) (G := G) (d := d) hK hv (gX G (i + 1))
  refine gl_aload rfl rfl ?_
  refine gl_aloadS rfl rfl ?_
  refine gl_iload rfl rfl ?_
  refine gl_iconst (v := nI 1) rfl ic_1N ?_
  refine gl_iaddN rfl ?_
  refine gl_sld rfl (by omega) (by omega) ?_
  refine gl_callV (M2 := m9_dent) (as := [.int (gX G (i + 1))]) (kd := 9) rfl vL_75 ok9_dent c1 k9 rfl rfl rfl rfl rfl hkc hks ?_
  refine gl_aload rfl rfl ?_
  refine gl_aloadS rfl rfl ?_
  refine gl_iload rfl rfl ?_
  refine gl_iconst (v := nI 1) rfl ic_1N ?_
  refine gl_iaddN rfl ?_
  refine gl_sld rfl (by omega) (by omega) ?_
  refine gl_callV (M2 := m10_dent) (as := [.int (gX G (i + 1))]) (kd := 10) rfl vL_78 ok10_dent c2 k10 rfl rfl rfl rfl rfl hkc hks ?_
  refine gl_eq (tgt := 1410) rfl rfl ?_
  exact gl_sw (M2 := mL_0) rfl rfl rfl rfl mL_0_d (kk _ i2)
theorem cs_find (hi : i + 6 ≤ gL G) (hL : gL G ≤ 3072) (hI : Inv h B) (hB : B < 2 ^ 28) (h6 : 6 ≤ B) (hkc : kc ≤ 601024) (hks : ks ≤ 7293033) (kk : ∀ h2, Inv h2 (B + 2) → GL l G d mL_0 kc ks 1410 [.retAddr 100, .ref 0, .ref 102, .ref 145, .int (nI i), v5, v6] [] h2) : GL l G d mL_find kc ks 668 [.retAddr 100, .ref 0, .ref 102, .ref 145, .int (nI i), v5, v6] [] h := by
  obtain ⟨I, J, K, P, S, im, SI, m, T, kn, u, Hs, t, f, fk, fp, rfl, hK, hv⟩ := hI
  obtain ⟨h1, c1, h2, c2, i2, k9, k10⟩ := tc_find (l := l) (G := G) (d := d) hK hv (gX G (i + 1))
  refine gl_aload rfl rfl ?_
  refine gl_aloadS rfl rfl ?_
  refine gl_iload rfl rfl ?_
  refine gl_iconst (v := nI 1) rfl ic_1N ?_
  refine gl_iaddN rfl ?_
  refine gl_sld rfl (by omega) (by omega) ?_
  refine gl_callV (M2 := m9_find) (as := [.int (gX G (i + 1))]) (kd := 9) rfl vL_79 ok9_find c1 k9 rfl rfl rfl rfl rfl hkc hks ?_
  refine gl_aload rfl rfl ?_
  refine gl_aloadS rfl rfl ?_
  refine gl_iload rfl rfl ?_
  refine gl_iconst (v := nI 1) rfl ic_1N ?_
  refine gl_iaddN rfl ?_
  refine gl_sld rfl (by omega) (by omega) ?_
  refine gl_callV (M2 := m10_find) (as := [.int (gX G (i + 1))]) (kd := 10) rfl vL_82 ok10_find c2 k10 rfl rfl rfl rfl rfl hkc hks ?_
  refine gl_eq (tgt := 1410) rfl rfl ?_
  exact gl_sw (M2 := mL_0) rfl rfl rfl rfl mL_0_d (kk _ i2)
theorem cs_go (hi : i + 6 ≤ gL G) (hL : gL G ≤ 3072) (hI : Inv h B) (hB : B < 2 ^ 28) (h6 : 6 ≤ B) (hkc : kc ≤ 601024) (hks : ks ≤ 7293033) (kk : ∀ h2, Inv h2 (B + 2) → GL l G d mL_0 kc ks 1410 [.retAddr 100, .ref 0, .ref 102, .ref 145, .int (nI i), v5, v6] [] h2) : GL l G d mL_go kc ks 693 [.retAddr 100, .ref 0, .ref 102, .ref 145, .int (nI i), v5, v6] [] h := by
  obtain ⟨I, J, K, P, S, im, SI, m, T, kn, u, Hs, t, f, fk, fp, rfl, hK, hv⟩ := hI
  obtain ⟨h1, c1, h2, c2, i2, k9, k10⟩ := tc_go (l := l) (G := G) (d := d) hK hv (gX G (i + 1))
  refine gl_aload rfl rfl ?_
  refine gl_aloadS rfl rfl ?_
  refine gl_iload rfl rfl ?_
  refine gl_iconst (v := nI 1) rfl ic_1N ?_
  refine gl_iaddN rfl ?_
  refine gl_sld rfl (by omega) (by omega) ?_
  refine gl_callV (M2 := m9_go) (as := [.int (gX G (i + 1))]) (kd := 9) rfl vL_83 ok9_go c1 k9 rfl rfl rfl rfl rfl hkc hks ?_
  refine gl_aload rfl rfl ?_
  refine gl_aloadS rfl rfl ?_
  refine gl_iload rfl rfl ?_
  refine gl_iconst (v := nI 1) rfl ic_1N ?_
  refine gl_iaddN rfl ?_
  refine gl_sld rfl (by omega) (by omega) ?_
  refine gl_callV (M2 := m10_go) (as := [.int (gX G (i + 1))]) (kd := 10) rfl vL_86 ok10_go c2 k10 rfl rfl rfl rfl rfl hkc hks ?_
  refine gl_eq (tgt := 1410) rfl rfl ?_
  exact gl_sw (M2 := mL_0) rfl rfl rfl rfl mL_0_d (kk _ i2)
theorem cs_ahead (hi : i + 6 ≤ gL G) (hL : gL G ≤ 3072) (hI : Inv h B) (hB : B < 2 ^ 28) (h6 : 6 ≤ B) (hkc : kc ≤ 601024) (hks : ks ≤ 7293033) (kk : ∀ h2, Inv h2 (B + 2) → GL l G d mL_0 kc ks 1410 [.retAddr 100, .ref 0, .ref 102, .ref 145, .int (nI i), v5, v6] [] h2) : GL l G d mL_ahead kc ks 718 [.retAddr 100, .ref 0, .ref 102, .ref 145, .int (nI i), v5, v6] [] h := by
  obtain ⟨I, J, K, P, S, im, SI, m, T, kn, u, Hs, t, f, fk, fp, rfl, hK, hv⟩ := hI
  obtain ⟨h1, c1, h2, c2, i2, k9, k10⟩ := tc_ahead (l := l) (G := G) (d := d) hK hv (gX G (i + 1)) (gX G (i + 2))
  refine gl_aload rfl rfl ?_
  refine gl_aloadS rfl rfl ?_
  refine gl_iload rfl rfl ?_
  refine gl_iconst (v := nI 1) rfl ic_1N ?_
  refine gl_iaddN rfl ?_
  refine gl_sld rfl (by omega) (by omega) ?_
  refine gl_aloadS rfl rfl ?_
  refine gl_iload rfl rfl ?_
  refine gl_iconst (v := nI 2) rfl ic_2N ?_
  refine gl_iaddN rfl ?_
  refine gl_sld rfl (by omega) (by omega) ?_
  refine gl_callV (M2 := m9_ahead) (as := [.int (gX G (i + 1)), .int (gX G (i + 2))]) (kd := 9) rfl vL_87 ok9_ahead c1 k9 rfl rfl rfl rfl rfl hkc hks ?_
  refine gl_aload rfl rfl ?_
  refine gl_aloadS rfl rfl ?_
  refine gl_iload rfl rfl ?_
  refine gl_iconst (v := nI 1) rfl ic_1N ?_
  refine gl_iaddN rfl ?_
  refine gl_sld rfl (by omega) (by omega) ?_
  refine gl_aloadS rfl rfl ?_
  refine gl_iload rfl rfl ?_
  refine gl_iconst (v := nI 2) rfl ic_2N ?_
  refine gl_iaddN rfl ?_
  refine gl_sld rfl (by omega) (by omega) ?_
  refine gl_callV (M2 := m10_ahead) (as := [.int (gX G (i + 1)), .int (gX G (i + 2))]) (kd := 10) rfl vL_90 ok10_ahead c2 k10 rfl rfl rfl rfl rfl hkc hks ?_
  refine gl_eq (tgt := 1410) rfl rfl ?_
  exact gl_sw (M2 := mL_0) rfl rfl rfl rfl mL_0_d (kk _ i2)
theorem cs_above (hi : i + 6 ≤ gL G) (hL : gL G ≤ 3072) (hI : Inv h B) (hB : B < 2 ^ 28) (h6 : 6 ≤ B) (hkc : kc ≤ 601024) (hks : ks ≤ 7293033) (kk : ∀ h2, Inv h2 (B + 2) → GL l G d mL_0 kc ks 1410 [.retAddr 100, .ref 0, .ref 102, .ref 145, .int (nI i), v5, v6] [] h2) : GL l G d mL_above kc ks 755 [.retAddr 100, .ref 0, .ref 102, .ref 145, .int (nI i), v5, v6] [] h := by
  obtain ⟨I, J, K, P, S, im, SI, m, T, kn, u, Hs, t, f, fk, fp, rfl, hK, hv⟩ := hI
  obtain ⟨h1, c1, h2, c2, i2, k9, k10⟩ := tc_above (l := l) (G := G) (d := d) hK hv (gX G (i + 1))
  refine gl_aload rfl rfl ?_
  refine gl_aloadS rfl rfl ?_
  refine gl_iload rfl rfl ?_
  refine gl_iconst (v := nI 1) rfl ic_1N ?_
  refine gl_iaddN rfl ?_
  refine gl_sld rfl (by omega) (by omega) ?_
  refine gl_callV (M2 := m9_above) (as := [.int (gX G (i + 1))]) (kd := 9) rfl vL_91 ok9_above c1 k9 rfl rfl rfl rfl rfl hkc hks ?_
  refine gl_aload rfl rfl ?_
  refine gl_aloadS rfl rfl ?_
  refine gl_iload rfl rfl ?_
  refine gl_iconst (v := nI 1) rfl ic_1N ?_
  refine gl_iaddN rfl ?_
  refine gl_sld rfl (by omega) (by omega) ?_
  refine gl_callV (M2 := m10_above) (as := [.int (gX G (i + 1))]) (kd := 10) rfl vL_94 ok10_above c2 k10 rfl rfl rfl rfl rfl hkc hks ?_
  refine gl_eq (tgt := 1410) rfl rfl ?_
  exact gl_sw (M2 := mL_0) rfl rfl rfl rfl mL_0_d (kk _ i2)
theorem cs_order (hi : i + 6 ≤ gL G) (hL : gL G ≤ 3072) (hI : Inv h B) (hB : B < 2 ^ 28) (h6 : 6 ≤ B) (hkc : kc ≤ 601024) (hks : ks ≤ 7293033) (kk : ∀ h2, Inv h2 (B + 2) → GL l G d mL_0 kc ks 1410 [.retAddr 100, .ref 0, .ref 102, .ref 145, .int (nI i), v5, v6] [] h2) : GL l G d mL_order kc ks 780 [.retAddr 100, .ref 0, .ref 102, .ref 145, .int (nI i), v5, v6] [] h := by
  obtain ⟨I, J, K, P, S, im, SI, m, T, kn, u, Hs, t, f, fk, fp, rfl, hK, hv⟩ := hI
  obtain ⟨h1, c1, h2, c2, i2, k9, k10⟩ := tc_order (l := l) (G := G) (d := d) hK hv (gX G (i + 1))
  refine gl_aload rfl rfl ?_
  refine gl_aloadS rfl rfl ?_
  refine gl_iload rfl rfl ?_
  refine gl_iconst (v := nI 1) rfl ic_1N ?_
  refine gl_iaddN rfl ?_
  refine gl_sld rfl (by omega) (by omega) ?_
  refine gl_callV (M2 := m9_order) (as := [.int (gX G (i + 1))]) (kd := 9) rfl vL_95 ok9_order c1 k9 rfl rfl rfl rfl rfl hkc hks ?_
  refine gl_aload rfl rfl ?_
  refine gl_aloadS rfl rfl ?_
  refine gl_iload rfl rfl ?_
  refine gl_iconst (v := nI 1) rfl ic_1N ?_
  refine gl_iaddN rfl ?_
  refine gl_sld rfl (by omega) (by omega) ?_
  refine gl_callV (M2 := m10_order) (as := [.int (gX G (i + 1))]) (kd := 10) rfl vL_98 ok10_order c2 k10 rfl rfl rfl rfl rfl hkc hks ?_
  refine gl_eq (tgt := 1410) rfl rfl ?_
  exact gl_sw (M2 := mL_0) rfl rfl rfl rfl mL_0_d (kk _ i2)
theorem cs_best (hi : i + 6 ≤ gL G) (hL : gL G ≤ 3072) (hI : Inv h B) (hB : B < 2 ^ 28) (h6 : 6 ≤ B) (hkc : kc ≤ 601024) (hks : ks ≤ 7293033) (kk : ∀ h2, Inv h2 (B + 2) → GL l G d mL_0 kc ks 1410 [.retAddr 100, .ref 0, .ref 102, .ref 145, .int (nI i), v5, v6] [] h2) : GL l G d mL_best kc ks 805 [.retAddr 100, .ref 0, .ref 102, .ref 145, .int (nI i), v5, v6] [] h := by
  obtain ⟨I, J, K, P, S, im, SI, m, T, kn, u, Hs, t, f, fk, fp, rfl, hK, hv⟩ := hI
  obtain ⟨h1, c1, h2, c2, i2, k9, k10⟩ := tc_best (l := l) (G := G) (d := d) hK hv (gX G (i + 1)) (gX G (i + 2))
  refine gl_aload rfl rfl ?_
  refine gl_aloadS rfl rfl ?_
  refine gl_iload rfl rfl ?_
  refine gl_iconst (v := nI 1) rfl ic_1N ?_
  refine gl_iaddN rfl ?_
  refine gl_sld rfl (by omega) (by omega) ?_
  refine gl_aloadS rfl rfl ?_
  refine gl_iload rfl rfl ?_
  refine gl_iconst (v := nI 2) rfl ic_2N ?_
  refine gl_iaddN rfl ?_
  refine gl_sld rfl (by omega) (by omega) ?_
  refine gl_callV (M2 := m9_best) (as := [.int (gX G (i + 1)), .int (gX G (i + 2))]) (kd := 9) rfl vL_99 ok9_best c1 k9 rfl rfl rfl rfl rfl hkc hks ?_
  refine gl_aload rfl rfl ?_
  refine gl_aloadS rfl rfl ?_
  refine gl_iload rfl rfl ?_
  refine gl_iconst (v := nI 1) rfl ic_1N ?_
  refine gl_iaddN rfl ?_
  refine gl_sld rfl (by omega) (by omega) ?_
  refine gl_aloadS rfl rfl ?_
  refine gl_iload rfl rfl ?_
  refine gl_iconst (v := nI 2) rfl ic_2N ?_
  refine gl_iaddN rfl ?_
  refine gl_sld rfl (by omega) (by omega) ?_
  refine gl_callV (M2 := m10_best) (as := [.int (gX G (i + 1)), .int (gX G (i + 2))]) (kd := 10) rfl vL_102 ok10_best c2 k10 rfl rfl rfl rfl rfl hkc hks ?_
  refine gl_eq (tgt := 1410) rfl rfl ?_
  exact gl_sw (M2 := mL_0) rfl rfl rfl rfl mL_0_d (kk _ i2)
theorem cs_tidy (hi : i + 6 ≤ gL G) (hL : gL G ≤ 3072) (hI : Inv h B) (hB : B < 2 ^ 28) (h6 : 6 ≤ B) (hkc : kc ≤ 601024) (hks : ks ≤ 7293033) (kk : ∀ h2, Inv h2 (B + 2) → GL l G d mL_0 kc ks 1410 [.retAddr 100, .ref 0, .ref 102, .ref 145, .int (nI i), v5, v6] [] h2) : GL l G d mL_tidy kc ks 842 [.retAddr 100, .ref 0, .ref 102, .ref 145, .int (nI i), v5, v6] [] h := by
  obtain ⟨I, J, K, P, S, im, SI, m, T, kn, u, Hs, t, f, fk, fp, rfl, hK, hv⟩ := hI
  obtain ⟨h1, c1, h2, c2, i2, k9, k10⟩ := tc_tidy (l := l) (G := G) (d := d) hK hv (gX G (i + 1))
  refine gl_aload rfl rfl ?_
  refine gl_aloadS rfl rfl ?_
  refine gl_iload rfl rfl ?_
  refine gl_iconst (v := nI 1) rfl ic_1N ?_
  refine gl_iaddN rfl ?_
  refine gl_sld rfl (by omega) (by omega) ?_
  refine gl_callV (M2 := m9_tidy) (as := [.int (gX G (i + 1))]) (kd := 9) rfl vL_103 ok9_tidy c1 k9 rfl rfl rfl rfl rfl hkc hks ?_
  refine gl_aload rfl rfl ?_
  refine gl_aloadS rfl rfl ?_
  refine gl_iload rfl rfl ?_
  refine gl_iconst (v := nI 1) rfl ic_1N ?_
  refine gl_iaddN rfl ?_
  refine gl_sld rfl (by omega) (by omega) ?_
  refine gl_callV (M2 := m10_tidy) (as := [.int (gX G (i + 1))]) (kd := 10) rfl vL_106 ok10_tidy c2 k10 rfl rfl rfl rfl rfl hkc hks ?_
  refine gl_eq (tgt := 1410) rfl rfl ?_
  exact gl_sw (M2 := mL_0) rfl rfl rfl rfl mL_0_d (kk _ i2)
theorem cs_rests (hi : i + 6 ≤ gL G) (hL : gL G ≤ 3072) (hI : Inv h B) (hB : B < 2 ^ 28) (h6 : 6 ≤ B) (hkc : kc ≤ 601024) (hks : ks ≤ 7293033) (kk : ∀ h2, Inv h2 (B + 2) → GL l G d mL_0 kc ks 1410 [.retAddr 100, .ref 0, .ref 102, .ref 145, .int (nI i), v5, v6] [] h2) : GL l G d mL_rests kc ks 867 [.retAddr 100, .ref 0, .ref 102, .ref 145, .int (nI i), v5, v6] [] h := by
  obtain ⟨I, J, K, P, S, im, SI, m, T, kn, u, Hs, t, f, fk, fp, rfl, hK, hv⟩ := hI
  obtain ⟨h1, c1, h2, c2, i2, k9, k10⟩ := tc_rests (l := l) (G := G) (d := d) hK hv (gX G (i + 1))
  refine gl_aload rfl rfl ?_
  refine gl_aloadS rfl rfl ?_
  refine gl_iload rfl rfl ?_
  refine gl_iconst (v := nI 1) rfl ic_1N ?_
  refine gl_iaddN rfl ?_
  refine gl_sld rfl (by omega) (by omega) ?_
  refine gl_callV (M2 := m9_rests) (as := [.int (gX G (i + 1))]) (kd := 9) rfl vL_107 ok9_rests c1 k9 rfl rfl rfl rfl rfl hkc hks ?_
  refine gl_aload rfl rfl ?_
  refine gl_aloadS rfl rfl ?_
  refine gl_iload rfl rfl ?_
  refine gl_iconst (v := nI 1) rfl ic_1N ?_
  refine gl_iaddN rfl ?_
  refine gl_sld rfl (by omega) (by omega) ?_
  refine gl_callV (M2 := m10_rests) (as := [.int (gX G (i + 1))]) (kd := 10) rfl vL_110 ok10_rests c2 k10 rfl rfl rfl rfl rfl hkc hks ?_
  refine gl_eq (tgt := 1410) rfl rfl ?_
  exact gl_sw (M2 := mL_0) rfl rfl rfl rfl mL_0_d (kk _ i2)
theorem cs_rest (hi : i + 6 ≤ gL G) (hL : gL G ≤ 3072) (hI : Inv h B) (hB : B < 2 ^ 28) (h6 : 6 ≤ B) (hkc : kc ≤ 601024) (hks : ks ≤ 7293033) (kk : ∀ h2, Inv h2 (B + 2) → GL l G d mL_0 kc ks 1410 [.retAddr 100, .ref 0, .ref 102, .ref 145, .int (nI i), v5, v6] [] h2) : GL l G d mL_rest kc ks 892 [.retAddr 100, .ref 0, .ref 102, .ref 145, .int (nI i), v5, v6] [] h := by
  obtain ⟨I, J, K, P, S, im, SI, m, T, kn, u, Hs, t, f, fk, fp, rfl, hK, hv⟩ := hI
  obtain ⟨h1, c1, h2, c2, i2, k9, k10⟩ := tc_rest (l := l) (G := G) (d := d) hK hv (gX G (i + 1)) (gX G (i + 2))
  refine gl_aload rfl rfl ?_
  refine gl_aloadS rfl rfl ?_
  refine gl_iload rfl rfl ?_
  refine gl_iconst (v := nI 1) rfl ic_1N ?_
  refine gl_iaddN rfl ?_
  refine gl_sld rfl (by omega) (by omega) ?_
  refine gl_aloadS rfl rfl ?_
  refine gl_iload rfl rfl ?_
  refine gl_iconst (v := nI 2) rfl ic_2N ?_
  refine gl_iaddN rfl ?_
  refine gl_sld rfl (by omega) (by omega) ?_
  refine gl_callV (M2 := m9_rest) (as := [.int (gX G (i + 1)), .int (gX G (i + 2))]) (kd := 9) rfl vL_111 ok9_rest c1 k9 rfl rfl rfl rfl rfl hkc hks ?_
  refine gl_aload rfl rfl ?_
  refine gl_aloadS rfl rfl ?_
  refine gl_iload rfl rfl ?_
  refine gl_iconst (v := nI 1) rfl ic_1N ?_
  refine gl_iaddN rfl ?_
  refine gl_sld rfl (by omega) (by omega) ?_
  refine gl_aloadS rfl rfl ?_
  refine gl_iload rfl rfl ?_
  refine gl_iconst (v := nI 2) rfl ic_2N ?_
  refine gl_iaddN rfl ?_
  refine gl_sld rfl (by omega) (by omega) ?_
  refine gl_callV (M2 := m10_rest) (as := [.int (gX G (i + 1)), .int (gX G (i + 2))]) (kd := 10) rfl vL_114 ok10_rest c2 k10 rfl rfl rfl rfl rfl hkc hks ?_
  refine gl_eq (tgt := 1410) rfl rfl ?_
  exact gl_sw (M2 := mL_0) rfl rfl rfl rfl mL_0_d (kk _ i2)
theorem cs_whole (hi : i + 6 ≤ gL G) (hL : gL G ≤ 3072) (hI : Inv h B) (hB : B < 2 ^ 28) (h6 : 6 ≤ B) (hkc : kc ≤ 601024) (hks : ks ≤ 7293033) (kk : ∀ h2, Inv h2 (B + 2) → GL l G d mL_0 kc ks 1410 [.retAddr 100, .ref 0, .ref 102, .ref 145, .int (nI i), v5, v6] [] h2) : GL l G d mL_whole kc ks 929 [.retAddr 100, .ref 0, .ref 102, .ref 145, .int (nI i), v5, v6] [] h := by
  obtain ⟨I, J, K, P, S, im, SI, m, T, kn, u, Hs, t, f, fk, fp, rfl, hK, hv⟩ := hI
  obtain ⟨h1, c1, h2, c2, i2, k9, k10⟩ := tc_whole (l := l) (G := G) (d := d) hK hv (gX G (i + 1)) (gX G (i + 2))
  refine gl_aload rfl rfl ?_
  refine gl_aloadS rfl rfl ?_
  refine gl_iload rfl rfl ?_
  refine gl_iconst (v := nI 1) rfl ic_1N ?_
  refine gl_iaddN rfl ?_
  refine gl_sld rfl (by omega) (by omega) ?_
  refine gl_aloadS rfl rfl ?_
  refine gl_iload rfl rfl ?_
  refine gl_iconst (v := nI 2) rfl ic_2N ?_
  refine gl_iaddN rfl ?_
  refine gl_sld rfl (by omega) (by omega) ?_
  refine gl_callV (M2 := m9_whole) (as := [.int (gX G (i + 1)), .int (gX G (i + 2))]) (kd := 9) rfl vL_115 ok9_whole c1 k9 rfl rfl rfl rfl rfl hkc hks ?_
  refine gl_aload rfl rfl ?_
  refine gl_aloadS rfl rfl ?_
  refine gl_iload rfl rfl ?_
  refine gl_iconst (v := nI 1) rfl ic_1N ?_
  refine gl_iaddN rfl ?_
  refine gl_sld rfl (by omega) (by omega) ?_
  refine gl_aloadS rfl rfl ?_
  refine gl_iload rfl rfl ?_
  refine gl_iconst (v := nI 2) rfl ic_2N ?_
  refine gl_iaddN rfl ?_
  refine gl_sld rfl (by omega) (by omega) ?_
  refine gl_callV (M2 := m10_whole) (as := [.int (gX G (i + 1)), .int (gX G (i + 2))]) (kd := 10) rfl vL_119 ok10_whole c2 k10 rfl rfl rfl rfl rfl hkc hks ?_
  refine gl_leq (tgt := 1410) rfl rfl rfl ?_
  exact gl_sw (M2 := mL_0) rfl rfl rfl rfl mL_0_d (kk _ i2)
theorem cs_unmet (hi : i + 6 ≤ gL G) (hL : gL G ≤ 3072) (hI : Inv h B) (hB : B < 2 ^ 28) (h6 : 6 ≤ B) (hkc : kc ≤ 601024) (hks : ks ≤ 7293033) (kk : ∀ h2, Inv h2 (B + 2) → GL l G d mL_0 kc ks 1410 [.retAddr 100, .ref 0, .ref 102, .ref 145, .int (nI i), v5, v6] [] h2) : GL l G d mL_unmet kc ks 967 [.retAddr 100, .ref 0, .ref 102, .ref 145, .int (nI i), v5, v6] [] h := by
  obtain ⟨I, J, K, P, S, im, SI, m, T, kn, u, Hs, t, f, fk, fp, rfl, hK, hv⟩ := hI
  obtain ⟨h1, c1, h2, c2, i2, k9, k10⟩ := tc_unmet (l := l) (G := G) (d := d) hK hv 
  refine gl_aload rfl rfl ?_
  refine gl_callV (M2 := m9_unmet) (as := []) (kd := 9) rfl vL_120 ok9_unmet c1 k9 rfl rfl rfl rfl rfl hkc hks ?_
  refine gl_aload rfl rfl ?_
  refine gl_callV (M2 := m10_unmet) (as := []) (kd := 10) rfl vL_123 ok10_unmet c2 k10 rfl rfl rfl rfl rfl hkc hks ?_
  refine gl_eq (tgt := 1410) rfl rfl ?_
  exact gl_sw (M2 := mL_0) rfl rfl rfl rfl mL_0_d (kk _ i2)
theorem cs_blows (hi : i + 6 ≤ gL G) (hL : gL G ≤ 3072) (hI : Inv h B) (hB : B < 2 ^ 28) (h6 : 6 ≤ B) (hkc : kc ≤ 601024) (hks : ks ≤ 7293033) (kk : ∀ h2, Inv h2 (B + 2) → GL l G d mL_0 kc ks 1410 [.retAddr 100, .ref 0, .ref 102, .ref 145, .int (nI i), v5, v6] [] h2) : GL l G d mL_blows kc ks 980 [.retAddr 100, .ref 0, .ref 102, .ref 145, .int (nI i), v5, v6] [] h := by
  obtain ⟨I, J, K, P, S, im, SI, m, T, kn, u, Hs, t, f, fk, fp, rfl, hK, hv⟩ := hI
  obtain ⟨h1, c1, h2, c2, i2, k9, k10⟩ := tc_blows (l := l) (G := G) (d := d) hK hv (gX G (i + 1))
  refine gl_aload rfl rfl ?_
  refine gl_aloadS rfl rfl ?_
  refine gl_iload rfl rfl ?_
  refine gl_iconst (v := nI 1) rfl ic_1N ?_
  refine gl_iaddN rfl ?_
  refine gl_sld rfl (by omega) (by omega) ?_
  refine gl_callV (M2 := m9_blows) (as := [.int (gX G (i + 1))]) (kd := 9) rfl vL_124 ok9_blows c1 k9 rfl rfl rfl rfl rfl hkc hks ?_
  refine gl_aload rfl rfl ?_
  refine gl_aloadS rfl rfl ?_
  refine gl_iload rfl rfl ?_
  refine gl_iconst (v := nI 1) rfl ic_1N ?_
  refine gl_iaddN rfl ?_
  refine gl_sld rfl (by omega) (by omega) ?_
  refine gl_callV (M2 := m10_blows) (as := [.int (gX G (i + 1))]) (kd := 10) rfl vL_127 ok10_blows c2 k10 rfl rfl rfl rfl rfl hkc hks ?_
  refine gl_eq (tgt := 1410) rfl rfl ?_
  exact gl_sw (M2 := mL_0) rfl rfl rfl rfl mL_0_d (kk _ i2)
theorem cs_note (hi : i + 6 ≤ gL G) (hL : gL G ≤ 3072) (hI : Inv h B) (hB : B < 2 ^ 28) (h6 : 6 ≤ B) (hkc : kc ≤ 601024) (hks : ks ≤ 7293033) (kk : ∀ h2, Inv h2 (B + 2) → GL l G d mL_0 kc ks 1410 [.retAddr 100, .ref 0, .ref 102, .ref 145, .int (nI i), v5, v6] [] h2) : GL l G d mL_note kc ks 1005 [.retAddr 100, .ref 0, .ref 102, .ref 145, .int (nI i), v5, v6] [] h := by
  obtain ⟨I, J, K, P, S, im, SI, m, T, kn, u, Hs, t, f, fk, fp, rfl, hK, hv⟩ := hI
  obtain ⟨h1, c1, h2, c2, i2, k9, k10⟩ := tc_note (l := l) (G := G) (d := d) hK hv (gX G (i + 1)) (gX G (i + 2)) (decide (¬ gX G (i + 3) = 0))
  refine gl_aload rfl rfl ?_
  refine gl_aloadS rfl rfl ?_
  refine gl_iload rfl rfl ?_
  refine gl_iconst (v := nI 1) rfl ic_1N ?_
  refine gl_iaddN rfl ?_
  refine gl_sld rfl (by omega) (by omega) ?_
  refine gl_aloadS rfl rfl ?_
  refine gl_iload rfl rfl ?_
  refine gl_iconst (v := nI 2) rfl ic_2N ?_
  refine gl_iaddN rfl ?_
  refine gl_sld rfl (by omega) (by omega) ?_
  refine gl_aloadS rfl rfl ?_
  refine gl_iload rfl rfl ?_
  refine gl_iconst (v := nI 3) rfl ic_3N ?_
  refine gl_iaddN rfl ?_
  refine gl_sld rfl (by omega) (by omega) ?_
  refine gl_bool (p3 := 1031) (tgt := 1032) rfl rfl rfl rfl rfl rfl ?_
  refine gl_callV (M2 := m9_note) (as := [.int (gX G (i + 1)), .int (gX G (i + 2)), .int (bI (decide (¬ gX G (i + 3) = 0)))]) (kd := 9) rfl vL_128 ok9_note c1 k9 rfl rfl rfl rfl rfl hkc hks ?_
  refine gl_aload rfl rfl ?_
  refine gl_aloadS rfl rfl ?_
  refine gl_iload rfl rfl ?_
  refine gl_iconst (v := nI 1) rfl ic_1N ?_
  refine gl_iaddN rfl ?_
  refine gl_sld rfl (by omega) (by omega) ?_
  refine gl_aloadS rfl rfl ?_
  refine gl_iload rfl rfl ?_
  refine gl_iconst (v := nI 2) rfl ic_2N ?_
  refine gl_iaddN rfl ?_
  refine gl_sld rfl (by omega) (by omega) ?_
  refine gl_aloadS rfl rfl ?_
  refine gl_iload rfl rfl ?_
  refine gl_iconst (v := nI 3) rfl ic_3N ?_
  refine gl_iaddN rfl ?_
  refine gl_sld rfl (by omega) (by omega) ?_
  refine gl_bool (p3 := 1061) (tgt := 1062) rfl rfl rfl rfl rfl rfl ?_
  refine gl_callV (M2 := m10_note) (as := [.int (gX G (i + 1)), .int (gX G (i + 2)), .int (bI (decide (¬ gX G (i + 3) = 0)))]) (kd := 10) rfl vL_132 ok10_note c2 k10 rfl rfl rfl rfl rfl hkc hks ?_
  refine gl_eq (tgt := 1410) rfl rfl ?_
  exact gl_sw (M2 := mL_0) rfl rfl rfl rfl mL_0_d (kk _ i2)
theorem cs_see (hi : i + 6 ≤ gL G) (hL : gL G ≤ 3072) (hI : Inv h B) (hB : B < 2 ^ 28) (h6 : 6 ≤ B) (hkc : kc ≤ 601024) (hks : ks ≤ 7293033) (kk : ∀ h2, Inv h2 (B + 2) → GL l G d mL_0 kc ks 1410 [.retAddr 100, .ref 0, .ref 102, .ref 145, .int (nI i), v5, v6] [] h2) : GL l G d mL_see kc ks 1070 [.retAddr 100, .ref 0, .ref 102, .ref 145, .int (nI i), v5, v6] [] h := by
  obtain ⟨I, J, K, P, S, im, SI, m, T, kn, u, Hs, t, f, fk, fp, rfl, hK, hv⟩ := hI
  obtain ⟨h1, c1, h2, c2, i2, k9, k10⟩ := tc_see (l := l) (G := G) (d := d) hK hv (gX G (i + 1)) (gX G (i + 2)) (decide (¬ gX G (i + 3) = 0))
  refine gl_aload rfl rfl ?_
  refine gl_aloadS rfl rfl ?_
  refine gl_iload rfl rfl ?_
  refine gl_iconst (v := nI 1) rfl ic_1N ?_
  refine gl_iaddN rfl ?_
  refine gl_sld rfl (by omega) (by omega) ?_
  refine gl_aloadS rfl rfl ?_
  refine gl_iload rfl rfl ?_
  refine gl_iconst (v := nI 2) rfl ic_2N ?_
  refine gl_iaddN rfl ?_
  refine gl_sld rfl (by omega) (by omega) ?_
  refine gl_aloadS rfl rfl ?_
  refine gl_iload rfl rfl ?_
  refine gl_iconst (v := nI 3) rfl ic_3N ?_
  refine gl_iaddN rfl ?_
  refine gl_sld rfl (by omega) (by omega) ?_
  refine gl_bool (p3 := 1096) (tgt := 1097) rfl rfl rfl rfl rfl rfl ?_
  refine gl_callV (M2 := m9_see) (as := [.int (gX G (i + 1)), .int (gX G (i + 2)), .int (bI (decide (¬ gX G (i + 3) = 0)))]) (kd := 9) rfl vL_133 ok9_see c1 k9 rfl rfl rfl rfl rfl hkc hks ?_
  refine gl_aload rfl rfl ?_
  refine gl_aloadS rfl rfl ?_
  refine gl_iload rfl rfl ?_
  refine gl_iconst (v := nI 1) rfl ic_1N ?_
  refine gl_iaddN rfl ?_
  refine gl_sld rfl (by omega) (by omega) ?_
  refine gl_aloadS rfl rfl ?_
  refine gl_iload rfl rfl ?_
  refine gl_iconst (v := nI 2) rfl ic_2N ?_
  refine gl_iaddN rfl ?_
  refine gl_sld rfl (by omega) (by omega) ?_
  refine gl_aloadS rfl rfl ?_
  refine gl_iload rfl rfl ?_
  refine gl_iconst (v := nI 3) rfl ic_3N ?_
  refine gl_iaddN rfl ?_
  refine gl_sld rfl (by omega) (by omega) ?_
  refine gl_bool (p3 := 1126) (tgt := 1127) rfl rfl rfl rfl rfl rfl ?_
  refine gl_callV (M2 := m10_see) (as := [.int (gX G (i + 1)), .int (gX G (i + 2)), .int (bI (decide (¬ gX G (i + 3) = 0)))]) (kd := 10) rfl vL_136 ok10_see c2 k10 rfl rfl rfl rfl rfl hkc hks ?_
  refine gl_eq (tgt := 1410) rfl rfl ?_
  exact gl_sw (M2 := mL_0) rfl rfl rfl rfl mL_0_d (kk _ i2)
theorem cs_strike (hi : i + 6 ≤ gL G) (hL : gL G ≤ 3072) (hI : Inv h B) (hB : B < 2 ^ 28) (h6 : 6 ≤ B) (hkc : kc ≤ 601024) (hks : ks ≤ 7293033) (kk : ∀ h2, Inv h2 (B + 2) → GL l G d mL_0 kc ks 1410 [.retAddr 100, .ref 0, .ref 102, .ref 145, .int (nI i), v5, v6] [] h2) : GL l G d mL_strike kc ks 1135 [.retAddr 100, .ref 0, .ref 102, .ref 145, .int (nI i), v5, v6] [] h := by
  obtain ⟨I, J, K, P, S, im, SI, m, T, kn, u, Hs, t, f, fk, fp, rfl, hK, hv⟩ := hI
  obtain ⟨h1, c1, h2, c2, i2, k9, k10⟩ := tc_strike (l := l) (G := G) (d := d) hK hv (gX G (i + 1))
  refine gl_aload rfl rfl ?_
  refine gl_aloadS rfl rfl ?_
  refine gl_iload rfl rfl ?_
  refine gl_iconst (v := nI 1) rfl ic_1N ?_
  refine gl_iaddN rfl ?_
  refine gl_sld rfl (by omega) (by omega) ?_
  refine gl_callV (M2 := m9_strike) (as := [.int (gX G (i + 1))]) (kd := 9) rfl vL_137 ok9_strike c1 k9 rfl rfl rfl rfl rfl hkc hks ?_
  refine gl_aload rfl rfl ?_
  refine gl_aloadS rfl rfl ?_
  refine gl_iload rfl rfl ?_
  refine gl_iconst (v := nI 1) rfl ic_1N ?_
  refine gl_iaddN rfl ?_
  refine gl_sld rfl (by omega) (by omega) ?_
  refine gl_callV (M2 := m10_strike) (as := [.int (gX G (i + 1))]) (kd := 10) rfl vL_140 ok10_strike c2 k10 rfl rfl rfl rfl rfl hkc hks ?_
  refine gl_eq (tgt := 1410) rfl rfl ?_
  exact gl_sw (M2 := mL_0) rfl rfl rfl rfl mL_0_d (kk _ i2)
theorem cs_known (hi : i + 6 ≤ gL G) (hL : gL G ≤ 3072) (hI : Inv h B) (hB : B < 2 ^ 28) (h6 : 6 ≤ B) (hkc : kc ≤ 601024) (hks : ks ≤ 7293033) (kk : ∀ h2, Inv h2 (B + 2) → GL l G d mL_0 kc ks 1410 [.retAddr 100, .ref 0, .ref 102, .ref 145, .int (nI i), v5, v6] [] h2) : GL l G d mL_known kc ks 1160 [.retAddr 100, .ref 0, .ref 102, .ref 145, .int (nI i), v5, v6] [] h := by
  obtain ⟨I, J, K, P, S, im, SI, m, T, kn, u, Hs, t, f, fk, fp, rfl, hK, hv⟩ := hI
  obtain ⟨h1, c1, h2, c2, i2, k9, k10⟩ := tc_known (l := l) (G := G) (d := d) hK hv (gX G (i + 1))
  refine gl_aload rfl rfl ?_
  refine gl_aloadS rfl rfl ?_
  refine gl_iload rfl rfl ?_
  refine gl_iconst (v := nI 1) rfl ic_1N ?_
  refine gl_iaddN rfl ?_
  refine gl_sld rfl (by omega) (by omega) ?_
  refine gl_callV (M2 := m9_known) (as := [.int (gX G (i + 1))]) (kd := 9) rfl vL_141 ok9_known c1 k9 rfl rfl rfl rfl rfl hkc hks ?_
  refine gl_aload rfl rfl ?_
  refine gl_aloadS rfl rfl ?_
  refine gl_iload rfl rfl ?_
  refine gl_iconst (v := nI 1) rfl ic_1N ?_
  refine gl_iaddN rfl ?_
  refine gl_sld rfl (by omega) (by omega) ?_
  refine gl_callV (M2 := m10_known) (as := [.int (gX G (i + 1))]) (kd := 10) rfl vL_145 ok10_known c2 k10 rfl rfl rfl rfl rfl hkc hks ?_
  refine gl_eq (tgt := 1410) rfl rfl ?_
  exact gl_sw (M2 := mL_0) rfl rfl rfl rfl mL_0_d (kk _ i2)
theorem cs_which (hi : i + 6 ≤ gL G) (hL : gL G ≤ 3072) (hI : Inv h B) (hB : B < 2 ^ 28) (h6 : 6 ≤ B) (hkc : kc ≤ 601024) (hks : ks ≤ 7293033) (kk : ∀ h2, Inv h2 (B + 2) → GL l G d mL_0 kc ks 1410 [.retAddr 100, .ref 0, .ref 102, .ref 145, .int (nI i), v5, v6] [] h2) : GL l G d mL_which kc ks 1185 [.retAddr 100, .ref 0, .ref 102, .ref 145, .int (nI i), v5, v6] [] h := by
  obtain ⟨I, J, K, P, S, im, SI, m, T, kn, u, Hs, t, f, fk, fp, rfl, hK, hv⟩ := hI
  obtain ⟨h1, c1, h2, c2, i2, k9, k10⟩ := tc_which (l := l) (G := G) (d := d) hK hv 
  refine gl_aload rfl rfl ?_
  refine gl_callV (M2 := m9_which) (as := []) (kd := 9) rfl vL_146 ok9_which c1 k9 rfl rfl rfl rfl rfl hkc hks ?_
  refine gl_aload rfl rfl ?_
  refine gl_callV (M2 := m10_which) (as := []) (kd := 10) rfl vL_149 ok10_which c2 k10 rfl rfl rfl rfl rfl hkc hks ?_
  refine gl_eq (tgt := 1410) rfl rfl ?_
  exact gl_sw (M2 := mL_0) rfl rfl rfl rfl mL_0_d (kk _ i2)
theorem cs_ask (hi : i + 6 ≤ gL G) (hL : gL G ≤ 3072) (hI : Inv h B) (hB : B < 2 ^ 28) (h6 : 6 ≤ B) (hkc : kc ≤ 601024) (hks : ks ≤ 7293033) (kk : ∀ h2, Inv h2 (B + 2) → GL l G d mL_0 kc ks 1410 [.retAddr 100, .ref 0, .ref 102, .ref 145, .int (nI i), v5, v6] [] h2) : GL l G d mL_ask kc ks 1198 [.retAddr 100, .ref 0, .ref 102, .ref 145, .int (nI i), v5, v6] [] h := by
  obtain ⟨I, J, K, P, S, im, SI, m, T, kn, u, Hs, t, f, fk, fp, rfl, hK, hv⟩ := hI
  obtain ⟨h1, c1, h2, c2, i2, k9, k10⟩ := tc_ask (l := l) (G := G) (d := d) hK hv (gX G (i + 1))
  refine gl_aload rfl rfl ?_
  refine gl_aloadS rfl rfl ?_
  refine gl_iload rfl rfl ?_
  refine gl_iconst (v := nI 1) rfl ic_1N ?_
  refine gl_iaddN rfl ?_
  refine gl_sld rfl (by omega) (by omega) ?_
  refine gl_callV (M2 := m9_ask) (as := [.int (gX G (i + 1))]) (kd := 9) rfl vL_150 ok9_ask c1 k9 rfl rfl rfl rfl rfl hkc hks ?_
  refine gl_aload rfl rfl ?_
  refine gl_aloadS rfl rfl ?_
  refine gl_iload rfl rfl ?_
  refine gl_iconst (v := nI 1) rfl ic_1N ?_
  refine gl_iaddN rfl ?_
  refine gl_sld rfl (by omega) (by omega) ?_
  refine gl_callV (M2 := m10_ask) (as := [.int (gX G (i + 1))]) (kd := 10) rfl vL_153 ok10_ask c2 k10 rfl rfl rfl rfl rfl hkc hks ?_
  refine gl_eq (tgt := 1410) rfl rfl ?_
  exact gl_sw (M2 := mL_0) rfl rfl rfl rfl mL_0_d (kk _ i2)
theorem cs_dented (hi : i + 6 ≤ gL G) (hL : gL G ≤ 3072) (hI : Inv h B) (hB : B < 2 ^ 28) (h6 : 6 ≤ B) (hkc : kc ≤ 601024) (hks : ks ≤ 7293033) (kk : ∀ h2, Inv h2 (B + 2) → GL l G d mL_0 kc ks 1410 [.retAddr 100, .ref 0, .ref 102, .ref 145, .int (nI i), v5, v6] [] h2) : GL l G d mL_dented kc ks 1223 [.retAddr 100, .ref 0, .ref 102, .ref 145, .int (nI i), v5, v6] [] h := by
  obtain ⟨I, J, K, P, S, im, SI, m, T, kn, u, Hs, t, f, fk, fp, rfl, hK, hv⟩ := hI
  obtain ⟨h1, c1, h2, c2, i2, k9, k10⟩ := tc_dented (l := l) (G := G) (d := d) hK hv (gX G (i + 1))
  refine gl_aload rfl rfl ?_
  refine gl_aloadS rfl rfl ?_
  refine gl_iload rfl rfl ?_
  refine gl_iconst (v := nI 1) rfl ic_1N ?_
  refine gl_iaddN rfl ?_
  refine gl_sld rfl (by omega) (by omega) ?_
  refine gl_callV (M2 := m9_dented) (as := [.int (gX G (i + 1))]) (kd := 9) rfl vL_154 ok9_dented c1 k9 rfl rfl rfl rfl rfl hkc hks ?_
  refine gl_aload rfl rfl ?_
  refine gl_aloadS rfl rfl ?_
  refine gl_iload rfl rfl ?_
  refine gl_iconst (v := nI 1) rfl ic_1N ?_
  refine gl_iaddN rfl ?_
  refine gl_sld rfl (by omega) (by omega) ?_
  refine gl_callV (M2 := m10_dented) (as := [.int (gX G (i + 1))]) (kd := 10) rfl vL_157 ok10_dented c2 k10 rfl rfl rfl rfl rfl hkc hks ?_
  refine gl_eq (tgt := 1410) rfl rfl ?_
  exact gl_sw (M2 := mL_0) rfl rfl rfl rfl mL_0_d (kk _ i2)
theorem cs_chance (hi : i + 6 ≤ gL G) (hL : gL G ≤ 3072) (hI : Inv h B) (hB : B < 2 ^ 28) (h6 : 6 ≤ B) (hkc : kc ≤ 601024) (hks : ks ≤ 7293033) (kk : ∀ h2, Inv h2 (B + 2) → GL l G d mL_0 kc ks 1410 [.retAddr 100, .ref 0, .ref 102, .ref 145, .int (nI i), v5, v6] [] h2) : GL l G d mL_chance kc ks 1248 [.retAddr 100, .ref 0, .ref 102, .ref 145, .int (nI i), v5, v6] [] h := by
  obtain ⟨I, J, K, P, S, im, SI, m, T, kn, u, Hs, t, f, fk, fp, rfl, hK, hv⟩ := hI
  obtain ⟨h1, c1, h2, c2, i2, k9, k10⟩ := tc_chance (l := l) (G := G) (d := d) hK hv (gX G (i + 1)) (gX G (i + 2)) (gX G (i + 3))
  refine gl_aload rfl rfl ?_
  refine gl_aloadS rfl rfl ?_
  refine gl_iload rfl rfl ?_
  refine gl_iconst (v := nI 1) rfl ic_1N ?_
  refine gl_iaddN rfl ?_
  refine gl_sld rfl (by omega) (by omega) ?_
  refine gl_aloadS rfl rfl ?_
  refine gl_iload rfl rfl ?_
  refine gl_iconst (v := nI 2) rfl ic_2N ?_
  refine gl_iaddN rfl ?_
  refine gl_sld rfl (by omega) (by omega) ?_
  refine gl_aloadS rfl rfl ?_
  refine gl_iload rfl rfl ?_
  refine gl_iconst (v := nI 3) rfl ic_3N ?_
  refine gl_iaddN rfl ?_
  refine gl_sld rfl (by omega) (by omega) ?_
  refine gl_callV (M2 := m9_chance) (as := [.int (gX G (i + 1)), .int (gX G (i + 2)), .int (gX G (i + 3))]) (kd := 9) rfl vL_158 ok9_chance c1 k9 rfl rfl rfl rfl rfl hkc hks ?_
  refine gl_aload rfl rfl ?_
  refine gl_aloadS rfl rfl ?_
  refine gl_iload rfl rfl ?_
  refine gl_iconst (v := nI 1) rfl ic_1N ?_
  refine gl_iaddN rfl ?_
  refine gl_sld rfl (by omega) (by omega) ?_
  refine gl_aloadS rfl rfl ?_
  refine gl_iload rfl rfl ?_
  refine gl_iconst (v := nI 2) rfl ic_2N ?_
  refine gl_iaddN rfl ?_
  refine gl_sld rfl (by omega) (by omega) ?_
  refine gl_aloadS rfl rfl ?_
  refine gl_iload rfl rfl ?_
  refine gl_iconst (v := nI 3) rfl ic_3N ?_
  refine gl_iaddN rfl ?_
  refine gl_sld rfl (by omega) (by omega) ?_
  refine gl_callV (M2 := m10_chance) (as := [.int (gX G (i + 1)), .int (gX G (i + 2)), .int (gX G (i + 3))]) (kd := 10) rfl vL_162 ok10_chance c2 k10 rfl rfl rfl rfl rfl hkc hks ?_
  refine gl_eq (tgt := 1410) rfl rfl ?_
  exact gl_sw (M2 := mL_0) rfl rfl rfl rfl mL_0_d (kk _ i2)
theorem cs_tried (hi : i + 6 ≤ gL G) (hL : gL G ≤ 3072) (hI : Inv h B) (hB : B < 2 ^ 28) (h6 : 6 ≤ B) (hkc : kc ≤ 601024) (hks : ks ≤ 7293033) (kk : ∀ h2, Inv h2 (B + 2) → GL l G d mL_0 kc ks 1410 [.retAddr 100, .ref 0, .ref 102, .ref 145, .int (nI i), v5, v6] [] h2) : GL l G d mL_tried kc ks 1297 [.retAddr 100, .ref 0, .ref 102, .ref 145, .int (nI i), v5, v6] [] h := by
  obtain ⟨I, J, K, P, S, im, SI, m, T, kn, u, Hs, t, f, fk, fp, rfl, hK, hv⟩ := hI
  obtain ⟨h1, c1, h2, c2, i2, k9, k10⟩ := tc_tried (l := l) (G := G) (d := d) hK hv (gX G (i + 1)) (gX G (i + 2)) (gX G (i + 3))
  refine gl_aload rfl rfl ?_
  refine gl_aloadS rfl rfl ?_
  refine gl_iload rfl rfl ?_
  refine gl_iconst (v := nI 1) rfl ic_1N ?_
  refine gl_iaddN rfl ?_
  refine gl_sld rfl (by omega) (by omega) ?_
  refine gl_aloadS rfl rfl ?_
  refine gl_iload rfl rfl ?_
  refine gl_iconst (v := nI 2) rfl ic_2N ?_
  refine gl_iaddN rfl ?_
  refine gl_sld rfl (by omega) (by omega) ?_
  refine gl_aloadS rfl rfl ?_
  refine gl_iload rfl rfl ?_
  refine gl_iconst (v := nI 3) rfl ic_3N ?_
  refine gl_iaddN rfl ?_
  refine gl_sld rfl (by omega) (by omega) ?_
  refine gl_callV (M2 := m9_tried) (as := [.int (gX G (i + 1)), .int (gX G (i + 2)), .int (gX G (i + 3))]) (kd := 9) rfl vL_163 ok9_tried c1 k9 rfl rfl rfl rfl rfl hkc hks ?_
  refine gl_aload rfl rfl ?_
  refine gl_aloadS rfl rfl ?_
  refine gl_iload rfl rfl ?_
  refine gl_iconst (v := nI 1) rfl ic_1N ?_
  refine gl_iaddN rfl ?_
  refine gl_sld rfl (by omega) (by omega) ?_
  refine gl_aloadS rfl rfl ?_
  refine gl_iload rfl rfl ?_
  refine gl_iconst (v := nI 2) rfl ic_2N ?_
  refine gl_iaddN rfl ?_
  refine gl_sld rfl (by omega) (by omega) ?_
  refine gl_aloadS rfl rfl ?_
  refine gl_iload rfl rfl ?_
  refine gl_iconst (v := nI 3) rfl ic_3N ?_
  refine gl_iaddN rfl ?_
  refine gl_sld rfl (by omega) (by omega) ?_
  refine gl_callV (M2 := m10_tried) (as := [.int (gX G (i + 1)), .int (gX G (i + 2)), .int (gX G (i + 3))]) (kd := 10) rfl vL_166 ok10_tried c2 k10 rfl rfl rfl rfl rfl hkc hks ?_
  refine gl_eq (tgt := 1410) rfl rfl ?_
  exact gl_sw (M2 := mL_0) rfl rfl rfl rfl mL_0_d (kk _ i2)
theorem cs_undo (hi : i + 6 ≤ gL G) (hL : gL G ≤ 3072) (hI : Inv h B) (hB : B < 2 ^ 28) (h6 : 6 ≤ B) (hkc : kc ≤ 601024) (hks : ks ≤ 7293033) (kk : ∀ h2, Inv h2 (B + 2) → GL l G d mL_0 kc ks 1410 [.retAddr 100, .ref 0, .ref 102, .ref 145, .int (nI i), v5, v6] [] h2) : GL l G d mL_undo kc ks 1346 [.retAddr 100, .ref 0, .ref 102, .ref 145, .int (nI i), v5, v6] [] h := by
  obtain ⟨I, J, K, P, S, im, SI, m, T, kn, u, Hs, t, f, fk, fp, rfl, hK, hv⟩ := hI
  obtain ⟨h1, c1, h2, c2, i2, k9, k10⟩ := tc_undo (l := l) (G := G) (d := d) hK hv 
  refine gl_aload rfl rfl ?_
  refine gl_callV (M2 := m9_undo) (as := []) (kd := 9) rfl vL_167 ok9_undo c1 k9 rfl rfl rfl rfl rfl hkc hks ?_
  refine gl_aload rfl rfl ?_
  refine gl_callV (M2 := m10_undo) (as := []) (kd := 10) rfl vL_170 ok10_undo c2 k10 rfl rfl rfl rfl rfl hkc hks ?_
  refine gl_eq (tgt := 1410) rfl rfl ?_
  exact gl_sw (M2 := mL_0) rfl rfl rfl rfl mL_0_d (kk _ i2)
theorem cs_keep (hi : i + 6 ≤ gL G) (hL : gL G ≤ 3072) (hI : Inv h B) (hB : B < 2 ^ 28) (h6 : 6 ≤ B) (hkc : kc ≤ 601024) (hks : ks ≤ 7293033) (kk : ∀ h2, Inv h2 (B + 2) → GL l G d mL_0 kc ks 1410 [.retAddr 100, .ref 0, .ref 102, .ref 145, .int (nI i), v5, v6] [] h2) : GL l G d mL_keep kc ks 1359 [.retAddr 100, .ref 0, .ref 102, .ref 145, .int (nI i), v5, v6] [] h := by
  obtain ⟨I, J, K, P, S, im, SI, m, T, kn, u, Hs, t, f, fk, fp, rfl, hK, hv⟩ := hI
  obtain ⟨h1, c1, h2, c2, i2, k9, k10⟩ := tc_keep (l := l) (G := G) (d := d) hK hv 
  refine gl_aload rfl rfl ?_
  refine gl_callV (M2 := m9_keep) (as := []) (kd := 9) rfl vL_171 ok9_keep c1 k9 rfl rfl rfl rfl rfl hkc hks ?_
  refine gl_aload rfl rfl ?_
  refine gl_callV (M2 := m10_keep) (as := []) (kd := 10) rfl vL_174 ok10_keep c2 k10 rfl rfl rfl rfl rfl hkc hks ?_
  refine gl_eq (tgt := 1410) rfl rfl ?_
  exact gl_sw (M2 := mL_0) rfl rfl rfl rfl mL_0_d (kk _ i2)
theorem cs_back (hi : i + 6 ≤ gL G) (hL : gL G ≤ 3072) (hI : Inv h B) (hB : B < 2 ^ 28) (h6 : 6 ≤ B) (hkc : kc ≤ 601024) (hks : ks ≤ 7293033) (kk : ∀ h2, Inv h2 (B + 2) → GL l G d mL_0 kc ks 1410 [.retAddr 100, .ref 0, .ref 102, .ref 145, .int (nI i), v5, v6] [] h2) : GL l G d mL_back kc ks 1372 [.retAddr 100, .ref 0, .ref 102, .ref 145, .int (nI i), v5, v6] [] h := by
  obtain ⟨I, J, K, P, S, im, SI, m, T, kn, u, Hs, t, f, fk, fp, rfl, hK, hv⟩ := hI
  obtain ⟨h1, c1, h2, c2, i2, k9, k10⟩ := tc_back (l := l) (G := G) (d := d) hK hv 
  refine gl_aload rfl rfl ?_
  refine gl_callV (M2 := m9_back) (as := []) (kd := 9) rfl vL_175 ok9_back c1 k9 rfl rfl rfl rfl rfl hkc hks ?_
  refine gl_aload rfl rfl ?_
  refine gl_callV (M2 := m10_back) (as := []) (kd := 10) rfl vL_178 ok10_back c2 k10 rfl rfl rfl rfl rfl hkc hks ?_
  refine gl_eq (tgt := 1410) rfl rfl ?_
  exact gl_sw (M2 := mL_0) rfl rfl rfl rfl mL_0_d (kk _ i2)
theorem cs_count (hi : i + 6 ≤ gL G) (hL : gL G ≤ 3072) (hI : Inv h B) (hB : B < 2 ^ 28) (h6 : 6 ≤ B) (hkc : kc ≤ 601024) (hks : ks ≤ 7293033) (kk : ∀ h2, Inv h2 (B + 2) → GL l G d mL_0 kc ks 1410 [.retAddr 100, .ref 0, .ref 102, .ref 145, .int (nI i), v5, v6] [] h2) : GL l G d mL_count kc ks 1385 [.retAddr 100, .ref 0, .ref 102, .ref 145, .int (nI i), v5, v6] [] h := by
  obtain ⟨I, J, K, P, S, im, SI, m, T, kn, u, Hs, t, f, fk, fp, rfl, hK, hv⟩ := hI
  obtain ⟨h1, c1, h2, c2, i2, k9, k10⟩ := tc_count (l := l) (G := G) (d := d) hK hv (gX G (i + 1))
  refine gl_aload rfl rfl ?_
  refine gl_aloadS rfl rfl ?_
  refine gl_iload rfl rfl ?_
  refine gl_iconst (v := nI 1) rfl ic_1N ?_
  refine gl_iaddN rfl ?_
  refine gl_sld rfl (by omega) (by omega) ?_
  refine gl_callV (M2 := m9_count) (as := [.int (gX G (i + 1))]) (kd := 9) rfl vL_179 ok9_count c1 k9 rfl rfl rfl rfl rfl hkc hks ?_
  refine gl_aload rfl rfl ?_
  refine gl_aloadS rfl rfl ?_
  refine gl_iload rfl rfl ?_
  refine gl_iconst (v := nI 1) rfl ic_1N ?_
  refine gl_iaddN rfl ?_
  refine gl_sld rfl (by omega) (by omega) ?_
  refine gl_callV (M2 := m10_count) (as := [.int (gX G (i + 1))]) (kd := 10) rfl vL_182 ok10_count c2 k10 rfl rfl rfl rfl rfl hkc hks ?_
  refine gl_eq (tgt := 1410) rfl rfl ?_
  exact gl_sw (M2 := mL_0) rfl rfl rfl rfl mL_0_d (kk _ i2)
end LawCases
