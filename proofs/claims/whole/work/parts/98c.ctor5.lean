/-! ===== the reference at its beginning ===== -/
theorem kk_aN {h h' : Hp} (e : h.2.2 = h'.2.2) (a k kd n : Nat) : (aN h a k kd n).2.2 = (aN h' a k kd n).2.2 := by
  obtain ⟨I, J, K⟩ := h; obtain ⟨I', J', K'⟩ := h'; dsimp only at e; subst e; rfl
theorem kk_nA {h h' : Hp} (e : h.2.2 = h'.2.2) (kd n : Nat) : (nA h kd n).2.2 = (nA h' kd n).2.2 := by
  obtain ⟨I, J, K⟩ := h; obtain ⟨I', J', K'⟩ := h'; dsimp only at e; subst e; rfl
section ModL
variable {h h' : Hp} {a b c x : Nat}
theorem kk_mo1 (e : h.2.2 = h'.2.2) : (mo1 h a).2.2 = (mo1 h' a).2.2 := kk_aN e _ _ _ _
theorem kJ_mo1 (hc : c ≠ mN (mo0 h a)) : mJ (mo1 h a) c x = mJ (mo0 h a) c x := if_neg hc
theorem kk_mo2 (e : h.2.2 = h'.2.2) : (mo2 h a).2.2 = (mo2 h' a).2.2 := kk_aN (kk_mo1 e) a 3 20 16
theorem kJ_mo2 (hc : c ≠ mN (mo1 h a)) : mJ (mo2 h a) c x = mJ (mo1 h a) c x := if_neg hc
theorem kk_mo3 (e : h.2.2 = h'.2.2) : (mo3 h a).2.2 = (mo3 h' a).2.2 := kk_aN (kk_mo2 e) _ _ _ _
theorem kJ_mo3 (hc : c ≠ mN (mo2 h a)) : mJ (mo3 h a) c x = mJ (mo2 h a) c x := if_neg hc
theorem kk_mo4 (e : h.2.2 = h'.2.2) : (mo4 h a).2.2 = (mo4 h' a).2.2 := kk_aN (kk_mo3 e) _ _ _ _
theorem kJ_mo4 (hc : c ≠ mN (mo3 h a)) : mJ (mo4 h a) c x = mJ (mo3 h a) c x := if_neg hc
theorem kk_mo5 (e : h.2.2 = h'.2.2) : (mo5 h a).2.2 = (mo5 h' a).2.2 := kk_aN (kk_mo4 e) _ _ _ _
theorem kJ_mo5 (hc : c ≠ mN (mo4 h a)) : mJ (mo5 h a) c x = mJ (mo4 h a) c x := if_neg hc
theorem kk_mo6 (e : h.2.2 = h'.2.2) : (mo6 h a).2.2 = (mo6 h' a).2.2 := kk_aN (kk_mo5 e) _ _ _ _
theorem kJ_mo6 (hc : c ≠ mN (mo5 h a)) : mJ (mo6 h a) c x = mJ (mo5 h a) c x := if_neg hc
theorem kk_mo7 (e : h.2.2 = h'.2.2) : (mo7 h a).2.2 = (mo7 h' a).2.2 := kk_aN (kk_mo6 e) _ _ _ _
theorem kJ_mo7 (hc : c ≠ mN (mo6 h a)) : mJ (mo7 h a) c x = mJ (mo6 h a) c x := if_neg hc
theorem kk_mo8 (e : h.2.2 = h'.2.2) : (mo8 h a).2.2 = (mo8 h' a).2.2 := kk_aN (kk_mo7 e) _ _ _ _
theorem kJ_mo8 (hc : c ≠ mN (mo7 h a)) : mJ (mo8 h a) c x = mJ (mo7 h a) c x := if_neg hc
theorem kk_mo9 (e : h.2.2 = h'.2.2) : (mo9 h a).2.2 = (mo9 h' a).2.2 := kk_aN (kk_mo8 e) _ _ _ _
theorem kJ_mo9 (hc : c ≠ mN (mo8 h a)) : mJ (mo9 h a) c x = mJ (mo8 h a) c x := if_neg hc
theorem kk_mo10 (e : h.2.2 = h'.2.2) : (mo10 h a).2.2 = (mo10 h' a).2.2 := kk_aN (kk_mo9 e) _ _ _ _
theorem kJ_mo10 (hc : c ≠ mN (mo9 h a)) : mJ (mo10 h a) c x = mJ (mo9 h a) c x := if_neg hc
theorem kk_mo11 (e : h.2.2 = h'.2.2) : (mo11 h a).2.2 = (mo11 h' a).2.2 := kk_aN (kk_mo10 e) _ _ _ _
theorem kJ_mo11 (hc : c ≠ mN (mo10 h a)) : mJ (mo11 h a) c x = mJ (mo10 h a) c x := if_neg hc
theorem kk_mo12 (e : h.2.2 = h'.2.2) : (mo12 h a).2.2 = (mo12 h' a).2.2 := kk_aN (kk_mo11 e) _ _ _ _
theorem kJ_mo12 (hc : c ≠ mN (mo11 h a)) : mJ (mo12 h a) c x = mJ (mo11 h a) c x := if_neg hc
theorem kk_mo13 (e : h.2.2 = h'.2.2) : (mo13 h a).2.2 = (mo13 h' a).2.2 := kk_aN (kk_mo12 e) _ _ _ _
theorem kJ_mo13 (hc : c ≠ mN (mo12 h a)) : mJ (mo13 h a) c x = mJ (mo12 h a) c x := if_neg hc
theorem kk_mo14 (e : h.2.2 = h'.2.2) : (mo14 h a).2.2 = (mo14 h' a).2.2 := kk_aN (kk_mo13 e) _ _ _ _
theorem kJ_mo14 (hc : c ≠ mN (mo13 h a)) : mJ (mo14 h a) c x = mJ (mo13 h a) c x := if_neg hc
theorem kk_mo15 (e : h.2.2 = h'.2.2) : (mo15 h a).2.2 = (mo15 h' a).2.2 := kk_aN (kk_mo14 e) _ _ _ _
theorem kJ_mo15 (hc : c ≠ mN (mo14 h a)) : mJ (mo15 h a) c x = mJ (mo14 h a) c x := if_neg hc
theorem kk_mo16 (e : h.2.2 = h'.2.2) : (mo16 h a).2.2 = (mo16 h' a).2.2 := kk_aN (kk_mo15 e) _ _ _ _
theorem kJ_mo16 (hc : c ≠ mN (mo15 h a)) : mJ (mo16 h a) c x = mJ (mo15 h a) c x := if_neg hc
theorem kk_mo17 (e : h.2.2 = h'.2.2) : (mo17 h a).2.2 = (mo17 h' a).2.2 := kk_aN (kk_mo16 e) _ _ _ _
theorem kJ_mo17 (hc : c ≠ mN (mo16 h a)) : mJ (mo17 h a) c x = mJ (mo16 h a) c x := if_neg hc
theorem kk_mo18 (e : h.2.2 = h'.2.2) : (mo18 h a).2.2 = (mo18 h' a).2.2 := kk_aN (kk_mo17 e) _ _ _ _
theorem kJ_mo18 (hc : c ≠ mN (mo17 h a)) : mJ (mo18 h a) c x = mJ (mo17 h a) c x := if_neg hc
theorem kk_mo19 (e : h.2.2 = h'.2.2) : (mo19 h a).2.2 = (mo19 h' a).2.2 := kk_aN (kk_mo18 e) _ _ _ _
theorem kJ_mo19 (hc : c ≠ mN (mo18 h a)) : mJ (mo19 h a) c x = mJ (mo18 h a) c x := if_neg hc
theorem kk_mo20 (e : h.2.2 = h'.2.2) : (mo20 h a).2.2 = (mo20 h' a).2.2 := (kk_mo19 e)
theorem kJ_mo20 : mJ (mo20 h a) c x = mJ (mo19 h a) c x := rfl
theorem kk_mo21 (e : h.2.2 = h'.2.2) : (mo21 h a).2.2 = (mo21 h' a).2.2 := kk_aN (kk_mo20 e) _ _ _ _
theorem kJ_mo21 (hc : c ≠ mN (mo20 h a)) : mJ (mo21 h a) c x = mJ (mo20 h a) c x := if_neg hc
theorem kk_mo22 (e : h.2.2 = h'.2.2) : (mo22 h a).2.2 = (mo22 h' a).2.2 := kk_aN (kk_mo21 e) _ _ _ _
theorem kJ_mo22 (hc : c ≠ mN (mo21 h a)) : mJ (mo22 h a) c x = mJ (mo21 h a) c x := if_neg hc
theorem kk_mo23 (e : h.2.2 = h'.2.2) : (mo23 h a).2.2 = (mo23 h' a).2.2 := kk_aN (kk_mo22 e) _ _ _ _
theorem kJ_mo23 (hc : c ≠ mN (mo22 h a)) : mJ (mo23 h a) c x = mJ (mo22 h a) c x := if_neg hc
theorem kk_mo24 (e : h.2.2 = h'.2.2) : (mo24 h a).2.2 = (mo24 h' a).2.2 := kk_aN (kk_mo23 e) _ _ _ _
theorem kJ_mo24 (hc : c ≠ mN (mo23 h a)) : mJ (mo24 h a) c x = mJ (mo23 h a) c x := if_neg hc
theorem kk_mo25 (e : h.2.2 = h'.2.2) : (mo25 h a).2.2 = (mo25 h' a).2.2 := kk_aN (kk_mo24 e) _ _ _ _
theorem kJ_mo25 (hc : c ≠ mN (mo24 h a)) : mJ (mo25 h a) c x = mJ (mo24 h a) c x := if_neg hc
theorem kk_mo26 (e : h.2.2 = h'.2.2) : (mo26 h a).2.2 = (mo26 h' a).2.2 := kk_aN (kk_mo25 e) _ _ _ _
theorem kJ_mo26 (hc : c ≠ mN (mo25 h a)) : mJ (mo26 h a) c x = mJ (mo25 h a) c x := if_neg hc
theorem kk_mo27 (e : h.2.2 = h'.2.2) : (mo27 h a).2.2 = (mo27 h' a).2.2 := kk_aN (kk_mo26 e) _ _ _ _
theorem kJ_mo27 (hc : c ≠ mN (mo26 h a)) : mJ (mo27 h a) c x = mJ (mo26 h a) c x := if_neg hc
theorem kk_mo28 (e : h.2.2 = h'.2.2) : (mo28 h a).2.2 = (mo28 h' a).2.2 := kk_aN (kk_mo27 e) _ _ _ _
theorem kJ_mo28 (hc : c ≠ mN (mo27 h a)) : mJ (mo28 h a) c x = mJ (mo27 h a) c x := if_neg hc
theorem kk_mo29 (e : h.2.2 = h'.2.2) : (mo29 h a).2.2 = (mo29 h' a).2.2 := kk_aN (kk_mo28 e) _ _ _ _
theorem kJ_mo29 (hc : c ≠ mN (mo28 h a)) : mJ (mo29 h a) c x = mJ (mo28 h a) c x := if_neg hc
theorem kk_mo30 (e : h.2.2 = h'.2.2) : (mo30 h a).2.2 = (mo30 h' a).2.2 := kk_aN (kk_mo29 e) _ _ _ _
theorem kJ_mo30 (hc : c ≠ mN (mo29 h a)) : mJ (mo30 h a) c x = mJ (mo29 h a) c x := if_neg hc
theorem kk_mo31 (e : h.2.2 = h'.2.2) : (mo31 h a).2.2 = (mo31 h' a).2.2 := kk_aN (kk_mo30 e) _ _ _ _
theorem kJ_mo31 (hc : c ≠ mN (mo30 h a)) : mJ (mo31 h a) c x = mJ (mo30 h a) c x := if_neg hc
theorem kk_mo32 (e : h.2.2 = h'.2.2) : (mo32 h a).2.2 = (mo32 h' a).2.2 := kk_aN (kk_mo31 e) _ _ _ _
theorem kJ_mo32 (hc : c ≠ mN (mo31 h a)) : mJ (mo32 h a) c x = mJ (mo31 h a) c x := if_neg hc
theorem kk_mo33 (e : h.2.2 = h'.2.2) : (mo33 h a).2.2 = (mo33 h' a).2.2 := kk_aN (kk_mo32 e) _ _ _ _
theorem kJ_mo33 (hc : c ≠ mN (mo32 h a)) : mJ (mo33 h a) c x = mJ (mo32 h a) c x := if_neg hc
theorem kk_mo34 (e : h.2.2 = h'.2.2) : (mo34 h a).2.2 = (mo34 h' a).2.2 := kk_aN (kk_mo33 e) _ _ _ _
theorem kJ_mo34 (hc : c ≠ mN (mo33 h a)) : mJ (mo34 h a) c x = mJ (mo33 h a) c x := if_neg hc
theorem kk_mo35 (e : h.2.2 = h'.2.2) : (mo35 h a).2.2 = (mo35 h' a).2.2 := kk_aN (kk_mo34 e) _ _ _ _
theorem kJ_mo35 (hc : c ≠ mN (mo34 h a)) : mJ (mo35 h a) c x = mJ (mo34 h a) c x := if_neg hc
theorem kk_mo36 (e : h.2.2 = h'.2.2) : (mo36 h a).2.2 = (mo36 h' a).2.2 := (kk_mo35 e)
theorem kJ_mo36 : mJ (mo36 h a) c x = mJ (mo35 h a) c x := rfl
theorem kk_mo37 (e : h.2.2 = h'.2.2) : (mo37 h a).2.2 = (mo37 h' a).2.2 := kk_aN (kk_mo36 e) _ _ _ _
theorem kJ_mo37 (hc : c ≠ mN (mo36 h a)) : mJ (mo37 h a) c x = mJ (mo36 h a) c x := if_neg hc
theorem kk_mo38 (e : h.2.2 = h'.2.2) : (mo38 h a).2.2 = (mo38 h' a).2.2 := kk_aN (kk_mo37 e) _ _ _ _
theorem kJ_mo38 (hc : c ≠ mN (mo37 h a)) : mJ (mo38 h a) c x = mJ (mo37 h a) c x := if_neg hc
theorem kk_mo39 (e : h.2.2 = h'.2.2) : (mo39 h a).2.2 = (mo39 h' a).2.2 := kk_aN (kk_mo38 e) _ _ _ _
theorem kJ_mo39 (hc : c ≠ mN (mo38 h a)) : mJ (mo39 h a) c x = mJ (mo38 h a) c x := if_neg hc
theorem kk_mo40 (e : h.2.2 = h'.2.2) : (mo40 h a).2.2 = (mo40 h' a).2.2 := (kk_mo39 e)
theorem kJ_mo40 : mJ (mo40 h a) c x = mJ (mo39 h a) c x := rfl
theorem kk_mo41 (e : h.2.2 = h'.2.2) : (mo41 h a).2.2 = (mo41 h' a).2.2 := kk_aN (kk_mo40 e) _ _ _ _
theorem kJ_mo41 (hc : c ≠ mN (mo40 h a)) : mJ (mo41 h a) c x = mJ (mo40 h a) c x := if_neg hc
theorem kk_mo42 (e : h.2.2 = h'.2.2) : (mo42 h a).2.2 = (mo42 h' a).2.2 := kk_aN (kk_mo41 e) _ _ _ _
theorem kJ_mo42 (hc : c ≠ mN (mo41 h a)) : mJ (mo42 h a) c x = mJ (mo41 h a) c x := if_neg hc
theorem kk_mo43 (e : h.2.2 = h'.2.2) : (mo43 h a).2.2 = (mo43 h' a).2.2 := kk_aN (kk_mo42 e) _ _ _ _
theorem kJ_mo43 (hc : c ≠ mN (mo42 h a)) : mJ (mo43 h a) c x = mJ (mo42 h a) c x := if_neg hc
theorem kk_mo44 (e : h.2.2 = h'.2.2) : (mo44 h a).2.2 = (mo44 h' a).2.2 := kk_aN (kk_mo43 e) _ _ _ _
theorem kJ_mo44 (hc : c ≠ mN (mo43 h a)) : mJ (mo44 h a) c x = mJ (mo43 h a) c x := if_neg hc
theorem kk_mo45 (e : h.2.2 = h'.2.2) : (mo45 h a).2.2 = (mo45 h' a).2.2 := kk_aN (kk_mo44 e) _ _ _ _
theorem kJ_mo45 (hc : c ≠ mN (mo44 h a)) : mJ (mo45 h a) c x = mJ (mo44 h a) c x := if_neg hc
theorem fr_mo (hc : c < mN h) (ha : c ≠ a) : mI (mo45 h a) c x = mI h c x ∧ mJ (mo45 h a) c x = mJ h c x := by
  constructor
  · rw [kI_mo45 (by rw [mN_mo44]; omega), kI_mo44 (by rw [mN_mo43]; omega), kI_mo43 (by rw [mN_mo42]; omega), kI_mo42 (by rw [mN_mo41]; omega), kI_mo41 (by rw [mN_mo40]; omega), kI_mo40 (by omega), kI_mo39 (by rw [mN_mo38]; omega), kI_mo38 (by rw [mN_mo37]; omega), kI_mo37 (by rw [mN_mo36]; omega), kI_mo36 (by omega), kI_mo35 (by rw [mN_mo34]; omega), kI_mo34 (by rw [mN_mo33]; omega), kI_mo33 (by rw [mN_mo32]; omega), kI_mo32 (by rw [mN_mo31]; omega), kI_mo31 (by rw [mN_mo30]; omega), kI_mo30 (by rw [mN_mo29]; omega), kI_mo29 (by rw [mN_mo28]; omega), kI_mo28 (by rw [mN_mo27]; omega), kI_mo27 (by rw [mN_mo26]; omega), kI_mo26 (by rw [mN_mo25]; omega), kI_mo25 (by rw [mN_mo24]; omega), kI_mo24 (by rw [mN_mo23]; omega), kI_mo23 (by rw [mN_mo22]; omega), kI_mo22 (by rw [mN_mo21]; omega), kI_mo21 (by rw [mN_mo20]; omega), kI_mo20 (by omega), kI_mo19 (by rw [mN_mo18]; omega), kI_mo18 (by rw [mN_mo17]; omega), kI_mo17 (by rw [mN_mo16]; omega), kI_mo16 (by rw [mN_mo15]; omega), kI_mo15 (by rw [mN_mo14]; omega), kI_mo14 (by rw [mN_mo13]; omega), kI_mo13 (by rw [mN_mo12]; omega), kI_mo12 (by rw [mN_mo11]; omega), kI_mo11 (by rw [mN_mo10]; omega), kI_mo10 (by rw [mN_mo9]; omega), kI_mo9 (by rw [mN_mo8]; omega), kI_mo8 (by rw [mN_mo7]; omega), kI_mo7 (by rw [mN_mo6]; omega), kI_mo6 (by rw [mN_mo5]; omega), kI_mo5 (by rw [mN_mo4]; omega), kI_mo4 (by rw [mN_mo3]; omega), kI_mo3 (by rw [mN_mo2]; omega), kI_mo2 (by rw [mN_mo1]; omega), kI_mo1 (by show _ ≠ mN h; omega)]; rfl
  · rw [kJ_mo45 (by rw [mN_mo44]; omega), kJ_mo44 (by rw [mN_mo43]; omega), kJ_mo43 (by rw [mN_mo42]; omega), kJ_mo42 (by rw [mN_mo41]; omega), kJ_mo41 (by rw [mN_mo40]; omega), kJ_mo40, kJ_mo39 (by rw [mN_mo38]; omega), kJ_mo38 (by rw [mN_mo37]; omega), kJ_mo37 (by rw [mN_mo36]; omega), kJ_mo36, kJ_mo35 (by rw [mN_mo34]; omega), kJ_mo34 (by rw [mN_mo33]; omega), kJ_mo33 (by rw [mN_mo32]; omega), kJ_mo32 (by rw [mN_mo31]; omega), kJ_mo31 (by rw [mN_mo30]; omega), kJ_mo30 (by rw [mN_mo29]; omega), kJ_mo29 (by rw [mN_mo28]; omega), kJ_mo28 (by rw [mN_mo27]; omega), kJ_mo27 (by rw [mN_mo26]; omega), kJ_mo26 (by rw [mN_mo25]; omega), kJ_mo25 (by rw [mN_mo24]; omega), kJ_mo24 (by rw [mN_mo23]; omega), kJ_mo23 (by rw [mN_mo22]; omega), kJ_mo22 (by rw [mN_mo21]; omega), kJ_mo21 (by rw [mN_mo20]; omega), kJ_mo20, kJ_mo19 (by rw [mN_mo18]; omega), kJ_mo18 (by rw [mN_mo17]; omega), kJ_mo17 (by rw [mN_mo16]; omega), kJ_mo16 (by rw [mN_mo15]; omega), kJ_mo15 (by rw [mN_mo14]; omega), kJ_mo14 (by rw [mN_mo13]; omega), kJ_mo13 (by rw [mN_mo12]; omega), kJ_mo12 (by rw [mN_mo11]; omega), kJ_mo11 (by rw [mN_mo10]; omega), kJ_mo10 (by rw [mN_mo9]; omega), kJ_mo9 (by rw [mN_mo8]; omega), kJ_mo8 (by rw [mN_mo7]; omega), kJ_mo7 (by rw [mN_mo6]; omega), kJ_mo6 (by rw [mN_mo5]; omega), kJ_mo5 (by rw [mN_mo4]; omega), kJ_mo4 (by rw [mN_mo3]; omega), kJ_mo3 (by rw [mN_mo2]; omega), kJ_mo2 (by rw [mN_mo1]; omega), kJ_mo1 (by show _ ≠ mN h; omega)]; rfl
theorem ob_mo (ha : a < mN h) (hx : x ≠ 31 ∧ x ≠ 53 ∧ x ≠ 60) : mI (mo45 h a) a x = mI h a x := by
  rw [kI_mo45 (by rw [mN_mo44]; omega), kI_mo44 (by rw [mN_mo43]; omega), kI_mo43 (by rw [mN_mo42]; omega), kI_mo42 (by rw [mN_mo41]; omega), kI_mo41 (by rw [mN_mo40]; omega), kI_mo40 (by omega), kI_mo39 (by rw [mN_mo38]; omega), kI_mo38 (by rw [mN_mo37]; omega), kI_mo37 (by rw [mN_mo36]; omega), kI_mo36 (by omega), kI_mo35 (by rw [mN_mo34]; omega), kI_mo34 (by rw [mN_mo33]; omega), kI_mo33 (by rw [mN_mo32]; omega), kI_mo32 (by rw [mN_mo31]; omega), kI_mo31 (by rw [mN_mo30]; omega), kI_mo30 (by rw [mN_mo29]; omega), kI_mo29 (by rw [mN_mo28]; omega), kI_mo28 (by rw [mN_mo27]; omega), kI_mo27 (by rw [mN_mo26]; omega), kI_mo26 (by rw [mN_mo25]; omega), kI_mo25 (by rw [mN_mo24]; omega), kI_mo24 (by rw [mN_mo23]; omega), kI_mo23 (by rw [mN_mo22]; omega), kI_mo22 (by rw [mN_mo21]; omega), kI_mo21 (by rw [mN_mo20]; omega), kI_mo20 (by omega), kI_mo19 (by rw [mN_mo18]; omega), kI_mo18 (by rw [mN_mo17]; omega), kI_mo17 (by rw [mN_mo16]; omega), kI_mo16 (by rw [mN_mo15]; omega), kI_mo15 (by rw [mN_mo14]; omega), kI_mo14 (by rw [mN_mo13]; omega), kI_mo13 (by rw [mN_mo12]; omega), kI_mo12 (by rw [mN_mo11]; omega), kI_mo11 (by rw [mN_mo10]; omega), kI_mo10 (by rw [mN_mo9]; omega), kI_mo9 (by rw [mN_mo8]; omega), kI_mo8 (by rw [mN_mo7]; omega), kI_mo7 (by rw [mN_mo6]; omega), kI_mo6 (by rw [mN_mo5]; omega), kI_mo5 (by rw [mN_mo4]; omega), kI_mo4 (by rw [mN_mo3]; omega), kI_mo3 (by rw [mN_mo2]; omega), kI_mo2 (by rw [mN_mo1]; omega), kI_mo1 (by show _ ≠ mN h; omega)]; rfl
theorem ob31_mo (ha : a < mN h) : mI (mo45 h a) a 31 = -1 := by
  rw [kI_mo45 (by rw [mN_mo44]; omega), kI_mo44 (by rw [mN_mo43]; omega), kI_mo43 (by rw [mN_mo42]; omega), kI_mo42 (by rw [mN_mo41]; omega), kI_mo41 (by rw [mN_mo40]; omega), kI_mo40 (by omega), kI_mo39 (by rw [mN_mo38]; omega), kI_mo38 (by rw [mN_mo37]; omega), kI_mo37 (by rw [mN_mo36]; omega), kI_mo36 (by omega), kI_mo35 (by rw [mN_mo34]; omega), kI_mo34 (by rw [mN_mo33]; omega), kI_mo33 (by rw [mN_mo32]; omega), kI_mo32 (by rw [mN_mo31]; omega), kI_mo31 (by rw [mN_mo30]; omega), kI_mo30 (by rw [mN_mo29]; omega), kI_mo29 (by rw [mN_mo28]; omega), kI_mo28 (by rw [mN_mo27]; omega), kI_mo27 (by rw [mN_mo26]; omega), kI_mo26 (by rw [mN_mo25]; omega), kI_mo25 (by rw [mN_mo24]; omega), kI_mo24 (by rw [mN_mo23]; omega), kI_mo23 (by rw [mN_mo22]; omega), kI_mo22 (by rw [mN_mo21]; omega), kI_mo21 (by rw [mN_mo20]; omega)]
  exact if_pos ⟨rfl, rfl⟩
theorem ob53_mo (ha : a < mN h) : mI (mo45 h a) a 53 = -1 := by
  rw [kI_mo45 (by rw [mN_mo44]; omega), kI_mo44 (by rw [mN_mo43]; omega), kI_mo43 (by rw [mN_mo42]; omega), kI_mo42 (by rw [mN_mo41]; omega), kI_mo41 (by rw [mN_mo40]; omega), kI_mo40 (by omega), kI_mo39 (by rw [mN_mo38]; omega), kI_mo38 (by rw [mN_mo37]; omega), kI_mo37 (by rw [mN_mo36]; omega)]
  exact if_pos ⟨rfl, rfl⟩
theorem ob60_mo (ha : a < mN h) : mI (mo45 h a) a 60 = -1 := by
  rw [kI_mo45 (by rw [mN_mo44]; omega), kI_mo44 (by rw [mN_mo43]; omega), kI_mo43 (by rw [mN_mo42]; omega), kI_mo42 (by rw [mN_mo41]; omega), kI_mo41 (by rw [mN_mo40]; omega)]
  exact if_pos ⟨rfl, rfl⟩
theorem num_mo2 : ∀ x, x < 8 → mI (mo2 h a) (mN (mo1 h a)) x = if x = 4 then nI 20 else nI 0 := by
  intro x hx
  unfold mo2
  simp only [mI_wP, mI_wI]
  rcases (by omega : x = 0 ∨ x = 1 ∨ x = 2 ∨ x = 3 ∨ x = 4 ∨ x = 5 ∨ x = 6 ∨ x = 7) with rfl | rfl | rfl | rfl | rfl | rfl | rfl | rfl <;> simp
theorem num_mo (ha : a < mN h) (hx : x < 8) : mI (mo45 h a) (mN h + 1) x = if x = 4 then nI 20 else nI 0 := by
  rw [kI_mo45 (by rw [mN_mo44]; omega), kI_mo44 (by rw [mN_mo43]; omega), kI_mo43 (by rw [mN_mo42]; omega), kI_mo42 (by rw [mN_mo41]; omega), kI_mo41 (by rw [mN_mo40]; omega), kI_mo40 (by omega), kI_mo39 (by rw [mN_mo38]; omega), kI_mo38 (by rw [mN_mo37]; omega), kI_mo37 (by rw [mN_mo36]; omega), kI_mo36 (by omega), kI_mo35 (by rw [mN_mo34]; omega), kI_mo34 (by rw [mN_mo33]; omega), kI_mo33 (by rw [mN_mo32]; omega), kI_mo32 (by rw [mN_mo31]; omega), kI_mo31 (by rw [mN_mo30]; omega), kI_mo30 (by rw [mN_mo29]; omega), kI_mo29 (by rw [mN_mo28]; omega), kI_mo28 (by rw [mN_mo27]; omega), kI_mo27 (by rw [mN_mo26]; omega), kI_mo26 (by rw [mN_mo25]; omega), kI_mo25 (by rw [mN_mo24]; omega), kI_mo24 (by rw [mN_mo23]; omega), kI_mo23 (by rw [mN_mo22]; omega), kI_mo22 (by rw [mN_mo21]; omega), kI_mo21 (by rw [mN_mo20]; omega), kI_mo20 (by omega), kI_mo19 (by rw [mN_mo18]; omega), kI_mo18 (by rw [mN_mo17]; omega), kI_mo17 (by rw [mN_mo16]; omega), kI_mo16 (by rw [mN_mo15]; omega), kI_mo15 (by rw [mN_mo14]; omega), kI_mo14 (by rw [mN_mo13]; omega), kI_mo13 (by rw [mN_mo12]; omega), kI_mo12 (by rw [mN_mo11]; omega), kI_mo11 (by rw [mN_mo10]; omega), kI_mo10 (by rw [mN_mo9]; omega), kI_mo9 (by rw [mN_mo8]; omega), kI_mo8 (by rw [mN_mo7]; omega), kI_mo7 (by rw [mN_mo6]; omega), kI_mo6 (by rw [mN_mo5]; omega), kI_mo5 (by rw [mN_mo4]; omega), kI_mo4 (by rw [mN_mo3]; omega), kI_mo3 (by rw [mN_mo2]; omega)]
  have := num_mo2 (h := h) (a := a) x hx
  rw [mN_mo1] at this
  exact this
theorem z15_mo (ha : a < mN h) : mI (mo45 h a) (mN h + 15) x = 0 := by
  rw [kI_mo45 (by rw [mN_mo44]; omega), kI_mo44 (by rw [mN_mo43]; omega), kI_mo43 (by rw [mN_mo42]; omega), kI_mo42 (by rw [mN_mo41]; omega), kI_mo41 (by rw [mN_mo40]; omega), kI_mo40 (by omega), kI_mo39 (by rw [mN_mo38]; omega), kI_mo38 (by rw [mN_mo37]; omega), kI_mo37 (by rw [mN_mo36]; omega), kI_mo36 (by omega), kI_mo35 (by rw [mN_mo34]; omega), kI_mo34 (by rw [mN_mo33]; omega), kI_mo33 (by rw [mN_mo32]; omega), kI_mo32 (by rw [mN_mo31]; omega), kI_mo31 (by rw [mN_mo30]; omega), kI_mo30 (by rw [mN_mo29]; omega), kI_mo29 (by rw [mN_mo28]; omega), kI_mo28 (by rw [mN_mo27]; omega), kI_mo27 (by rw [mN_mo26]; omega), kI_mo26 (by rw [mN_mo25]; omega), kI_mo25 (by rw [mN_mo24]; omega), kI_mo24 (by rw [mN_mo23]; omega), kI_mo23 (by rw [mN_mo22]; omega), kI_mo22 (by rw [mN_mo21]; omega), kI_mo21 (by rw [mN_mo20]; omega), kI_mo20 (by omega), kI_mo19 (by rw [mN_mo18]; omega), kI_mo18 (by rw [mN_mo17]; omega), kI_mo17 (by rw [mN_mo16]; omega)]
  exact if_pos (by rw [mN_mo15])
theorem z16_mo (ha : a < mN h) : mI (mo45 h a) (mN h + 16) x = 0 := by
  rw [kI_mo45 (by rw [mN_mo44]; omega), kI_mo44 (by rw [mN_mo43]; omega), kI_mo43 (by rw [mN_mo42]; omega), kI_mo42 (by rw [mN_mo41]; omega), kI_mo41 (by rw [mN_mo40]; omega), kI_mo40 (by omega), kI_mo39 (by rw [mN_mo38]; omega), kI_mo38 (by rw [mN_mo37]; omega), kI_mo37 (by rw [mN_mo36]; omega), kI_mo36 (by omega), kI_mo35 (by rw [mN_mo34]; omega), kI_mo34 (by rw [mN_mo33]; omega), kI_mo33 (by rw [mN_mo32]; omega), kI_mo32 (by rw [mN_mo31]; omega), kI_mo31 (by rw [mN_mo30]; omega), kI_mo30 (by rw [mN_mo29]; omega), kI_mo29 (by rw [mN_mo28]; omega), kI_mo28 (by rw [mN_mo27]; omega), kI_mo27 (by rw [mN_mo26]; omega), kI_mo26 (by rw [mN_mo25]; omega), kI_mo25 (by rw [mN_mo24]; omega), kI_mo24 (by rw [mN_mo23]; omega), kI_mo23 (by rw [mN_mo22]; omega), kI_mo22 (by rw [mN_mo21]; omega), kI_mo21 (by rw [mN_mo20]; omega), kI_mo20 (by omega), kI_mo19 (by rw [mN_mo18]; omega), kI_mo18 (by rw [mN_mo17]; omega)]
  exact if_pos (by rw [mN_mo16])
end ModL
def K1 : Kt := (mo45 (nA (fun _ _ => 0, fun _ _ => 0, Kt0) 10 0) 102).2.2
theorem K1_N : K1.2.2 = 145 := by decide +kernel
theorem K1_M : MK K1 := ⟨by decide +kernel, by decide +kernel⟩
theorem mkRows {K : Kt} {a w m : Nat} (h : ((K.2.1 a).1 = 4 ∧ K.1 a 1 = some (a + 1) ∧ K.2.1 (a + 1) = (24, w)) ∧ (∀ j, j < w → K.1 (a + 1) j = some (a + 2 + j)) ∧ (∀ j, j < w → K.2.1 (a + 2 + j) = (20, m)) ∧ (0 < w ∧ w ≤ 8 ∧ m ≤ 64)) : isRows K a w m := ⟨h.1.1, h.1.2.1, h.1.2.2, h.2.1, h.2.2.1, h.2.2.2⟩
theorem mkPlan {K : Kt} {p : Nat} (h : (K.2.1 p).1 = 3 ∧ K.1 p 0 = some (p + 1) ∧ K.1 p 1 = some (p + 6) ∧ K.1 p 2 = some (p + 13) ∧ K.1 p 3 = some (p + 17) ∧ K.1 p 4 = some (p + 22)) (h1 : isRows K (p + 1) 3 6) (h2 : isRows K (p + 6) 5 8) (h3 : isRows K (p + 13) 2 10) (h4 : isRows K (p + 17) 3 8) (h5 : isLaws K (p + 22)) : isPlan K p := ⟨h.1, h.2.1, h.2.2.1, h.2.2.2.1, h.2.2.2.2.1, h.2.2.2.2.2, h1, h2, h3, h4, h5⟩
/-- .. with the law's own row behind it -/
def K2 : Kt := (nA (fun _ _ => 0, fun _ _ => 0, K1) 23 1).2.2
theorem K2_N : K2.2.2 = 146 := by decide +kernel
theorem K2_M : MK K2 := ⟨by decide +kernel, by decide +kernel⟩
theorem K2_o : K2.2.1 145 = (23, 1) := by decide +kernel
theorem K2_G : GK K2 := ⟨by decide +kernel, by decide +kernel, by unfold isScan; decide +kernel, mkPlan (by decide +kernel) (mkRows (by decide +kernel)) (mkRows (by decide +kernel)) (mkRows (by decide +kernel)) (mkRows (by decide +kernel)) (by unfold isLaws; decide +kernel), mkPlan (by decide +kernel) (mkRows (by decide +kernel)) (mkRows (by decide +kernel)) (mkRows (by decide +kernel)) (mkRows (by decide +kernel)) (by unfold isLaws; decide +kernel), by unfold isDays; decide +kernel, by unfold isState; decide +kernel, by unfold isState; decide +kernel, by unfold isState; decide +kernel, ⟨by decide +kernel, by decide +kernel, mkRows (by decide +kernel)⟩, ⟨by decide +kernel, by decide +kernel, mkRows (by decide +kernel)⟩⟩
theorem P00_X : wfX P00 := by
  have h := (ps0_LI (f := fun _ => 0) (n := 0) (fun _ => by decide) (fun _ _ => 0) 0).1
  exact ⟨h.2.2.1, h.2.2.2.1, rfl⟩
section Ctors5
variable {l : Launch} {G : GG} {d : Nat} {I : IM} {J : JM} {SI : SM} {T : SM} {Hs : Nat → SM} {f : Nat → Nat}
set_option maxRecDepth 8000 in
theorem c10_init (hf : ∀ j, f j < 256) : ∃ h', Ct l G (d + 2) 42 2817 m10_init [.ref 102] (nA (I, J, Kt0) 10 0) none h' ∧ ∃ I2 J2, h' = (I2, J2, K1) ∧ (∀ c, c < 102 → I2 c = I c ∧ J2 c = J c) ∧ MI I2 P00 (beg P00) false SI 0 T (-1) 0 Hs 8 ∧ TQ I2 0 f 0 (-1) := by
  have hN : mN (nA (I, J, Kt0) 10 0) = 103 := by
    show Kt0.2.2 + 1 = 103
    rw [Kt0_N]
  have hN0 : mN (I, J, Kt0) = 102 := Kt0_N
  have hs : (mS (nA (I, J, Kt0) 10 0) 102).1 = 10 := by rw [mS_nA, if_pos hN0.symm]
  have ha : 102 < mN (nA (I, J, Kt0) 10 0) := by omega
  have i102 : ∀ k, mI (nA (I, J, Kt0) 10 0) 102 k = 0 := fun k => by rw [mI_nA, if_pos hN0.symm]
  have eK : (mo45 (nA (I, J, Kt0) 10 0) 102).2.2 = K1 := kk_mo45 (kk_nA rfl 10 0)
  obtain ⟨I1, hI1⟩ : ∃ I1, I1 = (mo45 (nA (I, J, Kt0) 10 0) 102).1 := ⟨_, rfl⟩
  obtain ⟨J1, hJ1⟩ : ∃ J1, J1 = (mo45 (nA (I, J, Kt0) 10 0) 102).2.1 := ⟨_, rfl⟩
  have eM : mo45 (nA (I, J, Kt0) 10 0) 102 = (I1, J1, K1) := by rw [hI1, hJ1, ← eK]
  have mi : ∀ c x, I1 c x = mI (mo45 (nA (I, J, Kt0) 10 0) 102) c x := fun c x => by rw [hI1]; rfl
  have mj : ∀ c x, J1 c x = mJ (mo45 (nA (I, J, Kt0) 10 0) 102) c x := fun c x => by rw [hJ1]; rfl
  have fr : ∀ c, c < 102 → I1 c = I c ∧ J1 c = J c := fun c hc => by
    constructor
    · funext x
      rw [mi, (fr_mo (by omega) (by omega)).1, mI_nA, if_neg (by omega)]; rfl
    · funext x
      rw [mj, (fr_mo (by omega) (by omega)).2, mJ_nA, if_neg (by omega)]; rfl
  have ob : ∀ k, k ≠ 31 → k ≠ 53 → k ≠ 60 → I1 102 k = 0 := fun k a b c => by rw [mi, ob_mo ha ⟨a, b, c⟩]; exact i102 k
  have nu : ∀ x, x < 8 → I1 104 x = if x = 4 then nI 20 else nI 0 := fun x hx => by
    have := num_mo (h := nA (I, J, Kt0) 10 0) (a := 102) (x := x) ha hx
    rw [hN] at this
    rw [mi]; exact this
  have z8 : ∀ x, I1 118 x = 0 := fun x => by
    have := z15_mo (h := nA (I, J, Kt0) 10 0) (a := 102) (x := x) ha
    rw [hN] at this
    rw [mi]; exact this
  have z9 : ∀ x, I1 119 x = 0 := fun x => by
    have := z16_mo (h := nA (I, J, Kt0) 10 0) (a := 102) (x := x) ha
    rw [hN] at this
    rw [mi]; exact this
  have hP : MP I1 P00 := by
    refine ⟨⟨nu 0 (by omega), nu 1 (by omega), nu 2 (by omega), nu 3 (by omega), nu 4 (by omega), nu 5 (by omega), nu 6 (by omega), nu 7 (by omega)⟩, fun i hi => absurd hi (Nat.not_lt_zero i), fun i hi => absurd hi (Nat.not_lt_zero i), fun i hi => absurd hi (Nat.not_lt_zero i), fun i hi => absurd hi (Nat.not_lt_zero i), fun w hw => ⟨fun q => ?_, fun _ => ⟨z8 w, z9 w⟩⟩, fun i hi => absurd hi (Nat.not_lt_zero i)⟩
    have q : bitOf (nI 0) (nI w) = true := q
    rw [bit_0 (by omega)] at q
    exact absurd q (by decide)
  obtain ⟨r1, h1, k1, q1, I2, q2, C2⟩ := c10_begins (l := l) (G := G) (d := d) (J := J1) K1_M hP P00_X
  subst q1
  subst q2
  have nf : ∀ c x, (c < 124 ∨ 136 < c) → I2 c x = I1 c x := fun c x hc => C2.1 c x (by unfold onF; omega)
  refine ⟨_, ?_, I2, J1, rfl, fun c hc => ⟨by rw [← (fr c hc).1]; funext x; exact nf c x (by omega), (fr c hc).2⟩, ?_, ?_⟩
  · refine Ct.of ok10_init rfl (rfl : argL _ _ = [.ref 102]) ?_
    refine m10_init_go ha hs ?_
    rw [eM]
    refine go_aload_n rfl rfl ?_
    refine go_callV (M2 := m10_begins) (mc1 := 0) (ms1 := 0) (b := 102) (as := []) rfl v10_148 ok10_begins k1 rfl (by rw [show (mS (I1, J1, K1) 102).1 = 10 from K1_M.k]; rfl) (by rw [show (mS (I1, J1, K1) 102).1 = 10 from K1_M.k]; rfl) rfl rfl (by decide) (by decide) ?_
    exact go_return rfl rfl rfl rfl
  · refine ⟨hP.frame (fun c a b => funext fun i => nf c i (by omega)), P00_X, RM.st rfl (Nat.zero_le 8) C2 (by omega), ?_, fun q => absurd q (by decide), ⟨?_, by omega, ?_, fun i hi => absurd hi (by omega)⟩, ⟨?_, by omega, fun i hi => absurd hi (by omega)⟩, ?_, ?_⟩
    · rw [nf 102 50 (by omega), ob 50 (by omega) (by omega) (by omega)]; rfl
    · rw [nf 102 59 (by omega), ob 59 (by omega) (by omega) (by omega)]; rfl
    · rw [nf 102 60 (by omega), mi]; exact ob60_mo ha
    · rw [nf 102 51 (by omega), ob 51 (by omega) (by omega) (by omega)]; rfl
    · rw [nf 102 52 (by omega), ob 52 (by omega) (by omega) (by omega)]; rfl
    · rw [nf 102 53 (by omega), mi]; exact ob53_mo ha
  · refine ⟨?_, by omega, fun j hj => absurd hj (by omega), hf, ?_, ?_⟩
    · rw [nf 102 2 (by omega), ob 2 (by omega) (by omega) (by omega)]; rfl
    · rw [nf 102 30 (by omega), ob 30 (by omega) (by omega) (by omega)]; rfl
    · rw [nf 102 31 (by omega), mi]; exact ob31_mo ha
end Ctors5
