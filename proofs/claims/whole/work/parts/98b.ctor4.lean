/-! ===== constructors: TinNationModel ===== -/
theorem clN : ∀ k, k < 16 → (nI k).toNatClampNeg = k := by decide
def mo0 (h : Hp) (_ : Nat) : Hp := h
def mo1 (h : Hp) (a : Nat) : Hp := aN (mo0 h a) a 1 20 700
def mo2 (h : Hp) (a : Nat) : Hp := wP (wI (wI (wI (wI (wI (wI (wI (wI (wI (wI (wI (wI (wI (wI (wI (wI (nA (mo1 h a) 20 16) (mN (mo1 h a)) 0 (nI 0)) (mN (mo1 h a)) 1 (nI 0)) (mN (mo1 h a)) 2 (nI 0)) (mN (mo1 h a)) 3 (nI 0)) (mN (mo1 h a)) 4 (nI 20)) (mN (mo1 h a)) 5 (nI 0)) (mN (mo1 h a)) 6 (nI 0)) (mN (mo1 h a)) 7 (nI 0)) (mN (mo1 h a)) 8 (nI 0)) (mN (mo1 h a)) 9 (nI 0)) (mN (mo1 h a)) 10 (nI 0)) (mN (mo1 h a)) 11 (nI 0)) (mN (mo1 h a)) 12 (nI 20)) (mN (mo1 h a)) 13 (nI 0)) (mN (mo1 h a)) 14 (nI 0)) (mN (mo1 h a)) 15 (nI 0)) a 3 (some (mN (mo1 h a)))
def mo3 (h : Hp) (a : Nat) : Hp := aN (mo2 h a) a 4 20 12
def mo4 (h : Hp) (a : Nat) : Hp := aN (mo3 h a) a 5 20 12
def mo5 (h : Hp) (a : Nat) : Hp := aN (mo4 h a) a 6 20 12
def mo6 (h : Hp) (a : Nat) : Hp := aN (mo5 h a) a 7 20 16
def mo7 (h : Hp) (a : Nat) : Hp := aN (mo6 h a) a 8 20 16
def mo8 (h : Hp) (a : Nat) : Hp := aN (mo7 h a) a 9 20 16
def mo9 (h : Hp) (a : Nat) : Hp := aN (mo8 h a) a 10 20 16
def mo10 (h : Hp) (a : Nat) : Hp := aN (mo9 h a) a 11 20 16
def mo11 (h : Hp) (a : Nat) : Hp := aN (mo10 h a) a 12 20 20
def mo12 (h : Hp) (a : Nat) : Hp := aN (mo11 h a) a 13 20 20
def mo13 (h : Hp) (a : Nat) : Hp := aN (mo12 h a) a 14 20 16
def mo14 (h : Hp) (a : Nat) : Hp := aN (mo13 h a) a 15 20 16
def mo15 (h : Hp) (a : Nat) : Hp := aN (mo14 h a) a 16 20 16
def mo16 (h : Hp) (a : Nat) : Hp := aN (mo15 h a) a 17 20 6
def mo17 (h : Hp) (a : Nat) : Hp := aN (mo16 h a) a 18 20 6
def mo18 (h : Hp) (a : Nat) : Hp := aN (mo17 h a) a 19 20 128
def mo19 (h : Hp) (a : Nat) : Hp := aN (mo18 h a) a 20 20 128
def mo20 (h : Hp) (a : Nat) : Hp := wI (mo19 h a) a 31 (-1)
def mo21 (h : Hp) (a : Nat) : Hp := aN (mo20 h a) a 34 23 7
def mo22 (h : Hp) (a : Nat) : Hp := aN (mo21 h a) a 35 23 64
def mo23 (h : Hp) (a : Nat) : Hp := aN (mo22 h a) a 37 20 23
def mo24 (h : Hp) (a : Nat) : Hp := aN (mo23 h a) a 38 20 23
def mo25 (h : Hp) (a : Nat) : Hp := aN (mo24 h a) a 39 20 23
def mo26 (h : Hp) (a : Nat) : Hp := aN (mo25 h a) a 40 20 23
def mo27 (h : Hp) (a : Nat) : Hp := aN (mo26 h a) a 41 20 23
def mo28 (h : Hp) (a : Nat) : Hp := aN (mo27 h a) a 42 20 23
def mo29 (h : Hp) (a : Nat) : Hp := aN (mo28 h a) a 43 20 184
def mo30 (h : Hp) (a : Nat) : Hp := aN (mo29 h a) a 44 20 184
def mo31 (h : Hp) (a : Nat) : Hp := aN (mo30 h a) a 45 20 184
def mo32 (h : Hp) (a : Nat) : Hp := aN (mo31 h a) a 46 20 184
def mo33 (h : Hp) (a : Nat) : Hp := aN (mo32 h a) a 47 20 184
def mo34 (h : Hp) (a : Nat) : Hp := aN (mo33 h a) a 48 20 184
def mo35 (h : Hp) (a : Nat) : Hp := aN (mo34 h a) a 49 20 184
def mo36 (h : Hp) (a : Nat) : Hp := wI (mo35 h a) a 53 (-1)
def mo37 (h : Hp) (a : Nat) : Hp := aN (mo36 h a) a 54 20 4
def mo38 (h : Hp) (a : Nat) : Hp := aN (mo37 h a) a 55 20 4
def mo39 (h : Hp) (a : Nat) : Hp := aN (mo38 h a) a 56 20 4
def mo40 (h : Hp) (a : Nat) : Hp := wI (mo39 h a) a 60 (-1)
def mo41 (h : Hp) (a : Nat) : Hp := aN (mo40 h a) a 61 20 24
def mo42 (h : Hp) (a : Nat) : Hp := aN (mo41 h a) a 62 20 24
def mo43 (h : Hp) (a : Nat) : Hp := aN (mo42 h a) a 63 20 24
def mo44 (h : Hp) (a : Nat) : Hp := aN (mo43 h a) a 64 22 24
def mo45 (h : Hp) (a : Nat) : Hp := aN (mo44 h a) a 65 22 24
section ModK
variable {h : Hp} {a b c x : Nat}
theorem mN_mo1 : mN (mo1 h a) = mN h + 1 := by show mN (mo0 h a) + 1 = _; rfl
theorem kS_mo1 (hb : b < mN h) : mS (mo1 h a) b = mS h b := (kS_nA (by show b < mN h; omega)).trans rfl
theorem kI_mo1 (hc : c ≠ mN (mo0 h a)) : mI (mo1 h a) c x = mI (mo0 h a) c x := if_neg hc
theorem mN_mo2 : mN (mo2 h a) = mN h + 2 := by show mN (mo1 h a) + 1 = _; rw [mN_mo1]
theorem kS_mo2 (hb : b < mN h) : mS (mo2 h a) b = mS h b := (kS_nA (by rw [mN_mo1]; omega)).trans (kS_mo1 hb)
theorem kI_mo2 (hc : c ≠ mN (mo1 h a)) : mI (mo2 h a) c x = mI (mo1 h a) c x := by
  unfold mo2
  simp only [mI_wP, mI_wI]
  simp (disch := omega) only [mI_nA, if_neg hc, if_neg (fun q : c = mN (mo1 h a) ∧ _ => hc q.1)]
theorem mN_mo3 : mN (mo3 h a) = mN h + 3 := by show mN (mo2 h a) + 1 = _; rw [mN_mo2]
theorem kS_mo3 (hb : b < mN h) : mS (mo3 h a) b = mS h b := (kS_nA (by rw [mN_mo2]; omega)).trans (kS_mo2 hb)
theorem kI_mo3 (hc : c ≠ mN (mo2 h a)) : mI (mo3 h a) c x = mI (mo2 h a) c x := if_neg hc
theorem mN_mo4 : mN (mo4 h a) = mN h + 4 := by show mN (mo3 h a) + 1 = _; rw [mN_mo3]
theorem kS_mo4 (hb : b < mN h) : mS (mo4 h a) b = mS h b := (kS_nA (by rw [mN_mo3]; omega)).trans (kS_mo3 hb)
theorem kI_mo4 (hc : c ≠ mN (mo3 h a)) : mI (mo4 h a) c x = mI (mo3 h a) c x := if_neg hc
theorem mN_mo5 : mN (mo5 h a) = mN h + 5 := by show mN (mo4 h a) + 1 = _; rw [mN_mo4]
theorem kS_mo5 (hb : b < mN h) : mS (mo5 h a) b = mS h b := (kS_nA (by rw [mN_mo4]; omega)).trans (kS_mo4 hb)
theorem kI_mo5 (hc : c ≠ mN (mo4 h a)) : mI (mo5 h a) c x = mI (mo4 h a) c x := if_neg hc
theorem mN_mo6 : mN (mo6 h a) = mN h + 6 := by show mN (mo5 h a) + 1 = _; rw [mN_mo5]
theorem kS_mo6 (hb : b < mN h) : mS (mo6 h a) b = mS h b := (kS_nA (by rw [mN_mo5]; omega)).trans (kS_mo5 hb)
theorem kI_mo6 (hc : c ≠ mN (mo5 h a)) : mI (mo6 h a) c x = mI (mo5 h a) c x := if_neg hc
theorem mN_mo7 : mN (mo7 h a) = mN h + 7 := by show mN (mo6 h a) + 1 = _; rw [mN_mo6]
theorem kS_mo7 (hb : b < mN h) : mS (mo7 h a) b = mS h b := (kS_nA (by rw [mN_mo6]; omega)).trans (kS_mo6 hb)
theorem kI_mo7 (hc : c ≠ mN (mo6 h a)) : mI (mo7 h a) c x = mI (mo6 h a) c x := if_neg hc
theorem mN_mo8 : mN (mo8 h a) = mN h + 8 := by show mN (mo7 h a) + 1 = _; rw [mN_mo7]
theorem kS_mo8 (hb : b < mN h) : mS (mo8 h a) b = mS h b := (kS_nA (by rw [mN_mo7]; omega)).trans (kS_mo7 hb)
theorem kI_mo8 (hc : c ≠ mN (mo7 h a)) : mI (mo8 h a) c x = mI (mo7 h a) c x := if_neg hc
theorem mN_mo9 : mN (mo9 h a) = mN h + 9 := by show mN (mo8 h a) + 1 = _; rw [mN_mo8]
theorem kS_mo9 (hb : b < mN h) : mS (mo9 h a) b = mS h b := (kS_nA (by rw [mN_mo8]; omega)).trans (kS_mo8 hb)
theorem kI_mo9 (hc : c ≠ mN (mo8 h a)) : mI (mo9 h a) c x = mI (mo8 h a) c x := if_neg hc
theorem mN_mo10 : mN (mo10 h a) = mN h + 10 := by show mN (mo9 h a) + 1 = _; rw [mN_mo9]
theorem kS_mo10 (hb : b < mN h) : mS (mo10 h a) b = mS h b := (kS_nA (by rw [mN_mo9]; omega)).trans (kS_mo9 hb)
theorem kI_mo10 (hc : c ≠ mN (mo9 h a)) : mI (mo10 h a) c x = mI (mo9 h a) c x := if_neg hc
theorem mN_mo11 : mN (mo11 h a) = mN h + 11 := by show mN (mo10 h a) + 1 = _; rw [mN_mo10]
theorem kS_mo11 (hb : b < mN h) : mS (mo11 h a) b = mS h b := (kS_nA (by rw [mN_mo10]; omega)).trans (kS_mo10 hb)
theorem kI_mo11 (hc : c ≠ mN (mo10 h a)) : mI (mo11 h a) c x = mI (mo10 h a) c x := if_neg hc
theorem mN_mo12 : mN (mo12 h a) = mN h + 12 := by show mN (mo11 h a) + 1 = _; rw [mN_mo11]
theorem kS_mo12 (hb : b < mN h) : mS (mo12 h a) b = mS h b := (kS_nA (by rw [mN_mo11]; omega)).trans (kS_mo11 hb)
theorem kI_mo12 (hc : c ≠ mN (mo11 h a)) : mI (mo12 h a) c x = mI (mo11 h a) c x := if_neg hc
theorem mN_mo13 : mN (mo13 h a) = mN h + 13 := by show mN (mo12 h a) + 1 = _; rw [mN_mo12]
theorem kS_mo13 (hb : b < mN h) : mS (mo13 h a) b = mS h b := (kS_nA (by rw [mN_mo12]; omega)).trans (kS_mo12 hb)
theorem kI_mo13 (hc : c ≠ mN (mo12 h a)) : mI (mo13 h a) c x = mI (mo12 h a) c x := if_neg hc
theorem mN_mo14 : mN (mo14 h a) = mN h + 14 := by show mN (mo13 h a) + 1 = _; rw [mN_mo13]
theorem kS_mo14 (hb : b < mN h) : mS (mo14 h a) b = mS h b := (kS_nA (by rw [mN_mo13]; omega)).trans (kS_mo13 hb)
theorem kI_mo14 (hc : c ≠ mN (mo13 h a)) : mI (mo14 h a) c x = mI (mo13 h a) c x := if_neg hc
theorem mN_mo15 : mN (mo15 h a) = mN h + 15 := by show mN (mo14 h a) + 1 = _; rw [mN_mo14]
theorem kS_mo15 (hb : b < mN h) : mS (mo15 h a) b = mS h b := (kS_nA (by rw [mN_mo14]; omega)).trans (kS_mo14 hb)
theorem kI_mo15 (hc : c ≠ mN (mo14 h a)) : mI (mo15 h a) c x = mI (mo14 h a) c x := if_neg hc
theorem mN_mo16 : mN (mo16 h a) = mN h + 16 := by show mN (mo15 h a) + 1 = _; rw [mN_mo15]
theorem kS_mo16 (hb : b < mN h) : mS (mo16 h a) b = mS h b := (kS_nA (by rw [mN_mo15]; omega)).trans (kS_mo15 hb)
theorem kI_mo16 (hc : c ≠ mN (mo15 h a)) : mI (mo16 h a) c x = mI (mo15 h a) c x := if_neg hc
theorem mN_mo17 : mN (mo17 h a) = mN h + 17 := by show mN (mo16 h a) + 1 = _; rw [mN_mo16]
theorem kS_mo17 (hb : b < mN h) : mS (mo17 h a) b = mS h b := (kS_nA (by rw [mN_mo16]; omega)).trans (kS_mo16 hb)
theorem kI_mo17 (hc : c ≠ mN (mo16 h a)) : mI (mo17 h a) c x = mI (mo16 h a) c x := if_neg hc
theorem mN_mo18 : mN (mo18 h a) = mN h + 18 := by show mN (mo17 h a) + 1 = _; rw [mN_mo17]
theorem kS_mo18 (hb : b < mN h) : mS (mo18 h a) b = mS h b := (kS_nA (by rw [mN_mo17]; omega)).trans (kS_mo17 hb)
theorem kI_mo18 (hc : c ≠ mN (mo17 h a)) : mI (mo18 h a) c x = mI (mo17 h a) c x := if_neg hc
theorem mN_mo19 : mN (mo19 h a) = mN h + 19 := by show mN (mo18 h a) + 1 = _; rw [mN_mo18]
theorem kS_mo19 (hb : b < mN h) : mS (mo19 h a) b = mS h b := (kS_nA (by rw [mN_mo18]; omega)).trans (kS_mo18 hb)
theorem kI_mo19 (hc : c ≠ mN (mo18 h a)) : mI (mo19 h a) c x = mI (mo18 h a) c x := if_neg hc
theorem mN_mo20 : mN (mo20 h a) = mN h + 19 := by show mN (mo19 h a) = _; rw [mN_mo19]
theorem kS_mo20 (hb : b < mN h) : mS (mo20 h a) b = mS h b := (kS_mo19 hb)
theorem kI_mo20 (hc : c ≠ a ∨ x ≠ 31) : mI (mo20 h a) c x = mI (mo19 h a) c x := if_neg (by omega)
theorem mN_mo21 : mN (mo21 h a) = mN h + 20 := by show mN (mo20 h a) + 1 = _; rw [mN_mo20]
theorem kS_mo21 (hb : b < mN h) : mS (mo21 h a) b = mS h b := (kS_nA (by rw [mN_mo20]; omega)).trans (kS_mo20 hb)
theorem kI_mo21 (hc : c ≠ mN (mo20 h a)) : mI (mo21 h a) c x = mI (mo20 h a) c x := if_neg hc
theorem mN_mo22 : mN (mo22 h a) = mN h + 21 := by show mN (mo21 h a) + 1 = _; rw [mN_mo21]
theorem kS_mo22 (hb : b < mN h) : mS (mo22 h a) b = mS h b := (kS_nA (by rw [mN_mo21]; omega)).trans (kS_mo21 hb)
theorem kI_mo22 (hc : c ≠ mN (mo21 h a)) : mI (mo22 h a) c x = mI (mo21 h a) c x := if_neg hc
theorem mN_mo23 : mN (mo23 h a) = mN h + 22 := by show mN (mo22 h a) + 1 = _; rw [mN_mo22]
theorem kS_mo23 (hb : b < mN h) : mS (mo23 h a) b = mS h b := (kS_nA (by rw [mN_mo22]; omega)).trans (kS_mo22 hb)
theorem kI_mo23 (hc : c ≠ mN (mo22 h a)) : mI (mo23 h a) c x = mI (mo22 h a) c x := if_neg hc
theorem mN_mo24 : mN (mo24 h a) = mN h + 23 := by show mN (mo23 h a) + 1 = _; rw [mN_mo23]
theorem kS_mo24 (hb : b < mN h) : mS (mo24 h a) b = mS h b := (kS_nA (by rw [mN_mo23]; omega)).trans (kS_mo23 hb)
theorem kI_mo24 (hc : c ≠ mN (mo23 h a)) : mI (mo24 h a) c x = mI (mo23 h a) c x := if_neg hc
theorem mN_mo25 : mN (mo25 h a) = mN h + 24 := by show mN (mo24 h a) + 1 = _; rw [mN_mo24]
theorem kS_mo25 (hb : b < mN h) : mS (mo25 h a) b = mS h b := (kS_nA (by rw [mN_mo24]; omega)).trans (kS_mo24 hb)
theorem kI_mo25 (hc : c ≠ mN (mo24 h a)) : mI (mo25 h a) c x = mI (mo24 h a) c x := if_neg hc
theorem mN_mo26 : mN (mo26 h a) = mN h + 25 := by show mN (mo25 h a) + 1 = _; rw [mN_mo25]
theorem kS_mo26 (hb : b < mN h) : mS (mo26 h a) b = mS h b := (kS_nA (by rw [mN_mo25]; omega)).trans (kS_mo25 hb)
theorem kI_mo26 (hc : c ≠ mN (mo25 h a)) : mI (mo26 h a) c x = mI (mo25 h a) c x := if_neg hc
theorem mN_mo27 : mN (mo27 h a) = mN h + 26 := by show mN (mo26 h a) + 1 = _; rw [mN_mo26]
theorem kS_mo27 (hb : b < mN h) : mS (mo27 h a) b = mS h b := (kS_nA (by rw [mN_mo26]; omega)).trans (kS_mo26 hb)
theorem kI_mo27 (hc : c ≠ mN (mo26 h a)) : mI (mo27 h a) c x = mI (mo26 h a) c x := if_neg hc
theorem mN_mo28 : mN (mo28 h a) = mN h + 27 := by show mN (mo27 h a) + 1 = _; rw [mN_mo27]
theorem kS_mo28 (hb : b < mN h) : mS (mo28 h a) b = mS h b := (kS_nA (by rw [mN_mo27]; omega)).trans (kS_mo27 hb)
theorem kI_mo28 (hc : c ≠ mN (mo27 h a)) : mI (mo28 h a) c x = mI (mo27 h a) c x := if_neg hc
theorem mN_mo29 : mN (mo29 h a) = mN h + 28 := by show mN (mo28 h a) + 1 = _; rw [mN_mo28]
theorem kS_mo29 (hb : b < mN h) : mS (mo29 h a) b = mS h b := (kS_nA (by rw [mN_mo28]; omega)).trans (kS_mo28 hb)
theorem kI_mo29 (hc : c ≠ mN (mo28 h a)) : mI (mo29 h a) c x = mI (mo28 h a) c x := if_neg hc
theorem mN_mo30 : mN (mo30 h a) = mN h + 29 := by show mN (mo29 h a) + 1 = _; rw [mN_mo29]
theorem kS_mo30 (hb : b < mN h) : mS (mo30 h a) b = mS h b := (kS_nA (by rw [mN_mo29]; omega)).trans (kS_mo29 hb)
theorem kI_mo30 (hc : c ≠ mN (mo29 h a)) : mI (mo30 h a) c x = mI (mo29 h a) c x := if_neg hc
theorem mN_mo31 : mN (mo31 h a) = mN h + 30 := by show mN (mo30 h a) + 1 = _; rw [mN_mo30]
theorem kS_mo31 (hb : b < mN h) : mS (mo31 h a) b = mS h b := (kS_nA (by rw [mN_mo30]; omega)).trans (kS_mo30 hb)
theorem kI_mo31 (hc : c ≠ mN (mo30 h a)) : mI (mo31 h a) c x = mI (mo30 h a) c x := if_neg hc
theorem mN_mo32 : mN (mo32 h a) = mN h + 31 := by show mN (mo31 h a) + 1 = _; rw [mN_mo31]
theorem kS_mo32 (hb : b < mN h) : mS (mo32 h a) b = mS h b := (kS_nA (by rw [mN_mo31]; omega)).trans (kS_mo31 hb)
theorem kI_mo32 (hc : c ≠ mN (mo31 h a)) : mI (mo32 h a) c x = mI (mo31 h a) c x := if_neg hc
theorem mN_mo33 : mN (mo33 h a) = mN h + 32 := by show mN (mo32 h a) + 1 = _; rw [mN_mo32]
theorem kS_mo33 (hb : b < mN h) : mS (mo33 h a) b = mS h b := (kS_nA (by rw [mN_mo32]; omega)).trans (kS_mo32 hb)
theorem kI_mo33 (hc : c ≠ mN (mo32 h a)) : mI (mo33 h a) c x = mI (mo32 h a) c x := if_neg hc
theorem mN_mo34 : mN (mo34 h a) = mN h + 33 := by show mN (mo33 h a) + 1 = _; rw [mN_mo33]
theorem kS_mo34 (hb : b < mN h) : mS (mo34 h a) b = mS h b := (kS_nA (by rw [mN_mo33]; omega)).trans (kS_mo33 hb)
theorem kI_mo34 (hc : c ≠ mN (mo33 h a)) : mI (mo34 h a) c x = mI (mo33 h a) c x := if_neg hc
theorem mN_mo35 : mN (mo35 h a) = mN h + 34 := by show mN (mo34 h a) + 1 = _; rw [mN_mo34]
theorem kS_mo35 (hb : b < mN h) : mS (mo35 h a) b = mS h b := (kS_nA (by rw [mN_mo34]; omega)).trans (kS_mo34 hb)
theorem kI_mo35 (hc : c ≠ mN (mo34 h a)) : mI (mo35 h a) c x = mI (mo34 h a) c x := if_neg hc
theorem mN_mo36 : mN (mo36 h a) = mN h + 34 := by show mN (mo35 h a) = _; rw [mN_mo35]
theorem kS_mo36 (hb : b < mN h) : mS (mo36 h a) b = mS h b := (kS_mo35 hb)
theorem kI_mo36 (hc : c ≠ a ∨ x ≠ 53) : mI (mo36 h a) c x = mI (mo35 h a) c x := if_neg (by omega)
theorem mN_mo37 : mN (mo37 h a) = mN h + 35 := by show mN (mo36 h a) + 1 = _; rw [mN_mo36]
theorem kS_mo37 (hb : b < mN h) : mS (mo37 h a) b = mS h b := (kS_nA (by rw [mN_mo36]; omega)).trans (kS_mo36 hb)
theorem kI_mo37 (hc : c ≠ mN (mo36 h a)) : mI (mo37 h a) c x = mI (mo36 h a) c x := if_neg hc
theorem mN_mo38 : mN (mo38 h a) = mN h + 36 := by show mN (mo37 h a) + 1 = _; rw [mN_mo37]
theorem kS_mo38 (hb : b < mN h) : mS (mo38 h a) b = mS h b := (kS_nA (by rw [mN_mo37]; omega)).trans (kS_mo37 hb)
theorem kI_mo38 (hc : c ≠ mN (mo37 h a)) : mI (mo38 h a) c x = mI (mo37 h a) c x := if_neg hc
theorem mN_mo39 : mN (mo39 h a) = mN h + 37 := by show mN (mo38 h a) + 1 = _; rw [mN_mo38]
theorem kS_mo39 (hb : b < mN h) : mS (mo39 h a) b = mS h b := (kS_nA (by rw [mN_mo38]; omega)).trans (kS_mo38 hb)
theorem kI_mo39 (hc : c ≠ mN (mo38 h a)) : mI (mo39 h a) c x = mI (mo38 h a) c x := if_neg hc
theorem mN_mo40 : mN (mo40 h a) = mN h + 37 := by show mN (mo39 h a) = _; rw [mN_mo39]
theorem kS_mo40 (hb : b < mN h) : mS (mo40 h a) b = mS h b := (kS_mo39 hb)
theorem kI_mo40 (hc : c ≠ a ∨ x ≠ 60) : mI (mo40 h a) c x = mI (mo39 h a) c x := if_neg (by omega)
theorem mN_mo41 : mN (mo41 h a) = mN h + 38 := by show mN (mo40 h a) + 1 = _; rw [mN_mo40]
theorem kS_mo41 (hb : b < mN h) : mS (mo41 h a) b = mS h b := (kS_nA (by rw [mN_mo40]; omega)).trans (kS_mo40 hb)
theorem kI_mo41 (hc : c ≠ mN (mo40 h a)) : mI (mo41 h a) c x = mI (mo40 h a) c x := if_neg hc
theorem mN_mo42 : mN (mo42 h a) = mN h + 39 := by show mN (mo41 h a) + 1 = _; rw [mN_mo41]
theorem kS_mo42 (hb : b < mN h) : mS (mo42 h a) b = mS h b := (kS_nA (by rw [mN_mo41]; omega)).trans (kS_mo41 hb)
theorem kI_mo42 (hc : c ≠ mN (mo41 h a)) : mI (mo42 h a) c x = mI (mo41 h a) c x := if_neg hc
theorem mN_mo43 : mN (mo43 h a) = mN h + 40 := by show mN (mo42 h a) + 1 = _; rw [mN_mo42]
theorem kS_mo43 (hb : b < mN h) : mS (mo43 h a) b = mS h b := (kS_nA (by rw [mN_mo42]; omega)).trans (kS_mo42 hb)
theorem kI_mo43 (hc : c ≠ mN (mo42 h a)) : mI (mo43 h a) c x = mI (mo42 h a) c x := if_neg hc
theorem mN_mo44 : mN (mo44 h a) = mN h + 41 := by show mN (mo43 h a) + 1 = _; rw [mN_mo43]
theorem kS_mo44 (hb : b < mN h) : mS (mo44 h a) b = mS h b := (kS_nA (by rw [mN_mo43]; omega)).trans (kS_mo43 hb)
theorem kI_mo44 (hc : c ≠ mN (mo43 h a)) : mI (mo44 h a) c x = mI (mo43 h a) c x := if_neg hc
theorem mN_mo45 : mN (mo45 h a) = mN h + 42 := by show mN (mo44 h a) + 1 = _; rw [mN_mo44]
theorem kS_mo45 (hb : b < mN h) : mS (mo45 h a) b = mS h b := (kS_nA (by rw [mN_mo44]; omega)).trans (kS_mo44 hb)
theorem kI_mo45 (hc : c ≠ mN (mo44 h a)) : mI (mo45 h a) c x = mI (mo44 h a) c x := if_neg hc
end ModK
section Ctors4
variable {l : Launch} {G : GG} {d : Nat} {h h' : Hp} {r : Option Value} {a : Nat}
set_option maxRecDepth 8000 in
theorem m10_init_go (ha : a < mN h) (hs : (mS h a).1 = 10) (kk : Go l G (d + 2) 42 2817 m10_init 42 2817 438 [.ref a] [] (mo45 h a) r h') : Go l G (d + 2) 42 2817 m10_init 0 0 0 [.ref a] [] h r h' := by
  refine go_aload_n rfl rfl ?_
  refine go_objInit rfl v10_1 rfl ?_
  change Go l G (d + 2) 42 2817 m10_init _ _ 4 _ _ (mo0 h a) _ _
  refine go_aload_n rfl rfl ?_
  refine go_sipush (v := nI 700) rfl sp_700N ?_
  refine go_newa (kd := 20) rfl (by decide) (by decide) rfl arr20 (by decide) (by decide) (by decide) ?_
  refine go_putFP rfl f10_7 (by show (mS (nA (mo0 h a) 20 700) a).1 = 10; rw [(kS_nA (h := mo0 h a) (by exact ha)).trans rfl]; exact hs) rfl rfl rfl rfl ?_
  change Go l G (d + 2) 42 2817 m10_init _ _ 13 _ _ (mo1 h a) _ _
  refine go_aload_n rfl rfl ?_
  refine go_bipush (v := nI 16) rfl bp_16N ?_
  refine go_newa (kd := 20) rfl (by decide) (by decide) rfl arr20 (by decide) (by decide) (by decide) ?_
  refine go_dup rfl rfl ?_
  refine go_iconst (v := nI 0) rfl ic_0N ?_
  refine go_iconst (v := nI 0) rfl ic_0N ?_
  refine go_iastore (n := 16) rfl (by show mS (nA (mo1 h a) 20 16) (mN (mo1 h a)) = _; rw [mS_nA, if_pos rfl]) (by unfold vp_in; decide) ?_
  rw [clN 0 (by decide)]
  refine go_dup rfl rfl ?_
  refine go_iconst (v := nI 1) rfl ic_1N ?_
  refine go_iconst (v := nI 0) rfl ic_0N ?_
  refine go_iastore (n := 16) rfl (by show mS (nA (mo1 h a) 20 16) (mN (mo1 h a)) = _; rw [mS_nA, if_pos rfl]) (by unfold vp_in; decide) ?_
  rw [clN 1 (by decide)]
  refine go_dup rfl rfl ?_
  refine go_iconst (v := nI 2) rfl ic_2N ?_
  refine go_iconst (v := nI 0) rfl ic_0N ?_
  refine go_iastore (n := 16) rfl (by show mS (nA (mo1 h a) 20 16) (mN (mo1 h a)) = _; rw [mS_nA, if_pos rfl]) (by unfold vp_in; decide) ?_
  rw [clN 2 (by decide)]
  refine go_dup rfl rfl ?_
  refine go_iconst (v := nI 3) rfl ic_3N ?_
  refine go_iconst (v := nI 0) rfl ic_0N ?_
  refine go_iastore (n := 16) rfl (by show mS (nA (mo1 h a) 20 16) (mN (mo1 h a)) = _; rw [mS_nA, if_pos rfl]) (by unfold vp_in; decide) ?_
  rw [clN 3 (by decide)]
  refine go_dup rfl rfl ?_
  refine go_iconst (v := nI 4) rfl ic_4N ?_
  refine go_bipush (v := nI 20) rfl bp_20N ?_
  refine go_iastore (n := 16) rfl (by show mS (nA (mo1 h a) 20 16) (mN (mo1 h a)) = _; rw [mS_nA, if_pos rfl]) (by unfold vp_in; decide) ?_
  rw [clN 4 (by decide)]
  refine go_dup rfl rfl ?_
  refine go_iconst (v := nI 5) rfl ic_5N ?_
  refine go_iconst (v := nI 0) rfl ic_0N ?_
  refine go_iastore (n := 16) rfl (by show mS (nA (mo1 h a) 20 16) (mN (mo1 h a)) = _; rw [mS_nA, if_pos rfl]) (by unfold vp_in; decide) ?_
  rw [clN 5 (by decide)]
  refine go_dup rfl rfl ?_
  refine go_bipush (v := nI 6) rfl bp_6N ?_
  refine go_iconst (v := nI 0) rfl ic_0N ?_
  refine go_iastore (n := 16) rfl (by show mS (nA (mo1 h a) 20 16) (mN (mo1 h a)) = _; rw [mS_nA, if_pos rfl]) (by unfold vp_in; decide) ?_
  rw [clN 6 (by decide)]
  refine go_dup rfl rfl ?_
  refine go_bipush (v := nI 7) rfl bp_7N ?_
  refine go_iconst (v := nI 0) rfl ic_0N ?_
  refine go_iastore (n := 16) rfl (by show mS (nA (mo1 h a) 20 16) (mN (mo1 h a)) = _; rw [mS_nA, if_pos rfl]) (by unfold vp_in; decide) ?_
  rw [clN 7 (by decide)]
  refine go_dup rfl rfl ?_
  refine go_bipush (v := nI 8) rfl bp_8N ?_
  refine go_iconst (v := nI 0) rfl ic_0N ?_
  refine go_iastore (n := 16) rfl (by show mS (nA (mo1 h a) 20 16) (mN (mo1 h a)) = _; rw [mS_nA, if_pos rfl]) (by unfold vp_in; decide) ?_
  rw [clN 8 (by decide)]
  refine go_dup rfl rfl ?_
  refine go_bipush (v := nI 9) rfl bp_9N ?_
  refine go_iconst (v := nI 0) rfl ic_0N ?_
  refine go_iastore (n := 16) rfl (by show mS (nA (mo1 h a) 20 16) (mN (mo1 h a)) = _; rw [mS_nA, if_pos rfl]) (by unfold vp_in; decide) ?_
  rw [clN 9 (by decide)]
  refine go_dup rfl rfl ?_
  refine go_bipush (v := nI 10) rfl bp_10N ?_
  refine go_iconst (v := nI 0) rfl ic_0N ?_
  refine go_iastore (n := 16) rfl (by show mS (nA (mo1 h a) 20 16) (mN (mo1 h a)) = _; rw [mS_nA, if_pos rfl]) (by unfold vp_in; decide) ?_
  rw [clN 10 (by decide)]
  refine go_dup rfl rfl ?_
  refine go_bipush (v := nI 11) rfl bp_11N ?_
  refine go_iconst (v := nI 0) rfl ic_0N ?_
  refine go_iastore (n := 16) rfl (by show mS (nA (mo1 h a) 20 16) (mN (mo1 h a)) = _; rw [mS_nA, if_pos rfl]) (by unfold vp_in; decide) ?_
  rw [clN 11 (by decide)]
  refine go_dup rfl rfl ?_
  refine go_bipush (v := nI 12) rfl bp_12N ?_
  refine go_bipush (v := nI 20) rfl bp_20N ?_
  refine go_iastore (n := 16) rfl (by show mS (nA (mo1 h a) 20 16) (mN (mo1 h a)) = _; rw [mS_nA, if_pos rfl]) (by unfold vp_in; decide) ?_
  rw [clN 12 (by decide)]
  refine go_dup rfl rfl ?_
  refine go_bipush (v := nI 13) rfl bp_13N ?_
  refine go_iconst (v := nI 0) rfl ic_0N ?_
  refine go_iastore (n := 16) rfl (by show mS (nA (mo1 h a) 20 16) (mN (mo1 h a)) = _; rw [mS_nA, if_pos rfl]) (by unfold vp_in; decide) ?_
  rw [clN 13 (by decide)]
  refine go_dup rfl rfl ?_
  refine go_bipush (v := nI 14) rfl bp_14N ?_
  refine go_iconst (v := nI 0) rfl ic_0N ?_
  refine go_iastore (n := 16) rfl (by show mS (nA (mo1 h a) 20 16) (mN (mo1 h a)) = _; rw [mS_nA, if_pos rfl]) (by unfold vp_in; decide) ?_
  rw [clN 14 (by decide)]
  refine go_dup rfl rfl ?_
  refine go_bipush (v := nI 15) rfl bp_15N ?_
  refine go_iconst (v := nI 0) rfl ic_0N ?_
  refine go_iastore (n := 16) rfl (by show mS (nA (mo1 h a) 20 16) (mN (mo1 h a)) = _; rw [mS_nA, if_pos rfl]) (by unfold vp_in; decide) ?_
  rw [clN 15 (by decide)]
  refine go_putFP rfl f10_13 (by show (mS (nA (mo1 h a) 20 16) a).1 = 10; rw [(kS_nA (h := mo1 h a) (by rw [mN_mo1]; omega)).trans (kS_mo1 ha)]; exact hs) rfl rfl rfl rfl ?_
  change Go l G (d + 2) 42 2817 m10_init _ _ 97 _ _ (mo2 h a) _ _
  refine go_aload_n rfl rfl ?_
  refine go_bipush (v := nI 12) rfl bp_12N ?_
  refine go_newa (kd := 20) rfl (by decide) (by decide) rfl arr20 (by decide) (by decide) (by decide) ?_
  refine go_putFP rfl f10_16 (by show (mS (nA (mo2 h a) 20 12) a).1 = 10; rw [(kS_nA (h := mo2 h a) (by rw [mN_mo2]; omega)).trans (kS_mo2 ha)]; exact hs) rfl rfl rfl rfl ?_
  change Go l G (d + 2) 42 2817 m10_init _ _ 105 _ _ (mo3 h a) _ _
  refine go_aload_n rfl rfl ?_
  refine go_bipush (v := nI 12) rfl bp_12N ?_
  refine go_newa (kd := 20) rfl (by decide) (by decide) rfl arr20 (by decide) (by decide) (by decide) ?_
  refine go_putFP rfl f10_19 (by show (mS (nA (mo3 h a) 20 12) a).1 = 10; rw [(kS_nA (h := mo3 h a) (by rw [mN_mo3]; omega)).trans (kS_mo3 ha)]; exact hs) rfl rfl rfl rfl ?_
  change Go l G (d + 2) 42 2817 m10_init _ _ 113 _ _ (mo4 h a) _ _
  refine go_aload_n rfl rfl ?_
  refine go_bipush (v := nI 12) rfl bp_12N ?_
  refine go_newa (kd := 20) rfl (by decide) (by decide) rfl arr20 (by decide) (by decide) (by decide) ?_
  refine go_putFP rfl f10_22 (by show (mS (nA (mo4 h a) 20 12) a).1 = 10; rw [(kS_nA (h := mo4 h a) (by rw [mN_mo4]; omega)).trans (kS_mo4 ha)]; exact hs) rfl rfl rfl rfl ?_
  change Go l G (d + 2) 42 2817 m10_init _ _ 121 _ _ (mo5 h a) _ _
  refine go_aload_n rfl rfl ?_
  refine go_bipush (v := nI 16) rfl bp_16N ?_
  refine go_newa (kd := 20) rfl (by decide) (by decide) rfl arr20 (by decide) (by decide) (by decide) ?_
  refine go_putFP rfl f10_25 (by show (mS (nA (mo5 h a) 20 16) a).1 = 10; rw [(kS_nA (h := mo5 h a) (by rw [mN_mo5]; omega)).trans (kS_mo5 ha)]; exact hs) rfl rfl rfl rfl ?_
  change Go l G (d + 2) 42 2817 m10_init _ _ 129 _ _ (mo6 h a) _ _
  refine go_aload_n rfl rfl ?_
  refine go_bipush (v := nI 16) rfl bp_16N ?_
  refine go_newa (kd := 20) rfl (by decide) (by decide) rfl arr20 (by decide) (by decide) (by decide) ?_
  refine go_putFP rfl f10_28 (by show (mS (nA (mo6 h a) 20 16) a).1 = 10; rw [(kS_nA (h := mo6 h a) (by rw [mN_mo6]; omega)).trans (kS_mo6 ha)]; exact hs) rfl rfl rfl rfl ?_
  change Go l G (d + 2) 42 2817 m10_init _ _ 137 _ _ (mo7 h a) _ _
  refine go_aload_n rfl rfl ?_
  refine go_bipush (v := nI 16) rfl bp_16N ?_
  refine go_newa (kd := 20) rfl (by decide) (by decide) rfl arr20 (by decide) (by decide) (by decide) ?_
  refine go_putFP rfl f10_31 (by show (mS (nA (mo7 h a) 20 16) a).1 = 10; rw [(kS_nA (h := mo7 h a) (by rw [mN_mo7]; omega)).trans (kS_mo7 ha)]; exact hs) rfl rfl rfl rfl ?_
  change Go l G (d + 2) 42 2817 m10_init _ _ 145 _ _ (mo8 h a) _ _
  refine go_aload_n rfl rfl ?_
  refine go_bipush (v := nI 16) rfl bp_16N ?_
  refine go_newa (kd := 20) rfl (by decide) (by decide) rfl arr20 (by decide) (by decide) (by decide) ?_
  refine go_putFP rfl f10_34 (by show (mS (nA (mo8 h a) 20 16) a).1 = 10; rw [(kS_nA (h := mo8 h a) (by rw [mN_mo8]; omega)).trans (kS_mo8 ha)]; exact hs) rfl rfl rfl rfl ?_
  change Go l G (d + 2) 42 2817 m10_init _ _ 153 _ _ (mo9 h a) _ _
  refine go_aload_n rfl rfl ?_
  refine go_bipush (v := nI 16) rfl bp_16N ?_
  refine go_newa (kd := 20) rfl (by decide) (by decide) rfl arr20 (by decide) (by decide) (by decide) ?_
  refine go_putFP rfl f10_37 (by show (mS (nA (mo9 h a) 20 16) a).1 = 10; rw [(kS_nA (h := mo9 h a) (by rw [mN_mo9]; omega)).trans (kS_mo9 ha)]; exact hs) rfl rfl rfl rfl ?_
  change Go l G (d + 2) 42 2817 m10_init _ _ 161 _ _ (mo10 h a) _ _
  refine go_aload_n rfl rfl ?_
  refine go_bipush (v := nI 20) rfl bp_20N ?_
  refine go_newa (kd := 20) rfl (by decide) (by decide) rfl arr20 (by decide) (by decide) (by decide) ?_
  refine go_putFP rfl f10_40 (by show (mS (nA (mo10 h a) 20 20) a).1 = 10; rw [(kS_nA (h := mo10 h a) (by rw [mN_mo10]; omega)).trans (kS_mo10 ha)]; exact hs) rfl rfl rfl rfl ?_
  change Go l G (d + 2) 42 2817 m10_init _ _ 169 _ _ (mo11 h a) _ _
  refine go_aload_n rfl rfl ?_
  refine go_bipush (v := nI 20) rfl bp_20N ?_
  refine go_newa (kd := 20) rfl (by decide) (by decide) rfl arr20 (by decide) (by decide) (by decide) ?_
  refine go_putFP rfl f10_43 (by show (mS (nA (mo11 h a) 20 20) a).1 = 10; rw [(kS_nA (h := mo11 h a) (by rw [mN_mo11]; omega)).trans (kS_mo11 ha)]; exact hs) rfl rfl rfl rfl ?_
  change Go l G (d + 2) 42 2817 m10_init _ _ 177 _ _ (mo12 h a) _ _
  refine go_aload_n rfl rfl ?_
  refine go_bipush (v := nI 16) rfl bp_16N ?_
  refine go_newa (kd := 20) rfl (by decide) (by decide) rfl arr20 (by decide) (by decide) (by decide) ?_
  refine go_putFP rfl f10_46 (by show (mS (nA (mo12 h a) 20 16) a).1 = 10; rw [(kS_nA (h := mo12 h a) (by rw [mN_mo12]; omega)).trans (kS_mo12 ha)]; exact hs) rfl rfl rfl rfl ?_
  change Go l G (d + 2) 42 2817 m10_init _ _ 185 _ _ (mo13 h a) _ _
  refine go_aload_n rfl rfl ?_
  refine go_bipush (v := nI 16) rfl bp_16N ?_
  refine go_newa (kd := 20) rfl (by decide) (by decide) rfl arr20 (by decide) (by decide) (by decide) ?_
  refine go_putFP rfl f10_49 (by show (mS (nA (mo13 h a) 20 16) a).1 = 10; rw [(kS_nA (h := mo13 h a) (by rw [mN_mo13]; omega)).trans (kS_mo13 ha)]; exact hs) rfl rfl rfl rfl ?_
  change Go l G (d + 2) 42 2817 m10_init _ _ 193 _ _ (mo14 h a) _ _
  refine go_aload_n rfl rfl ?_
  refine go_bipush (v := nI 16) rfl bp_16N ?_
  refine go_newa (kd := 20) rfl (by decide) (by decide) rfl arr20 (by decide) (by decide) (by decide) ?_
  refine go_putFP rfl f10_52 (by show (mS (nA (mo14 h a) 20 16) a).1 = 10; rw [(kS_nA (h := mo14 h a) (by rw [mN_mo14]; omega)).trans (kS_mo14 ha)]; exact hs) rfl rfl rfl rfl ?_
  change Go l G (d + 2) 42 2817 m10_init _ _ 201 _ _ (mo15 h a) _ _
  refine go_aload_n rfl rfl ?_
  refine go_bipush (v := nI 6) rfl bp_6N ?_
  refine go_newa (kd := 20) rfl (by decide) (by decide) rfl arr20 (by decide) (by decide) (by decide) ?_
  refine go_putFP rfl f10_55 (by show (mS (nA (mo15 h a) 20 6) a).1 = 10; rw [(kS_nA (h := mo15 h a) (by rw [mN_mo15]; omega)).trans (kS_mo15 ha)]; exact hs) rfl rfl rfl rfl ?_
  change Go l G (d + 2) 42 2817 m10_init _ _ 209 _ _ (mo16 h a) _ _
  refine go_aload_n rfl rfl ?_
  refine go_bipush (v := nI 6) rfl bp_6N ?_
  refine go_newa (kd := 20) rfl (by decide) (by decide) rfl arr20 (by decide) (by decide) (by decide) ?_
  refine go_putFP rfl f10_58 (by show (mS (nA (mo16 h a) 20 6) a).1 = 10; rw [(kS_nA (h := mo16 h a) (by rw [mN_mo16]; omega)).trans (kS_mo16 ha)]; exact hs) rfl rfl rfl rfl ?_
  change Go l G (d + 2) 42 2817 m10_init _ _ 217 _ _ (mo17 h a) _ _
  refine go_aload_n rfl rfl ?_
  refine go_sipush (v := nI 128) rfl sp_128N ?_
  refine go_newa (kd := 20) rfl (by decide) (by decide) rfl arr20 (by decide) (by decide) (by decide) ?_
  refine go_putFP rfl f10_61 (by show (mS (nA (mo17 h a) 20 128) a).1 = 10; rw [(kS_nA (h := mo17 h a) (by rw [mN_mo17]; omega)).trans (kS_mo17 ha)]; exact hs) rfl rfl rfl rfl ?_
  change Go l G (d + 2) 42 2817 m10_init _ _ 226 _ _ (mo18 h a) _ _
  refine go_aload_n rfl rfl ?_
  refine go_sipush (v := nI 128) rfl sp_128N ?_
  refine go_newa (kd := 20) rfl (by decide) (by decide) rfl arr20 (by decide) (by decide) (by decide) ?_
  refine go_putFP rfl f10_64 (by show (mS (nA (mo18 h a) 20 128) a).1 = 10; rw [(kS_nA (h := mo18 h a) (by rw [mN_mo18]; omega)).trans (kS_mo18 ha)]; exact hs) rfl rfl rfl rfl ?_
  change Go l G (d + 2) 42 2817 m10_init _ _ 235 _ _ (mo19 h a) _ _
  refine go_aload_n rfl rfl ?_
  refine go_iconst rfl ic_m1 ?_
  refine go_putI rfl f10_67 (by rw [kS_mo19 ha]; exact hs) rfl rfl ?_
  change Go l G (d + 2) 42 2817 m10_init _ _ 240 _ _ (mo20 h a) _ _
  refine go_aload_n rfl rfl ?_
  refine go_bipush (v := nI 7) rfl bp_7N ?_
  refine go_newa (kd := 23) rfl (by decide) (by decide) rfl arr23 (by decide) (by decide) (by decide) ?_
  refine go_putFP rfl f10_71 (by show (mS (nA (mo20 h a) 23 7) a).1 = 10; rw [(kS_nA (h := mo20 h a) (by rw [mN_mo20]; omega)).trans (kS_mo20 ha)]; exact hs) rfl rfl rfl rfl ?_
  change Go l G (d + 2) 42 2817 m10_init _ _ 248 _ _ (mo21 h a) _ _
  refine go_aload_n rfl rfl ?_
  refine go_bipush (v := nI 64) rfl bp_64N ?_
  refine go_newa (kd := 23) rfl (by decide) (by decide) rfl arr23 (by decide) (by decide) (by decide) ?_
  refine go_putFP rfl f10_75 (by show (mS (nA (mo21 h a) 23 64) a).1 = 10; rw [(kS_nA (h := mo21 h a) (by rw [mN_mo21]; omega)).trans (kS_mo21 ha)]; exact hs) rfl rfl rfl rfl ?_
  change Go l G (d + 2) 42 2817 m10_init _ _ 256 _ _ (mo22 h a) _ _
  refine go_aload_n rfl rfl ?_
  refine go_bipush (v := nI 23) rfl bp_23N ?_
  refine go_newa (kd := 20) rfl (by decide) (by decide) rfl arr20 (by decide) (by decide) (by decide) ?_
  refine go_putFP rfl f10_78 (by show (mS (nA (mo22 h a) 20 23) a).1 = 10; rw [(kS_nA (h := mo22 h a) (by rw [mN_mo22]; omega)).trans (kS_mo22 ha)]; exact hs) rfl rfl rfl rfl ?_
  change Go l G (d + 2) 42 2817 m10_init _ _ 264 _ _ (mo23 h a) _ _
  refine go_aload_n rfl rfl ?_
  refine go_bipush (v := nI 23) rfl bp_23N ?_
  refine go_newa (kd := 20) rfl (by decide) (by decide) rfl arr20 (by decide) (by decide) (by decide) ?_
  refine go_putFP rfl f10_81 (by show (mS (nA (mo23 h a) 20 23) a).1 = 10; rw [(kS_nA (h := mo23 h a) (by rw [mN_mo23]; omega)).trans (kS_mo23 ha)]; exact hs) rfl rfl rfl rfl ?_
  change Go l G (d + 2) 42 2817 m10_init _ _ 272 _ _ (mo24 h a) _ _
  refine go_aload_n rfl rfl ?_
  refine go_bipush (v := nI 23) rfl bp_23N ?_
  refine go_newa (kd := 20) rfl (by decide) (by decide) rfl arr20 (by decide) (by decide) (by decide) ?_
  refine go_putFP rfl f10_84 (by show (mS (nA (mo24 h a) 20 23) a).1 = 10; rw [(kS_nA (h := mo24 h a) (by rw [mN_mo24]; omega)).trans (kS_mo24 ha)]; exact hs) rfl rfl rfl rfl ?_
  change Go l G (d + 2) 42 2817 m10_init _ _ 280 _ _ (mo25 h a) _ _
  refine go_aload_n rfl rfl ?_
  refine go_bipush (v := nI 23) rfl bp_23N ?_
  refine go_newa (kd := 20) rfl (by decide) (by decide) rfl arr20 (by decide) (by decide) (by decide) ?_
  refine go_putFP rfl f10_87 (by show (mS (nA (mo25 h a) 20 23) a).1 = 10; rw [(kS_nA (h := mo25 h a) (by rw [mN_mo25]; omega)).trans (kS_mo25 ha)]; exact hs) rfl rfl rfl rfl ?_
  change Go l G (d + 2) 42 2817 m10_init _ _ 288 _ _ (mo26 h a) _ _
  refine go_aload_n rfl rfl ?_
  refine go_bipush (v := nI 23) rfl bp_23N ?_
  refine go_newa (kd := 20) rfl (by decide) (by decide) rfl arr20 (by decide) (by decide) (by decide) ?_
  refine go_putFP rfl f10_90 (by show (mS (nA (mo26 h a) 20 23) a).1 = 10; rw [(kS_nA (h := mo26 h a) (by rw [mN_mo26]; omega)).trans (kS_mo26 ha)]; exact hs) rfl rfl rfl rfl ?_
  change Go l G (d + 2) 42 2817 m10_init _ _ 296 _ _ (mo27 h a) _ _
  refine go_aload_n rfl rfl ?_
  refine go_bipush (v := nI 23) rfl bp_23N ?_
  refine go_newa (kd := 20) rfl (by decide) (by decide) rfl arr20 (by decide) (by decide) (by decide) ?_
  refine go_putFP rfl f10_93 (by show (mS (nA (mo27 h a) 20 23) a).1 = 10; rw [(kS_nA (h := mo27 h a) (by rw [mN_mo27]; omega)).trans (kS_mo27 ha)]; exact hs) rfl rfl rfl rfl ?_
  change Go l G (d + 2) 42 2817 m10_init _ _ 304 _ _ (mo28 h a) _ _
  refine go_aload_n rfl rfl ?_
  refine go_sipush (v := nI 184) rfl sp_184N ?_
  refine go_newa (kd := 20) rfl (by decide) (by decide) rfl arr20 (by decide) (by decide) (by decide) ?_
  refine go_putFP rfl f10_96 (by show (mS (nA (mo28 h a) 20 184) a).1 = 10; rw [(kS_nA (h := mo28 h a) (by rw [mN_mo28]; omega)).trans (kS_mo28 ha)]; exact hs) rfl rfl rfl rfl ?_
  change Go l G (d + 2) 42 2817 m10_init _ _ 313 _ _ (mo29 h a) _ _
  refine go_aload_n rfl rfl ?_
  refine go_sipush (v := nI 184) rfl sp_184N ?_
  refine go_newa (kd := 20) rfl (by decide) (by decide) rfl arr20 (by decide) (by decide) (by decide) ?_
  refine go_putFP rfl f10_99 (by show (mS (nA (mo29 h a) 20 184) a).1 = 10; rw [(kS_nA (h := mo29 h a) (by rw [mN_mo29]; omega)).trans (kS_mo29 ha)]; exact hs) rfl rfl rfl rfl ?_
  change Go l G (d + 2) 42 2817 m10_init _ _ 322 _ _ (mo30 h a) _ _
  refine go_aload_n rfl rfl ?_
  refine go_sipush (v := nI 184) rfl sp_184N ?_
  refine go_newa (kd := 20) rfl (by decide) (by decide) rfl arr20 (by decide) (by decide) (by decide) ?_
  refine go_putFP rfl f10_102 (by show (mS (nA (mo30 h a) 20 184) a).1 = 10; rw [(kS_nA (h := mo30 h a) (by rw [mN_mo30]; omega)).trans (kS_mo30 ha)]; exact hs) rfl rfl rfl rfl ?_
  change Go l G (d + 2) 42 2817 m10_init _ _ 331 _ _ (mo31 h a) _ _
  refine go_aload_n rfl rfl ?_
  refine go_sipush (v := nI 184) rfl sp_184N ?_
  refine go_newa (kd := 20) rfl (by decide) (by decide) rfl arr20 (by decide) (by decide) (by decide) ?_
  refine go_putFP rfl f10_105 (by show (mS (nA (mo31 h a) 20 184) a).1 = 10; rw [(kS_nA (h := mo31 h a) (by rw [mN_mo31]; omega)).trans (kS_mo31 ha)]; exact hs) rfl rfl rfl rfl ?_
  change Go l G (d + 2) 42 2817 m10_init _ _ 340 _ _ (mo32 h a) _ _
  refine go_aload_n rfl rfl ?_
  refine go_sipush (v := nI 184) rfl sp_184N ?_
  refine go_newa (kd := 20) rfl (by decide) (by decide) rfl arr20 (by decide) (by decide) (by decide) ?_
  refine go_putFP rfl f10_108 (by show (mS (nA (mo32 h a) 20 184) a).1 = 10; rw [(kS_nA (h := mo32 h a) (by rw [mN_mo32]; omega)).trans (kS_mo32 ha)]; exact hs) rfl rfl rfl rfl ?_
  change Go l G (d + 2) 42 2817 m10_init _ _ 349 _ _ (mo33 h a) _ _
  refine go_aload_n rfl rfl ?_
  refine go_sipush (v := nI 184) rfl sp_184N ?_
  refine go_newa (kd := 20) rfl (by decide) (by decide) rfl arr20 (by decide) (by decide) (by decide) ?_
  refine go_putFP rfl f10_111 (by show (mS (nA (mo33 h a) 20 184) a).1 = 10; rw [(kS_nA (h := mo33 h a) (by rw [mN_mo33]; omega)).trans (kS_mo33 ha)]; exact hs) rfl rfl rfl rfl ?_
  change Go l G (d + 2) 42 2817 m10_init _ _ 358 _ _ (mo34 h a) _ _
  refine go_aload_n rfl rfl ?_
  refine go_sipush (v := nI 184) rfl sp_184N ?_
  refine go_newa (kd := 20) rfl (by decide) (by decide) rfl arr20 (by decide) (by decide) (by decide) ?_
  refine go_putFP rfl f10_114 (by show (mS (nA (mo34 h a) 20 184) a).1 = 10; rw [(kS_nA (h := mo34 h a) (by rw [mN_mo34]; omega)).trans (kS_mo34 ha)]; exact hs) rfl rfl rfl rfl ?_
  change Go l G (d + 2) 42 2817 m10_init _ _ 367 _ _ (mo35 h a) _ _
  refine go_aload_n rfl rfl ?_
  refine go_iconst rfl ic_m1 ?_
  refine go_putI rfl f10_117 (by rw [kS_mo35 ha]; exact hs) rfl rfl ?_
  change Go l G (d + 2) 42 2817 m10_init _ _ 372 _ _ (mo36 h a) _ _
  refine go_aload_n rfl rfl ?_
  refine go_iconst (v := nI 4) rfl ic_4N ?_
  refine go_newa (kd := 20) rfl (by decide) (by decide) rfl arr20 (by decide) (by decide) (by decide) ?_
  refine go_putFP rfl f10_120 (by show (mS (nA (mo36 h a) 20 4) a).1 = 10; rw [(kS_nA (h := mo36 h a) (by rw [mN_mo36]; omega)).trans (kS_mo36 ha)]; exact hs) rfl rfl rfl rfl ?_
  change Go l G (d + 2) 42 2817 m10_init _ _ 379 _ _ (mo37 h a) _ _
  refine go_aload_n rfl rfl ?_
  refine go_iconst (v := nI 4) rfl ic_4N ?_
  refine go_newa (kd := 20) rfl (by decide) (by decide) rfl arr20 (by decide) (by decide) (by decide) ?_
  refine go_putFP rfl f10_123 (by show (mS (nA (mo37 h a) 20 4) a).1 = 10; rw [(kS_nA (h := mo37 h a) (by rw [mN_mo37]; omega)).trans (kS_mo37 ha)]; exact hs) rfl rfl rfl rfl ?_
  change Go l G (d + 2) 42 2817 m10_init _ _ 386 _ _ (mo38 h a) _ _
  refine go_aload_n rfl rfl ?_
  refine go_iconst (v := nI 4) rfl ic_4N ?_
  refine go_newa (kd := 20) rfl (by decide) (by decide) rfl arr20 (by decide) (by decide) (by decide) ?_
  refine go_putFP rfl f10_126 (by show (mS (nA (mo38 h a) 20 4) a).1 = 10; rw [(kS_nA (h := mo38 h a) (by rw [mN_mo38]; omega)).trans (kS_mo38 ha)]; exact hs) rfl rfl rfl rfl ?_
  change Go l G (d + 2) 42 2817 m10_init _ _ 393 _ _ (mo39 h a) _ _
  refine go_aload_n rfl rfl ?_
  refine go_iconst rfl ic_m1 ?_
  refine go_putI rfl f10_129 (by rw [kS_mo39 ha]; exact hs) rfl rfl ?_
  change Go l G (d + 2) 42 2817 m10_init _ _ 398 _ _ (mo40 h a) _ _
  refine go_aload_n rfl rfl ?_
  refine go_bipush (v := nI 24) rfl bp_24N ?_
  refine go_newa (kd := 20) rfl (by decide) (by decide) rfl arr20 (by decide) (by decide) (by decide) ?_
  refine go_putFP rfl f10_132 (by show (mS (nA (mo40 h a) 20 24) a).1 = 10; rw [(kS_nA (h := mo40 h a) (by rw [mN_mo40]; omega)).trans (kS_mo40 ha)]; exact hs) rfl rfl rfl rfl ?_
  change Go l G (d + 2) 42 2817 m10_init _ _ 406 _ _ (mo41 h a) _ _
  refine go_aload_n rfl rfl ?_
  refine go_bipush (v := nI 24) rfl bp_24N ?_
  refine go_newa (kd := 20) rfl (by decide) (by decide) rfl arr20 (by decide) (by decide) (by decide) ?_
  refine go_putFP rfl f10_135 (by show (mS (nA (mo41 h a) 20 24) a).1 = 10; rw [(kS_nA (h := mo41 h a) (by rw [mN_mo41]; omega)).trans (kS_mo41 ha)]; exact hs) rfl rfl rfl rfl ?_
  change Go l G (d + 2) 42 2817 m10_init _ _ 414 _ _ (mo42 h a) _ _
  refine go_aload_n rfl rfl ?_
  refine go_bipush (v := nI 24) rfl bp_24N ?_
  refine go_newa (kd := 20) rfl (by decide) (by decide) rfl arr20 (by decide) (by decide) (by decide) ?_
  refine go_putFP rfl f10_138 (by show (mS (nA (mo42 h a) 20 24) a).1 = 10; rw [(kS_nA (h := mo42 h a) (by rw [mN_mo42]; omega)).trans (kS_mo42 ha)]; exact hs) rfl rfl rfl rfl ?_
  change Go l G (d + 2) 42 2817 m10_init _ _ 422 _ _ (mo43 h a) _ _
  refine go_aload_n rfl rfl ?_
  refine go_bipush (v := nI 24) rfl bp_24N ?_
  refine go_newa (kd := 22) rfl (by decide) (by decide) rfl arr22 (by decide) (by decide) (by decide) ?_
  refine go_putFP rfl f10_141 (by show (mS (nA (mo43 h a) 22 24) a).1 = 10; rw [(kS_nA (h := mo43 h a) (by rw [mN_mo43]; omega)).trans (kS_mo43 ha)]; exact hs) rfl rfl rfl rfl ?_
  change Go l G (d + 2) 42 2817 m10_init _ _ 430 _ _ (mo44 h a) _ _
  refine go_aload_n rfl rfl ?_
  refine go_bipush (v := nI 24) rfl bp_24N ?_
  refine go_newa (kd := 22) rfl (by decide) (by decide) rfl arr22 (by decide) (by decide) (by decide) ?_
  refine go_putFP rfl f10_145 (by show (mS (nA (mo44 h a) 22 24) a).1 = 10; rw [(kS_nA (h := mo44 h a) (by rw [mN_mo44]; omega)).trans (kS_mo44 ha)]; exact hs) rfl rfl rfl rfl ?_
  change Go l G (d + 2) 42 2817 m10_init _ _ 438 _ _ (mo45 h a) _ _
  exact kk
end Ctors4
def mcL : Nat × Nat × Nat := (42, 2817, 438)
