/-! ===== the reference: LINES, what they write ===== -/
theorem ad_o {P : Pl} {j b w : Nat} {v : Nat → Int32} {k : Nat} (h : ¬ (b ≤ k ∧ k < b + w)) : (adP P j b w v).2 k = P.2 k := funext fun i => if_neg (fun q => h ⟨q.1, q.2.1⟩)
theorem ad_n {P : Pl} {j b w : Nat} {v : Nat → Int32} {k i : Nat} (h : i ≠ P.1 j) : (adP P j b w v).2 k i = P.2 k i := if_neg (fun q => h q.2.2)
theorem ad_a {P : Pl} {j b w : Nat} {v : Nat → Int32} {k : Nat} (h1 : b ≤ k) (h2 : k < b + w) : (adP P j b w v).2 k (P.1 j) = v (k - b) := if_pos ⟨h1, h2, rfl⟩
theorem MP.ad0 {U : IM} {P : Pl} {a b c : Int32} (h : MP U P) : MP (u2 (u2 (u2 (u2 U 105 (P.1 0) a) 106 (P.1 0) b) 107 (P.1 0) c) 104 0 (nI (P.1 0 + 1))) (adP P 0 0 3 (v3 a b c)) := by
  obtain ⟨⟨n0, n1, n2, n3, n4, n5, n6, n7⟩, h0, h1, h2, h3, h4, h5⟩ := h
  refine ⟨⟨?_, ?_, ?_, ?_, ?_, ?_, ?_, ?_⟩, ?_, ?_, ?_, ?_, fun x hx => ?_, fun i hi => ?_⟩
  · exact u2_at _ _ _ _
  · simp (disch := omega) only [u2_ne, u2_nk]; exact n1
  · simp (disch := omega) only [u2_ne, u2_nk]; exact n2
  · simp (disch := omega) only [u2_ne, u2_nk]; exact n3
  · rw [ad_o (by omega)]; simp (disch := omega) only [u2_ne, u2_nk]; exact n4
  · rw [ad_o (by omega)]; simp (disch := omega) only [u2_ne, u2_nk]; exact n5
  · rw [ad_o (by omega)]; simp (disch := omega) only [u2_ne, u2_nk]; exact n6
  · simp (disch := omega) only [u2_ne, u2_nk]; exact n7
  · intro i hi
    have hi : i < P.1 0 + 1 := hi
    by_cases q : i = P.1 0
    · subst q
      rw [ad_a (k := 0) (by omega) (by omega), ad_a (k := 1) (by omega) (by omega), ad_a (k := 2) (by omega) (by omega)]
      simp (disch := omega) only [u2_ne, u2_at]
      exact ⟨rfl, rfl, rfl⟩
    · rw [ad_n (k := 0) q, ad_n (k := 1) q, ad_n (k := 2) q]
      simp (disch := omega) only [u2_ne, u2_nk]
      exact h0 i (by omega)
  · intro i hi
    have hi : i < P.1 1 := hi
    rw [ad_o (k := 3) (by omega), ad_o (k := 4) (by omega), ad_o (k := 5) (by omega), ad_o (k := 6) (by omega), ad_o (k := 7) (by omega)]
    simp (disch := omega) only [u2_ne]
    exact h1 i hi
  · intro i hi
    have hi : i < P.1 2 := hi
    rw [ad_o (k := 8) (by omega), ad_o (k := 9) (by omega)]
    simp (disch := omega) only [u2_ne]
    exact h2 i hi
  · intro i hi
    have hi : i < P.1 3 := hi
    rw [ad_o (k := 10) (by omega), ad_o (k := 11) (by omega), ad_o (k := 12) (by omega)]
    simp (disch := omega) only [u2_ne]
    exact h3 i hi
  · rw [ad_o (k := 14) (by omega), ad_o (k := 15) (by omega), ad_o (k := 16) (by omega)]
    simp (disch := omega) only [u2_ne]
    exact h4 x hx
  · have hi : i < P.1 4 := hi
    rw [ad_o (k := 13) (by omega)]
    simp (disch := omega) only [u2_ne]
    exact h5 i hi
theorem MP.ad1 {U : IM} {P : Pl} {a b c e g : Int32} (h : MP U P) : MP (u2 (u2 (u2 (u2 (u2 (u2 U 108 (P.1 1) a) 109 (P.1 1) b) 110 (P.1 1) c) 111 (P.1 1) e) 112 (P.1 1) g) 104 1 (nI (P.1 1 + 1))) (adP P 1 3 5 (v5 a b c e g)) := by
  obtain ⟨⟨n0, n1, n2, n3, n4, n5, n6, n7⟩, h0, h1, h2, h3, h4, h5⟩ := h
  refine ⟨⟨?_, ?_, ?_, ?_, ?_, ?_, ?_, ?_⟩, ?_, ?_, ?_, ?_, fun x hx => ?_, fun i hi => ?_⟩
  · simp (disch := omega) only [u2_ne, u2_nk]; exact n0
  · exact u2_at _ _ _ _
  · simp (disch := omega) only [u2_ne, u2_nk]; exact n2
  · simp (disch := omega) only [u2_ne, u2_nk]; exact n3
  · rw [ad_o (by omega)]; simp (disch := omega) only [u2_ne, u2_nk]; exact n4
  · rw [ad_o (by omega)]; simp (disch := omega) only [u2_ne, u2_nk]; exact n5
  · rw [ad_o (by omega)]; simp (disch := omega) only [u2_ne, u2_nk]; exact n6
  · simp (disch := omega) only [u2_ne, u2_nk]; exact n7
  · intro i hi
    have hi : i < P.1 0 := hi
    rw [ad_o (k := 0) (by omega), ad_o (k := 1) (by omega), ad_o (k := 2) (by omega)]
    simp (disch := omega) only [u2_ne]
    exact h0 i hi
  · intro i hi
    have hi : i < P.1 1 + 1 := hi
    by_cases q : i = P.1 1
    · subst q
      rw [ad_a (k := 3) (by omega) (by omega), ad_a (k := 4) (by omega) (by omega), ad_a (k := 5) (by omega) (by omega), ad_a (k := 6) (by omega) (by omega), ad_a (k := 7) (by omega) (by omega)]
      simp (disch := omega) only [u2_ne, u2_at]
      exact ⟨rfl, rfl, rfl, rfl, rfl⟩
    · rw [ad_n (k := 3) q, ad_n (k := 4) q, ad_n (k := 5) q, ad_n (k := 6) q, ad_n (k := 7) q]
      simp (disch := omega) only [u2_ne, u2_nk]
      exact h1 i (by omega)
  · intro i hi
    have hi : i < P.1 2 := hi
    rw [ad_o (k := 8) (by omega), ad_o (k := 9) (by omega)]
    simp (disch := omega) only [u2_ne]
    exact h2 i hi
  · intro i hi
    have hi : i < P.1 3 := hi
    rw [ad_o (k := 10) (by omega), ad_o (k := 11) (by omega), ad_o (k := 12) (by omega)]
    simp (disch := omega) only [u2_ne]
    exact h3 i hi
  · rw [ad_o (k := 14) (by omega), ad_o (k := 15) (by omega), ad_o (k := 16) (by omega)]
    simp (disch := omega) only [u2_ne]
    exact h4 x hx
  · have hi : i < P.1 4 := hi
    rw [ad_o (k := 13) (by omega)]
    simp (disch := omega) only [u2_ne]
    exact h5 i hi
theorem MP.ad2 {U : IM} {P : Pl} {a b : Int32} (h : MP U P) : MP (u2 (u2 (u2 U 113 (P.1 2) a) 114 (P.1 2) b) 104 2 (nI (P.1 2 + 1))) (adP P 2 8 2 (v3 a b 0)) := by
  obtain ⟨⟨n0, n1, n2, n3, n4, n5, n6, n7⟩, h0, h1, h2, h3, h4, h5⟩ := h
  refine ⟨⟨?_, ?_, ?_, ?_, ?_, ?_, ?_, ?_⟩, ?_, ?_, ?_, ?_, fun x hx => ?_, fun i hi => ?_⟩
  · simp (disch := omega) only [u2_ne, u2_nk]; exact n0
  · simp (disch := omega) only [u2_ne, u2_nk]; exact n1
  · exact u2_at _ _ _ _
  · simp (disch := omega) only [u2_ne, u2_nk]; exact n3
  · rw [ad_o (by omega)]; simp (disch := omega) only [u2_ne, u2_nk]; exact n4
  · rw [ad_o (by omega)]; simp (disch := omega) only [u2_ne, u2_nk]; exact n5
  · rw [ad_o (by omega)]; simp (disch := omega) only [u2_ne, u2_nk]; exact n6
  · simp (disch := omega) only [u2_ne, u2_nk]; exact n7
  · intro i hi
    have hi : i < P.1 0 := hi
    rw [ad_o (k := 0) (by omega), ad_o (k := 1) (by omega), ad_o (k := 2) (by omega)]
    simp (disch := omega) only [u2_ne]
    exact h0 i hi
  · intro i hi
    have hi : i < P.1 1 := hi
    rw [ad_o (k := 3) (by omega), ad_o (k := 4) (by omega), ad_o (k := 5) (by omega), ad_o (k := 6) (by omega), ad_o (k := 7) (by omega)]
    simp (disch := omega) only [u2_ne]
    exact h1 i hi
  · intro i hi
    have hi : i < P.1 2 + 1 := hi
    by_cases q : i = P.1 2
    · subst q
      rw [ad_a (k := 8) (by omega) (by omega), ad_a (k := 9) (by omega) (by omega)]
      simp (disch := omega) only [u2_ne, u2_at]
      exact ⟨rfl, rfl⟩
    · rw [ad_n (k := 8) q, ad_n (k := 9) q]
      simp (disch := omega) only [u2_ne, u2_nk]
      exact h2 i (by omega)
  · intro i hi
    have hi : i < P.1 3 := hi
    rw [ad_o (k := 10) (by omega), ad_o (k := 11) (by omega), ad_o (k := 12) (by omega)]
    simp (disch := omega) only [u2_ne]
    exact h3 i hi
  · rw [ad_o (k := 14) (by omega), ad_o (k := 15) (by omega), ad_o (k := 16) (by omega)]
    simp (disch := omega) only [u2_ne]
    exact h4 x hx
  · have hi : i < P.1 4 := hi
    rw [ad_o (k := 13) (by omega)]
    simp (disch := omega) only [u2_ne]
    exact h5 i hi
theorem MP.ad3 {U : IM} {P : Pl} {a b c : Int32} (h : MP U P) : MP (u2 (u2 (u2 (u2 U 115 (P.1 3) a) 116 (P.1 3) b) 117 (P.1 3) c) 104 3 (nI (P.1 3 + 1))) (adP P 3 10 3 (v3 a b c)) := by
  obtain ⟨⟨n0, n1, n2, n3, n4, n5, n6, n7⟩, h0, h1, h2, h3, h4, h5⟩ := h
  refine ⟨⟨?_, ?_, ?_, ?_, ?_, ?_, ?_, ?_⟩, ?_, ?_, ?_, ?_, fun x hx => ?_, fun i hi => ?_⟩
  · simp (disch := omega) only [u2_ne, u2_nk]; exact n0
  · simp (disch := omega) only [u2_ne, u2_nk]; exact n1
  · simp (disch := omega) only [u2_ne, u2_nk]; exact n2
  · exact u2_at _ _ _ _
  · rw [ad_o (by omega)]; simp (disch := omega) only [u2_ne, u2_nk]; exact n4
  · rw [ad_o (by omega)]; simp (disch := omega) only [u2_ne, u2_nk]; exact n5
  · rw [ad_o (by omega)]; simp (disch := omega) only [u2_ne, u2_nk]; exact n6
  · simp (disch := omega) only [u2_ne, u2_nk]; exact n7
  · intro i hi
    have hi : i < P.1 0 := hi
    rw [ad_o (k := 0) (by omega), ad_o (k := 1) (by omega), ad_o (k := 2) (by omega)]
    simp (disch := omega) only [u2_ne]
    exact h0 i hi
  · intro i hi
    have hi : i < P.1 1 := hi
    rw [ad_o (k := 3) (by omega), ad_o (k := 4) (by omega), ad_o (k := 5) (by omega), ad_o (k := 6) (by omega), ad_o (k := 7) (by omega)]
    simp (disch := omega) only [u2_ne]
    exact h1 i hi
  · intro i hi
    have hi : i < P.1 2 := hi
    rw [ad_o (k := 8) (by omega), ad_o (k := 9) (by omega)]
    simp (disch := omega) only [u2_ne]
    exact h2 i hi
  · intro i hi
    have hi : i < P.1 3 + 1 := hi
    by_cases q : i = P.1 3
    · subst q
      rw [ad_a (k := 10) (by omega) (by omega), ad_a (k := 11) (by omega) (by omega), ad_a (k := 12) (by omega) (by omega)]
      simp (disch := omega) only [u2_ne, u2_at]
      exact ⟨rfl, rfl, rfl⟩
    · rw [ad_n (k := 10) q, ad_n (k := 11) q, ad_n (k := 12) q]
      simp (disch := omega) only [u2_ne, u2_nk]
      exact h3 i (by omega)
  · rw [ad_o (k := 14) (by omega), ad_o (k := 15) (by omega), ad_o (k := 16) (by omega)]
    simp (disch := omega) only [u2_ne]
    exact h4 x hx
  · have hi : i < P.1 4 := hi
    rw [ad_o (k := 13) (by omega)]
    simp (disch := omega) only [u2_ne]
    exact h5 i hi
theorem MP.mx {U : IM} {P : Pl} {k : Nat} {v : Int32} (h : MP U P) (hk : 3 ≤ k) : MP U (mxD P k v) := by
  obtain ⟨⟨n0, n1, n2, n3, n4, n5, n6, n7⟩, h0, h1, h2, h3, h4, h5⟩ := h
  have o : ∀ r, r ≠ 20 → (mxD P k v).2 r = P.2 r := fun r hr => u2_row _ _ hr
  refine ⟨⟨n0, n1, n2, n3, n4.trans (u2_nk _ _ (by omega)).symm, n5.trans (u2_nk _ _ (by omega)).symm, n6.trans (u2_nk _ _ (by omega)).symm, n7⟩, ?_, ?_, ?_, ?_, ?_, ?_⟩
  · intro i hi; rw [o 0 (by omega), o 1 (by omega), o 2 (by omega)]; exact h0 i hi
  · intro i hi; rw [o 3 (by omega), o 4 (by omega), o 5 (by omega), o 6 (by omega), o 7 (by omega)]; exact h1 i hi
  · intro i hi; rw [o 8 (by omega), o 9 (by omega)]; exact h2 i hi
  · intro i hi; rw [o 10 (by omega), o 11 (by omega), o 12 (by omega)]; exact h3 i hi
  · intro i hi; rw [o 14 (by omega), o 15 (by omega), o 16 (by omega)]; exact h4 i hi
  · intro i hi; rw [o 13 (by omega)]; exact h5 i hi
theorem MP.st {U : IM} {P : Pl} {q : Nat} {v : Int32} (h : MP U P) (hq : q < 3) : MP (u2 U 104 (4 + q) v) (P.1, u2 P.2 20 q v) := by
  obtain ⟨⟨n0, n1, n2, n3, n4, n5, n6, n7⟩, h0, h1, h2, h3, h4, h5⟩ := h
  have o : ∀ r, r ≠ 20 → u2 P.2 20 q v r = P.2 r := fun r hr => u2_row _ _ hr
  have s : ∀ k, k < 3 → U 104 (4 + k) = P.2 20 k → u2 U 104 (4 + q) v 104 (4 + k) = u2 P.2 20 q v 20 k := fun k hk e => by
    by_cases c : k = q
    · rw [c, u2_at, u2_at]
    · rw [u2_nk _ _ (by omega), u2_nk _ _ c]; exact e
  refine ⟨⟨by rw [u2_nk _ _ (by omega)]; exact n0, by rw [u2_nk _ _ (by omega)]; exact n1, by rw [u2_nk _ _ (by omega)]; exact n2, by rw [u2_nk _ _ (by omega)]; exact n3, s 0 (by omega) n4, s 1 (by omega) n5, s 2 (by omega) n6, by rw [u2_nk _ _ (by omega)]; exact n7⟩, ?_, ?_, ?_, ?_, ?_, ?_⟩
  · intro i hi; dsimp only; rw [o 0 (by omega), o 1 (by omega), o 2 (by omega), u2_ne _ _ (by omega), u2_ne _ _ (by omega), u2_ne _ _ (by omega)]; exact h0 i hi
  · intro i hi; dsimp only; rw [o 3 (by omega), o 4 (by omega), o 5 (by omega), o 6 (by omega), o 7 (by omega), u2_ne _ _ (by omega), u2_ne _ _ (by omega), u2_ne _ _ (by omega), u2_ne _ _ (by omega), u2_ne _ _ (by omega)]; exact h1 i hi
  · intro i hi; dsimp only; rw [o 8 (by omega), o 9 (by omega), u2_ne _ _ (by omega), u2_ne _ _ (by omega)]; exact h2 i hi
  · intro i hi; dsimp only; rw [o 10 (by omega), o 11 (by omega), o 12 (by omega), u2_ne _ _ (by omega), u2_ne _ _ (by omega), u2_ne _ _ (by omega)]; exact h3 i hi
  · intro i hi; dsimp only; rw [o 14 (by omega), o 15 (by omega), o 16 (by omega), u2_ne _ _ (by omega), u2_ne _ _ (by omega)]; exact h4 i hi
  · intro i hi; dsimp only; rw [o 13 (by omega), u2_ne _ _ (by omega), u2_ne _ _ (by omega)]; exact h5 i hi
/-- a law's LINE -/
theorem MP.lw {U U' : IM} {P P3 : Pl} {w : Nat} (h : MP U P) (hw : w < 3) (e4 : ∀ k, k < 7 → U' 104 k = U 104 k) (e7 : U' 104 7 = nI (P3.1 4)) (er : ∀ c, 105 ≤ c → c ≤ 117 → U' c = U c) (e8 : U' 118 = u2 U 118 w (nI (P.1 4)) 118) (e9 : U' 119 = u2 U 119 w (nI (P3.1 4)) 119) (ek : ∀ i, i < P3.1 4 → U' 120 i = kS (P3.2 13 i) ∧ U' 121 i = kV (P3.2 13 i)) (p1 : ∀ k, k ≠ 4 → k ≠ 5 → P3.1 k = P.1 k) (p2 : ∀ k, k ≠ 13 → P3.2 k = (bgP P w).2 k) : MP U' (edP P3 w) := by
  obtain ⟨⟨n0, n1, n2, n3, n4, n5, n6, n7⟩, h0, h1, h2, h3, h4, h5⟩ := h
  have ee : (edP P3 w).2 = u2 P3.2 15 w (nI (P3.1 4)) := rfl
  have eb : (bgP P w).2 = u2 (u2 (u2 P.2 16 0 (P.2 16 0 ||| nI 1 <<< (nI w &&& 31))) 14 w (nI (P.1 4))) 15 w (nI (P.1 4)) := rfl
  have o : ∀ r, r ≠ 13 → r ≠ 14 → r ≠ 15 → r ≠ 16 → (edP P3 w).2 r = P.2 r := fun r a b c e => by
    rw [ee]
    rw [u2_row _ _ c, p2 r a]
    rw [eb]
    rw [u2_row _ _ c, u2_row _ _ b, u2_row _ _ e]
  have q1 : ∀ k, k ≠ 4 → k ≠ 5 → (edP P3 w).1 k = P.1 k := p1
  have o16 : (edP P3 w).2 16 0 = P.2 16 0 ||| nI 1 <<< (nI w &&& 31) := by
    rw [ee]
    rw [u2_ne _ _ (by omega), p2 16 (by omega)]
    rw [eb]
    rw [u2_ne _ _ (by omega), u2_ne _ _ (by omega), u2_at]
  have o14 : ∀ x, (edP P3 w).2 14 x = if x = w then nI (P.1 4) else P.2 14 x := fun x => by
    rw [ee]
    rw [u2_ne _ _ (by omega), p2 14 (by omega)]
    rw [eb]
    rw [u2_ne _ _ (by omega)]
    by_cases c : x = w
    · rw [c, u2_at, if_pos rfl]
    · rw [u2_nk _ _ c, u2_ne _ _ (by omega), if_neg c]
  have o15 : ∀ x, (edP P3 w).2 15 x = if x = w then nI (P3.1 4) else P.2 15 x := fun x => by
    rw [ee]
    by_cases c : x = w
    · rw [c, u2_at, if_pos rfl]
    · rw [u2_nk _ _ c, p2 15 (by omega), if_neg c]
      rw [eb]
      rw [u2_nk _ _ c, u2_ne _ _ (by omega), u2_ne _ _ (by omega)]
  have s8 : ∀ x, U' 118 x = if x = w then nI (P.1 4) else U 118 x := fun x => by
    rw [e8]
    by_cases c : x = w
    · rw [c, u2_at, if_pos rfl]
    · rw [u2_nk _ _ c, if_neg c]
  have s9 : ∀ x, U' 119 x = if x = w then nI (P3.1 4) else U 119 x := fun x => by
    rw [e9]
    by_cases c : x = w
    · rw [c, u2_at, if_pos rfl]
    · rw [u2_nk _ _ c, if_neg c]
  refine ⟨⟨?_, ?_, ?_, ?_, ?_, ?_, ?_, e7⟩, ?_, ?_, ?_, ?_, ?_, ?_⟩
  · rw [e4 0 (by omega), q1 0 (by omega) (by omega)]; exact n0
  · rw [e4 1 (by omega), q1 1 (by omega) (by omega)]; exact n1
  · rw [e4 2 (by omega), q1 2 (by omega) (by omega)]; exact n2
  · rw [e4 3 (by omega), q1 3 (by omega) (by omega)]; exact n3
  · rw [e4 4 (by omega), o 20 (by omega) (by omega) (by omega) (by omega)]; exact n4
  · rw [e4 5 (by omega), o 20 (by omega) (by omega) (by omega) (by omega)]; exact n5
  · rw [e4 6 (by omega), o 20 (by omega) (by omega) (by omega) (by omega)]; exact n6
  · intro i hi; rw [q1 0 (by omega) (by omega)] at hi; simp (disch := omega) only [o, er]; exact h0 i hi
  · intro i hi; rw [q1 1 (by omega) (by omega)] at hi; simp (disch := omega) only [o, er]; exact h1 i hi
  · intro i hi; rw [q1 2 (by omega) (by omega)] at hi; simp (disch := omega) only [o, er]; exact h2 i hi
  · intro i hi; rw [q1 3 (by omega) (by omega)] at hi; simp (disch := omega) only [o, er]; exact h3 i hi
  · intro x hx
    rw [o16, bit_or _ (by omega) (by omega), o14, o15, s8, s9]
    by_cases c : x = w
    · rw [if_pos c, if_pos c, if_pos c, if_pos c]
      refine ⟨fun _ => ⟨rfl, rfl⟩, fun q => ?_⟩
      rw [decide_eq_true c.symm, Bool.or_true] at q
      exact absurd q (by decide)
    · rw [if_neg c, if_neg c, if_neg c, if_neg c, decide_eq_false (fun q => c q.symm), Bool.or_false]
      exact h4 x hx
  · intro i hi
    rw [ee]
    rw [u2_ne _ _ (by omega)]
    exact ek i hi
/-! ===== the reference: a LINE being read ===== -/
def hl (c : Nat) : Nat := if c = 104 then 8 else if c ≤ 107 then 6 else if c ≤ 112 then 8 else if c ≤ 114 then 10 else if c ≤ 117 then 8 else if c ≤ 119 then 3 else 64
/-- what is being read lies in the upper halves -/
def upF (I : IM) : IM := fun c i => I c (hl c + i)
theorem upF_u2 (I : IM) (c i : Nat) (v : Int32) : upF (u2 I c (hl c + i) v) = u2 (upF I) c i v := by
  funext c' i'
  show (if c' = c ∧ hl c' + i' = hl c + i then v else I c' (hl c' + i')) = (if c' = c ∧ i' = i then v else I c' (hl c' + i'))
  by_cases q : c' = c
  · subst q
    by_cases e : i' = i
    · rw [if_pos ⟨rfl, by omega⟩, if_pos ⟨rfl, e⟩]
    · rw [if_neg (by omega), if_neg (by omega)]
  · rw [if_neg (fun w => q w.1), if_neg (fun w => q w.1)]
def FL (I I' : IM) : Prop := ∀ c x, ¬ (c = 102 ∧ (x = 21 ∨ x = 22 ∨ 24 ≤ x ∧ x ≤ 29 ∨ x = 32 ∨ x = 33)) → ¬ (104 ≤ c ∧ c ≤ 121 ∧ hl c ≤ x) → I' c x = I c x
theorem FL.rf {I : IM} : FL I I := fun _ _ _ _ => rfl
theorem FL.tr {I I1 I2 : IM} (h : FL I I1) (g : FL I1 I2) : FL I I2 := fun c x a b => (g c x a b).trans (h c x a b)
theorem FT.fl {I I' : IM} (h : FT I I') : FL I I' := fun c x a _ => h c x (by omega)
theorem FE.fl {I I' : IM} (h : FE I I') : FL I I' := fun c x a b => h c x (by omega) (fun q => b ⟨by omega, by omega, by rw [q.1, q.2]; decide⟩) (fun q => b ⟨by omega, by omega, by rcases q.1 with e | e <;> rw [e] <;> exact q.2⟩)
theorem FL.wu {I : IM} {c i : Nat} {v : Int32} (h1 : 104 ≤ c) (h2 : c ≤ 121) : FL I (u2 I c (hl c + i) v) := fun c' x _ b => if_neg (fun q => b ⟨by omega, by omega, by rw [q.1, q.2]; omega⟩)
theorem FL.wo {I : IM} {k : Nat} {v : Int32} (h : k = 21 ∨ k = 22 ∨ 24 ≤ k ∧ k ≤ 29 ∨ k = 32 ∨ k = 33) : FL I (u2 I 102 k v) := fun c x a _ => if_neg (fun q => a ⟨q.1, by rw [q.2]; exact h⟩)
theorem TX.fl {I I' : IM} {f : Nat → Nat} {n : Nat} (h : TX I f n) (g : FL I I') : TX I' f n := ⟨by rw [g 102 23 (by omega) (by omega)]; exact h.1, h.2.1, fun j hj => by rw [g 103 j (by omega) (by omega)]; exact h.2.2.1 j hj, h.2.2.2⟩
/-- since I0, W has been written -/
def LW (I0 I W : IM) : Prop := FL I0 I ∧ (∀ c, 104 ≤ c → c ≤ 121 → upF I c = W c) ∧ I 102 21 = I0 102 21 ∧ I 102 22 = I0 102 22 ∧ I 102 32 = I0 102 32 ∧ I 102 33 = I0 102 33
theorem LW.rf {I : IM} : LW I I (upF I) := ⟨FL.rf, fun _ _ _ => rfl, rfl, rfl, rfl, rfl⟩
theorem LW.ft {I0 I I' W : IM} (h : LW I0 I W) (g : FT I I') : LW I0 I' W := by
  obtain ⟨h1, h2, h3, h4, h5, h6⟩ := h
  refine ⟨h1.tr g.fl, fun c a b => ?_, by rw [g 102 21 (by omega)]; exact h3, by rw [g 102 22 (by omega)]; exact h4, by rw [g 102 32 (by omega)]; exact h5, by rw [g 102 33 (by omega)]; exact h6⟩
  rw [← h2 c a b]
  funext i
  exact g c _ (by omega)
theorem LW.st {I0 I W : IM} (h : LW I0 I W) {c i x : Nat} {v : Int32} (h1 : 104 ≤ c) (h2 : c ≤ 121) (hx : x = hl c + i) : LW I0 (u2 I c x v) (u2 W c i v) := by
  subst hx
  obtain ⟨k1, k2, k3, k4, k5, k6⟩ := h
  refine ⟨k1.tr (FL.wu h1 h2), fun c' a b => ?_, by rw [u2_ne _ _ (by omega)]; exact k3, by rw [u2_ne _ _ (by omega)]; exact k4, by rw [u2_ne _ _ (by omega)]; exact k5, by rw [u2_ne _ _ (by omega)]; exact k6⟩
  rw [upF_u2]
  funext i'
  show (if _ then _ else _) = (if _ then _ else _)
  rw [k2 c' a b]
theorem LW.g {I0 I W : IM} (h : LW I0 I W) (k : Nat) : I 104 (8 + k) = W 104 k := congrFun (h.2.1 104 (by omega) (by omega)) k
theorem Tz.st {I : IM} {n : Nat} {zz : PR} (h : Tz I n zz) {c x : Nat} {v : Int32} (hc : c ≠ 102) : Tz (u2 I c x v) n zz := by
  have e : ∀ k, u2 I c x v 102 k = I 102 k := fun k => u2_ne _ _ (by omega)
  cases zz with
  | inl q => obtain ⟨a, b, g, k⟩ := h; exact ⟨a, b, by rw [e]; exact g, by rw [e]; exact k⟩
  | inr s => obtain ⟨a, b, g, k, m⟩ := h; exact ⟨by rw [e]; exact a, by rw [e]; exact b, g, by rw [e]; exact k, by rw [e, e, e]; exact m⟩
/-- how far the reference has come -/
def Mz (I : IM) (n : Nat) (zz : PR) : Prop := Tz I n zz ∧ match zz with
  | .inl _ => True
  | .inr s => MP (upF I) (pP s) ∧ I 102 33 = nI ((pP s).1 5) ∧ ((∀ t, 5 ≤ t → t ≤ 7 → bitOf (I 102 21) (nI (t - 1)) = s.2.2.1 t) ∧ ∀ w, w < 3 → bitOf (I 102 21) (nI (16 + w)) = bitOf ((pP s).2 16 0) (nI w)) ∧ I 102 22 = nI s.2.2.2 ∧ I 102 32 = nI 0
