/-! ===== the reference: E ===== -/
theorem em_av {f : Nat → Nat} {n : Nat} {v : Int32} (s : PSt) : bnd (emS v s) (avS f n) = bnd (avS f n s) (emS v) := by
  show avS f n (stP s (emP (pP s) v)) = _
  unfold avS
  by_cases c : pTk s = -1
  · rw [if_pos (show pTk (stP s (emP (pP s) v)) = -1 from c), if_pos c]; rfl
  · rw [if_neg (show ¬ pTk (stP s (emP (pP s) v)) = -1 from c), if_neg c]; rfl
theorem bnd_as (z : PR) (g h : PSt → PR) : bnd (bnd z g) h = bnd z (fun s => bnd (g s) h) := by cases z <;> rfl
theorem obd_w {z : PR} {g : PSt → Option PR} {w : PR} (h : obd (some z) g = some w) : (∃ e, z = .inl e ∧ w = .inl e) ∨ ∃ s, z = .inr s ∧ g s = some w := by
  rcases obd_some h with ⟨e, h1, h2⟩ | ⟨s, h1, h2⟩
  · exact Or.inl ⟨e, Option.some.inj h1, h2⟩
  · exact Or.inr ⟨s, Option.some.inj h1, h2⟩
theorem kS_sg : ∀ c, c < 259 → 40 ≤ c → kS (-nI c) = nI 2 := by decide +kernel
theorem kV_sg : ∀ c, c < 259 → 40 ≤ c → kV (-nI c) = nI (if c = 257 then 258 else if c = 258 then 257 else c) := by decide +kernel
theorem kS_nm : ∀ k, k < 10000 → kS (nI k) = nI 0 ∧ kV (nI k) = nI k := fun k hk => by
  have p : (0 : Int32) ≤ nI k := nI_pos' (by omega)
  unfold kS kV
  rw [if_pos p, if_pos p]
  exact ⟨rfl, rfl⟩
theorem kS_wd : ∀ t, t < 19 → 12 ≤ t → kS (-nI t) = nI 1 ∧ kV (-nI t) = nI (t - 12) := by decide +kernel
theorem kn_more {f : Nat → Nat} {n : Nat} (hf : ∀ j, f j < 256) {s s1 : PSt} (ho : Okp n s) (h : knS f n s = .inr s1) : (pP s1).1 5 = (pP s).1 5 + 1 ∧ (pP s1).1 5 ≤ 64 := by
  obtain ⟨g, a, e5, e4, b, -⟩ := knS_ok hf ho h
  exact ⟨e5, b⟩
section MExp2
variable {l : Launch} {G : GG} {J : JM} {K : Kt} {Q : Option Value → Hp → Prop} {f : Nat → Nat} {n : Nat}
/-- .. also behind a FAULT -/
theorem up0 (hM : MK K) {k : Nat} (ih : ∀ dp s I w D, dp ≤ 8 → TX I f n → Ez I n dp (.inr s) → exA f n k 0 dp s = some w → (8 - dp) * 6 + (64 - (pP s).1 5) + 8 ≤ D → CE l G D m10_primary [.ref 102] I J K n dp w) {dp D : Nat} {zz w : PR} {I : IM} (hd : dp ≤ 8) (hX : TX I f n) (hz : Ez I n dp zz) (h : obd (some zz) (exA f n k 0 dp) = some w) (h0 : 6 ≤ D) (hD : ∀ s, zz = .inr s → (8 - dp) * 6 + (64 - (pP s).1 5) + 8 ≤ D) : CE l G D m10_primary [.ref 102] I J K n dp w := by
  rcases obd_w h with ⟨e, rfl, rfl⟩ | ⟨s, rfl, h⟩
  · obtain ⟨D, rfl⟩ : ∃ q, D = q + 6 := ⟨D - 6, by omega⟩
    exact c10_primaryD hM hz
  · exact ih dp s I w D hd hX hz h (hD s rfl)
/-- .. also behind a FAULT -/
theorem up1 (hM : MK K) {k : Nat} (ih : ∀ dp s I w D, dp ≤ 8 → TX I f n → Ez I n dp (.inr s) → exA f n k 1 dp s = some w → (8 - dp) * 6 + (64 - (pP s).1 5) + 9 ≤ D → CE l G D m10_product [.ref 102] I J K n dp w) {dp D : Nat} {zz w : PR} {I : IM} (hd : dp ≤ 8) (hX : TX I f n) (hz : Ez I n dp zz) (h : obd (some zz) (exA f n k 1 dp) = some w) (h0 : 6 ≤ D) (hD : ∀ s, zz = .inr s → (8 - dp) * 6 + (64 - (pP s).1 5) + 9 ≤ D) : CE l G D m10_product [.ref 102] I J K n dp w := by
  rcases obd_w h with ⟨e, rfl, rfl⟩ | ⟨s, rfl, h⟩
  · obtain ⟨D, rfl⟩ : ∃ q, D = q + 6 := ⟨D - 6, by omega⟩
    exact c10_productD hM hz
  · exact ih dp s I w D hd hX hz h (hD s rfl)
/-- .. also behind a FAULT -/
theorem up2 (hM : MK K) {k : Nat} (ih : ∀ dp s I w D, dp ≤ 8 → TX I f n → Ez I n dp (.inr s) → exA f n k 2 dp s = some w → (8 - dp) * 6 + (64 - (pP s).1 5) + 10 ≤ D → CE l G D m10_sum [.ref 102] I J K n dp w) {dp D : Nat} {zz w : PR} {I : IM} (hd : dp ≤ 8) (hX : TX I f n) (hz : Ez I n dp zz) (h : obd (some zz) (exA f n k 2 dp) = some w) (h0 : 6 ≤ D) (hD : ∀ s, zz = .inr s → (8 - dp) * 6 + (64 - (pP s).1 5) + 10 ≤ D) : CE l G D m10_sum [.ref 102] I J K n dp w := by
  rcases obd_w h with ⟨e, rfl, rfl⟩ | ⟨s, rfl, h⟩
  · obtain ⟨D, rfl⟩ : ∃ q, D = q + 6 := ⟨D - 6, by omega⟩
    exact c10_sumD hM hz
  · exact ih dp s I w D hd hX hz h (hD s rfl)
/-- .. also behind a FAULT -/
theorem up4 (hM : MK K) {k : Nat} (ih : ∀ dp s I w D, dp ≤ 8 → TX I f n → Ez I n dp (.inr s) → exA f n k 4 dp s = some w → (8 - dp) * 6 + (64 - (pP s).1 5) + 11 ≤ D → CE l G D m10_negation [.ref 102] I J K n dp w) {dp D : Nat} {zz w : PR} {I : IM} (hd : dp ≤ 8) (hX : TX I f n) (hz : Ez I n dp zz) (h : obd (some zz) (exA f n k 4 dp) = some w) (h0 : 6 ≤ D) (hD : ∀ s, zz = .inr s → (8 - dp) * 6 + (64 - (pP s).1 5) + 11 ≤ D) : CE l G D m10_negation [.ref 102] I J K n dp w := by
  rcases obd_w h with ⟨e, rfl, rfl⟩ | ⟨s, rfl, h⟩
  · obtain ⟨D, rfl⟩ : ∃ q, D = q + 6 := ⟨D - 6, by omega⟩
    exact c10_negationD hM hz
  · exact ih dp s I w D hd hX hz h (hD s rfl)
/-- .. also behind a FAULT -/
theorem up5 (hM : MK K) {k : Nat} (ih : ∀ dp s I w D, dp ≤ 8 → TX I f n → Ez I n dp (.inr s) → exA f n k 5 dp s = some w → (8 - dp) * 6 + (64 - (pP s).1 5) + 12 ≤ D → CE l G D m10_conjunction [.ref 102] I J K n dp w) {dp D : Nat} {zz w : PR} {I : IM} (hd : dp ≤ 8) (hX : TX I f n) (hz : Ez I n dp zz) (h : obd (some zz) (exA f n k 5 dp) = some w) (h0 : 6 ≤ D) (hD : ∀ s, zz = .inr s → (8 - dp) * 6 + (64 - (pP s).1 5) + 12 ≤ D) : CE l G D m10_conjunction [.ref 102] I J K n dp w := by
  rcases obd_w h with ⟨e, rfl, rfl⟩ | ⟨s, rfl, h⟩
  · obtain ⟨D, rfl⟩ : ∃ q, D = q + 6 := ⟨D - 6, by omega⟩
    exact c10_conjunctionD hM hz
  · exact ih dp s I w D hd hX hz h (hD s rfl)
/-- .. also behind a FAULT -/
theorem up6 (hM : MK K) {k : Nat} (ih : ∀ dp s I w D, dp ≤ 8 → TX I f n → Ez I n dp (.inr s) → exA f n k 6 dp s = some w → (8 - dp) * 6 + (64 - (pP s).1 5) + 13 ≤ D → CE l G D m10_expression [.ref 102] I J K n dp w) {dp D : Nat} {zz w : PR} {I : IM} (hd : dp ≤ 8) (hX : TX I f n) (hz : Ez I n dp zz) (h : obd (some zz) (exA f n k 6 dp) = some w) (h0 : 6 ≤ D) (hD : ∀ s, zz = .inr s → (8 - dp) * 6 + (64 - (pP s).1 5) + 13 ≤ D) : CE l G D m10_expression [.ref 102] I J K n dp w := by
  rcases obd_w h with ⟨e, rfl, rfl⟩ | ⟨s, rfl, h⟩
  · obtain ⟨D, rfl⟩ : ∃ q, D = q + 6 := ⟨D - 6, by omega⟩
    exact c10_expressionD hM hz
  · exact ih dp s I w D hd hX hz h (hD s rfl)
theorem lev1 (hM : MK K) {k : Nat} (ih : ∀ dp s I w D, dp ≤ 8 → TX I f n → Ez I n dp (.inr s) → exA f n k 0 dp s = some w → (8 - dp) * 6 + (64 - (pP s).1 5) + 8 ≤ D → CE l G D m10_primary [.ref 102] I J K n dp w) (il : ∀ dp s I w D, dp ≤ 8 → TX I f n → Ez I n dp (.inr s) → exA f n k 7 dp s = some w → (8 - dp) * 6 + (64 - (pP s).1 5) + 9 ≤ D → ∀ v, Gw l G D m10_product 4 [.ref 102, v] [] (I, J, K) (fun r h' => r = none ∧ ∃ I', h' = (I', J, K) ∧ FE I I' ∧ Ez I' n dp w)) : ∀ dp s I w D, dp ≤ 8 → TX I f n → Ez I n dp (.inr s) → exA f n (k + 1) 1 dp s = some w → (8 - dp) * 6 + (64 - (pP s).1 5) + 9 ≤ D → CE l G D m10_product [.ref 102] I J K n dp w := by
  intro dp s I w D hd hX hz h hD
  have h : obd (exA f n k 0 dp s) (exA f n k 7 dp) = some w := h
  obtain ⟨w1, h1⟩ := obd_ex h
  rw [h1] at h
  obtain ⟨D, rfl⟩ : ∃ q, D = q + 9 := ⟨D - 9, by omega⟩
  refine Cw.of ok10_product rfl (rfl : argL _ _ = [.ref 102, .null]) ?_
  refine e_aload_n rfl rfl ?_
  refine e_callV (kd := 10) (M2 := m10_primary) rfl v10_284 ok10_primary (ih dp s I w1 (D + 8) hd hX hz h1 (by omega)) rfl hM.k rfl rfl rfl rfl (fun r1 h1 q1 => ?_)
  obtain ⟨rfl, I1, rfl, g1, L1⟩ := q1
  rcases obd_w h with ⟨e, rfl, rfl⟩ | ⟨s1, rfl, h⟩
  · exact m7D hM L1 ⟨rfl, I1, rfl, g1, L1⟩
  · obtain ⟨gb, -, -⟩ := exA_ok hX.2.2.2 k _ _ _ _ hz.2.2.2.1 h1
    have m5 := gb.1.2.2.2.2.2.1
    refine Gw.mono (il dp s1 I1 w (D + 9) hd (hX.fe g1) L1 h (by omega) _) (fun r h' q => ?_)
    obtain ⟨q1, I2, q2, q3, q4⟩ := q
    exact ⟨q1, I2, q2, g1.tr q3, q4⟩
theorem lev2 (hM : MK K) {k : Nat} (ih : ∀ dp s I w D, dp ≤ 8 → TX I f n → Ez I n dp (.inr s) → exA f n k 1 dp s = some w → (8 - dp) * 6 + (64 - (pP s).1 5) + 9 ≤ D → CE l G D m10_product [.ref 102] I J K n dp w) (il : ∀ dp s I w D, dp ≤ 8 → TX I f n → Ez I n dp (.inr s) → exA f n k 8 dp s = some w → (8 - dp) * 6 + (64 - (pP s).1 5) + 10 ≤ D → ∀ v, Gw l G D m10_sum 4 [.ref 102, v] [] (I, J, K) (fun r h' => r = none ∧ ∃ I', h' = (I', J, K) ∧ FE I I' ∧ Ez I' n dp w)) : ∀ dp s I w D, dp ≤ 8 → TX I f n → Ez I n dp (.inr s) → exA f n (k + 1) 2 dp s = some w → (8 - dp) * 6 + (64 - (pP s).1 5) + 10 ≤ D → CE l G D m10_sum [.ref 102] I J K n dp w := by
  intro dp s I w D hd hX hz h hD
  have h : obd (exA f n k 1 dp s) (exA f n k 8 dp) = some w := h
  obtain ⟨w1, h1⟩ := obd_ex h
  rw [h1] at h
  obtain ⟨D, rfl⟩ : ∃ q, D = q + 9 := ⟨D - 9, by omega⟩
  refine Cw.of ok10_sum rfl (rfl : argL _ _ = [.ref 102, .null]) ?_
  refine e_aload_n rfl rfl ?_
  refine e_callV (kd := 10) (M2 := m10_product) rfl v10_281 ok10_product (ih dp s I w1 (D + 8) hd hX hz h1 (by omega)) rfl hM.k rfl rfl rfl rfl (fun r1 h1 q1 => ?_)
  obtain ⟨rfl, I1, rfl, g1, L1⟩ := q1
  rcases obd_w h with ⟨e, rfl, rfl⟩ | ⟨s1, rfl, h⟩
  · exact m8D hM L1 ⟨rfl, I1, rfl, g1, L1⟩
  · obtain ⟨gb, -, -⟩ := exA_ok hX.2.2.2 k _ _ _ _ hz.2.2.2.1 h1
    have m5 := gb.1.2.2.2.2.2.1
    refine Gw.mono (il dp s1 I1 w (D + 9) hd (hX.fe g1) L1 h (by omega) _) (fun r h' q => ?_)
    obtain ⟨q1, I2, q2, q3, q4⟩ := q
    exact ⟨q1, I2, q2, g1.tr q3, q4⟩
theorem lev5 (hM : MK K) {k : Nat} (ih : ∀ dp s I w D, dp ≤ 8 → TX I f n → Ez I n dp (.inr s) → exA f n k 4 dp s = some w → (8 - dp) * 6 + (64 - (pP s).1 5) + 11 ≤ D → CE l G D m10_negation [.ref 102] I J K n dp w) (il : ∀ dp s I w D, dp ≤ 8 → TX I f n → Ez I n dp (.inr s) → exA f n k 9 dp s = some w → (8 - dp) * 6 + (64 - (pP s).1 5) + 12 ≤ D → Gw l G D m10_conjunction 4 [.ref 102] [] (I, J, K) (fun r h' => r = none ∧ ∃ I', h' = (I', J, K) ∧ FE I I' ∧ Ez I' n dp w)) : ∀ dp s I w D, dp ≤ 8 → TX I f n → Ez I n dp (.inr s) → exA f n (k + 1) 5 dp s = some w → (8 - dp) * 6 + (64 - (pP s).1 5) + 12 ≤ D → CE l G D m10_conjunction [.ref 102] I J K n dp w := by
  intro dp s I w D hd hX hz h hD
  have h : obd (exA f n k 4 dp s) (exA f n k 9 dp) = some w := h
  obtain ⟨w1, h1⟩ := obd_ex h
  rw [h1] at h
  obtain ⟨D, rfl⟩ : ∃ q, D = q + 9 := ⟨D - 9, by omega⟩
  refine Cw.of ok10_conjunction rfl (rfl : argL _ _ = [.ref 102]) ?_
  refine e_aload_n rfl rfl ?_
  refine e_callV (kd := 10) (M2 := m10_negation) rfl v10_275 ok10_negation (ih dp s I w1 (D + 8) hd hX hz h1 (by omega)) rfl hM.k rfl rfl rfl rfl (fun r1 h1 q1 => ?_)
  obtain ⟨rfl, I1, rfl, g1, L1⟩ := q1
  rcases obd_w h with ⟨e, rfl, rfl⟩ | ⟨s1, rfl, h⟩
  · exact m9D hM L1 ⟨rfl, I1, rfl, g1, L1⟩
  · obtain ⟨gb, -, -⟩ := exA_ok hX.2.2.2 k _ _ _ _ hz.2.2.2.1 h1
    have m5 := gb.1.2.2.2.2.2.1
    refine Gw.mono (il dp s1 I1 w (D + 9) hd (hX.fe g1) L1 h (by omega)) (fun r h' q => ?_)
    obtain ⟨q1, I2, q2, q3, q4⟩ := q
    exact ⟨q1, I2, q2, g1.tr q3, q4⟩
theorem lev6 (hM : MK K) {k : Nat} (ih : ∀ dp s I w D, dp ≤ 8 → TX I f n → Ez I n dp (.inr s) → exA f n k 5 dp s = some w → (8 - dp) * 6 + (64 - (pP s).1 5) + 12 ≤ D → CE l G D m10_conjunction [.ref 102] I J K n dp w) (il : ∀ dp s I w D, dp ≤ 8 → TX I f n → Ez I n dp (.inr s) → exA f n k 10 dp s = some w → (8 - dp) * 6 + (64 - (pP s).1 5) + 13 ≤ D → Gw l G D m10_expression 4 [.ref 102] [] (I, J, K) (fun r h' => r = none ∧ ∃ I', h' = (I', J, K) ∧ FE I I' ∧ Ez I' n dp w)) : ∀ dp s I w D, dp ≤ 8 → TX I f n → Ez I n dp (.inr s) → exA f n (k + 1) 6 dp s = some w → (8 - dp) * 6 + (64 - (pP s).1 5) + 13 ≤ D → CE l G D m10_expression [.ref 102] I J K n dp w := by
  intro dp s I w D hd hX hz h hD
  have h : obd (exA f n k 5 dp s) (exA f n k 10 dp) = some w := h
  obtain ⟨w1, h1⟩ := obd_ex h
  rw [h1] at h
  obtain ⟨D, rfl⟩ : ∃ q, D = q + 9 := ⟨D - 9, by omega⟩
  refine Cw.of ok10_expression rfl (rfl : argL _ _ = [.ref 102]) ?_
  refine e_aload_n rfl rfl ?_
  refine e_callV (kd := 10) (M2 := m10_conjunction) rfl v10_264 ok10_conjunction (ih dp s I w1 (D + 8) hd hX hz h1 (by omega)) rfl hM.k rfl rfl rfl rfl (fun r1 h1 q1 => ?_)
  obtain ⟨rfl, I1, rfl, g1, L1⟩ := q1
  rcases obd_w h with ⟨e, rfl, rfl⟩ | ⟨s1, rfl, h⟩
  · exact m10D hM L1 ⟨rfl, I1, rfl, g1, L1⟩
  · obtain ⟨gb, -, -⟩ := exA_ok hX.2.2.2 k _ _ _ _ hz.2.2.2.1 h1
    have m5 := gb.1.2.2.2.2.2.1
    refine Gw.mono (il dp s1 I1 w (D + 9) hd (hX.fe g1) L1 h (by omega)) (fun r h' q => ?_)
    obtain ⟨q1, I2, q2, q3, q4⟩ := q
    exact ⟨q1, I2, q2, g1.tr q3, q4⟩
theorem lev7 (hM : MK K) {k : Nat} (ih : ∀ dp s I w D, dp ≤ 8 → TX I f n → Ez I n dp (.inr s) → exA f n k 0 dp s = some w → (8 - dp) * 6 + (64 - (pP s).1 5) + 8 ≤ D → CE l G D m10_primary [.ref 102] I J K n dp w) (il : ∀ dp s I w D, dp ≤ 8 → TX I f n → Ez I n dp (.inr s) → exA f n k 7 dp s = some w → (8 - dp) * 6 + (64 - (pP s).1 5) + 9 ≤ D → ∀ v, Gw l G D m10_product 4 [.ref 102, v] [] (I, J, K) (fun r h' => r = none ∧ ∃ I', h' = (I', J, K) ∧ FE I I' ∧ Ez I' n dp w)) : ∀ dp s I w D, dp ≤ 8 → TX I f n → Ez I n dp (.inr s) → exA f n (k + 1) 7 dp s = some w → (8 - dp) * 6 + (64 - (pP s).1 5) + 9 ≤ D → ∀ v, Gw l G D m10_product 4 [.ref 102, v] [] (I, J, K) (fun r h' => r = none ∧ ∃ I', h' = (I', J, K) ∧ FE I I' ∧ Ez I' n dp w) := by
  intro dp s I w D hd hX hz h hD v
  have h : (if pTk s = nI 42 ∨ pTk s = nI 47 then loS f n (exA f n k) 0 7 dp s else some (.inr s)) = some w := h
  have R : tkR (pTk s) (pVa s) (I 102 26) (I 102 27) := hz.1.2.2.2.2.1
  obtain ⟨D, rfl⟩ : ∃ q, D = q + 9 := ⟨D - 9, by omega⟩
  have go : ∀ c, (c = 42 ∨ c = 47) → pTk s = nI c → Gw l G (D + 9) m10_product 22 [.ref 102, v] [] (I, J, K) (fun r h' => r = none ∧ ∃ I', h' = (I', J, K) ∧ FE I I' ∧ Ez I' n dp w) := by
    intro c hc ht
    rw [if_pos (hc.elim (fun q => Or.inl (by rw [ht, q])) (fun q => Or.inr (by rw [ht, q])))] at h
    obtain ⟨w2, h2, h3⟩ := loS_some h
    have ev : I 102 27 = nI c := ((R.sn (by omega)).mpr ht).2
    have ho := hz.2.2.2.1
    refine e_aload_n rfl rfl ?_
    refine e_getI rfl f10_180 hM.k rfl ?_
    rw [ev]
    refine e_ist1 rfl rfl rfl ?_
    refine e_aload_n rfl rfl ?_
    refine e_callV (kd := 10) (M2 := m10_knot) rfl v10_270 ok10_knot (c10_knot hM hz) rfl hM.k rfl rfl rfl rfl (fun r1 h1 q1 => ?_)
    obtain ⟨rfl, I1, rfl, g1, L1⟩ := q1
    refine e_aload_n rfl rfl ?_
    refine e_callV (kd := 10) (M2 := m10_goOn) rfl v10_221 ok10_goOn (c10_goOnE hM (hX.fe g1) L1 (fun s1 q => by rw [(kc_tk q).1, ht]; exact nI_m1 (by omega))) rfl hM.k rfl rfl rfl rfl (fun r1 h1 q1 => ?_)
    obtain ⟨rfl, I2, rfl, g2, L2⟩ := q1
    rw [show bnd (bnd (.inr s) kcS) (avS f n) = knS f n s from kc_kn s] at L2
    refine e_aload_n rfl rfl ?_
    refine e_callV (kd := 10) (M2 := m10_primary) rfl v10_284 ok10_primary (up0 hM ih hd ((hX.fe g1).fe g2) L2 h2 (by omega) (fun s1 q => by have := kn_more hX.2.2.2 ho q; omega)) rfl hM.k rfl rfl rfl rfl (fun r1 h1 q1 => ?_)
    obtain ⟨rfl, I3, rfl, g3, L3⟩ := q1
    refine e_aload_n rfl rfl ?_
    refine e_iconst (v := nI 2) rfl ic_2N ?_
    refine e_iload_n rfl rfl ?_
    refine e_callV (kd := 10) (M2 := m10_puts) rfl v10_273 ok10_puts (c10_puts (v := -pTk s) hM L3 (fun s2 q => (knE (k := k) (sub := 0) hX.2.2.2 (by omega) ho (by rw [← q]; exact h2)).1) (by rw [ht]; exact (kS_sg c (by omega) (by omega)).symm) (by rw [ht, kV_sg c (by omega) (by omega), if_neg (by omega), if_neg (by omega)])) rfl hM.k rfl rfl rfl rfl (fun r1 h1 q1 => ?_)
    obtain ⟨rfl, I4, rfl, g4, L4⟩ := q1
    refine e_goto (tgt := 4) rfl rfl ?_
    have g := ((g1.tr g2).tr g3).tr g4
    rcases obd_w h3 with ⟨e, e4, rfl⟩ | ⟨s4, e4, h4⟩
    · rw [e4] at L4
      exact m7D hM L4 ⟨rfl, I4, rfl, g, L4⟩
    · rw [e4] at L4
      have m5 : (pP s).1 5 ≤ (pP s4).1 5 := by
        obtain ⟨s2, rfl, e5⟩ := bnd_inr e4
        have k2 := knE hX.2.2.2 (by omega) ho h2
        have e5 : emS (-pTk s) s2 = .inr s4 := e5
        unfold emS at e5
        rw [← Sum.inr.inj e5]
        show _ ≤ (emP (pP s2) _).1 5
        unfold emP
        split
        · show _ ≤ (pP s2).1 5; omega
        · omega
      refine Gw.mono (il dp s4 I4 w (D + 9) hd (hX.fe g) L4 h4 (by omega) _) (fun r h' q => ?_)
      obtain ⟨q1, I5, q2, q3, q4⟩ := q
      exact ⟨q1, I5, q2, g.tr q3, q4⟩
  refine e_aload_n rfl rfl ?_
  refine e_bipush (v := nI 42) rfl bp_42N ?_
  refine e_callVp (kd := 10) (M2 := m10_isSign) rfl v10_252 ok10_isSign (c10_isSign hM hz.1 (by omega)) rfl hM.k rfl rfl rfl rfl ?_
  refine e_if_neB (tgt := 22) rfl rfl (fun z => go 42 (by omega) (of_decide_eq_true z)) (fun za => ?_)
  refine e_aload_n rfl rfl ?_
  refine e_bipush (v := nI 47) rfl bp_47N ?_
  refine e_callVp (kd := 10) (M2 := m10_isSign) rfl v10_252 ok10_isSign (c10_isSign hM hz.1 (by omega)) rfl hM.k rfl rfl rfl rfl ?_
  refine e_if_eqB (tgt := 48) rfl rfl (fun zb => ?_) (fun z => go 47 (by omega) (of_decide_eq_true z))
  refine e_return rfl rfl ?_
  rw [if_neg (fun q => q.elim (of_decide_eq_false za) (of_decide_eq_false zb))] at h
  rw [← Option.some.inj h]
  exact ⟨rfl, I, rfl, FE.rf, hz⟩
theorem lev8 (hM : MK K) {k : Nat} (ih : ∀ dp s I w D, dp ≤ 8 → TX I f n → Ez I n dp (.inr s) → exA f n k 1 dp s = some w → (8 - dp) * 6 + (64 - (pP s).1 5) + 9 ≤ D → CE l G D m10_product [.ref 102] I J K n dp w) (il : ∀ dp s I w D, dp ≤ 8 → TX I f n → Ez I n dp (.inr s) → exA f n k 8 dp s = some w → (8 - dp) * 6 + (64 - (pP s).1 5) + 10 ≤ D → ∀ v, Gw l G D m10_sum 4 [.ref 102, v] [] (I, J, K) (fun r h' => r = none ∧ ∃ I', h' = (I', J, K) ∧ FE I I' ∧ Ez I' n dp w)) : ∀ dp s I w D, dp ≤ 8 → TX I f n → Ez I n dp (.inr s) → exA f n (k + 1) 8 dp s = some w → (8 - dp) * 6 + (64 - (pP s).1 5) + 10 ≤ D → ∀ v, Gw l G D m10_sum 4 [.ref 102, v] [] (I, J, K) (fun r h' => r = none ∧ ∃ I', h' = (I', J, K) ∧ FE I I' ∧ Ez I' n dp w) := by
  intro dp s I w D hd hX hz h hD v
  have h : (if pTk s = nI 43 ∨ pTk s = nI 45 then loS f n (exA f n k) 1 8 dp s else some (.inr s)) = some w := h
  have R : tkR (pTk s) (pVa s) (I 102 26) (I 102 27) := hz.1.2.2.2.2.1
  obtain ⟨D, rfl⟩ : ∃ q, D = q + 9 := ⟨D - 9, by omega⟩
  have go : ∀ c, (c = 43 ∨ c = 45) → pTk s = nI c → Gw l G (D + 9) m10_sum 22 [.ref 102, v] [] (I, J, K) (fun r h' => r = none ∧ ∃ I', h' = (I', J, K) ∧ FE I I' ∧ Ez I' n dp w) := by
    intro c hc ht
    rw [if_pos (hc.elim (fun q => Or.inl (by rw [ht, q])) (fun q => Or.inr (by rw [ht, q])))] at h
    obtain ⟨w2, h2, h3⟩ := loS_some h
    have ev : I 102 27 = nI c := ((R.sn (by omega)).mpr ht).2
    have ho := hz.2.2.2.1
    refine e_aload_n rfl rfl ?_
    refine e_getI rfl f10_180 hM.k rfl ?_
    rw [ev]
    refine e_ist1 rfl rfl rfl ?_
    refine e_aload_n rfl rfl ?_
    refine e_callV (kd := 10) (M2 := m10_knot) rfl v10_270 ok10_knot (c10_knot hM hz) rfl hM.k rfl rfl rfl rfl (fun r1 h1 q1 => ?_)
    obtain ⟨rfl, I1, rfl, g1, L1⟩ := q1
    refine e_aload_n rfl rfl ?_
    refine e_callV (kd := 10) (M2 := m10_goOn) rfl v10_221 ok10_goOn (c10_goOnE hM (hX.fe g1) L1 (fun s1 q => by rw [(kc_tk q).1, ht]; exact nI_m1 (by omega))) rfl hM.k rfl rfl rfl rfl (fun r1 h1 q1 => ?_)
    obtain ⟨rfl, I2, rfl, g2, L2⟩ := q1
    rw [show bnd (bnd (.inr s) kcS) (avS f n) = knS f n s from kc_kn s] at L2
    refine e_aload_n rfl rfl ?_
    refine e_callV (kd := 10) (M2 := m10_product) rfl v10_281 ok10_product (up1 hM ih hd ((hX.fe g1).fe g2) L2 h2 (by omega) (fun s1 q => by have := kn_more hX.2.2.2 ho q; omega)) rfl hM.k rfl rfl rfl rfl (fun r1 h1 q1 => ?_)
    obtain ⟨rfl, I3, rfl, g3, L3⟩ := q1
    refine e_aload_n rfl rfl ?_
    refine e_iconst (v := nI 2) rfl ic_2N ?_
    refine e_iload_n rfl rfl ?_
    refine e_callV (kd := 10) (M2 := m10_puts) rfl v10_273 ok10_puts (c10_puts (v := -pTk s) hM L3 (fun s2 q => (knE (k := k) (sub := 1) hX.2.2.2 (by omega) ho (by rw [← q]; exact h2)).1) (by rw [ht]; exact (kS_sg c (by omega) (by omega)).symm) (by rw [ht, kV_sg c (by omega) (by omega), if_neg (by omega), if_neg (by omega)])) rfl hM.k rfl rfl rfl rfl (fun r1 h1 q1 => ?_)
    obtain ⟨rfl, I4, rfl, g4, L4⟩ := q1
    refine e_goto (tgt := 4) rfl rfl ?_
    have g := ((g1.tr g2).tr g3).tr g4
    rcases obd_w h3 with ⟨e, e4, rfl⟩ | ⟨s4, e4, h4⟩
    · rw [e4] at L4
      exact m8D hM L4 ⟨rfl, I4, rfl, g, L4⟩
    · rw [e4] at L4
      have m5 : (pP s).1 5 ≤ (pP s4).1 5 := by
        obtain ⟨s2, rfl, e5⟩ := bnd_inr e4
        have k2 := knE hX.2.2.2 (by omega) ho h2
        have e5 : emS (-pTk s) s2 = .inr s4 := e5
        unfold emS at e5
        rw [← Sum.inr.inj e5]
        show _ ≤ (emP (pP s2) _).1 5
        unfold emP
        split
        · show _ ≤ (pP s2).1 5; omega
        · omega
      refine Gw.mono (il dp s4 I4 w (D + 9) hd (hX.fe g) L4 h4 (by omega) _) (fun r h' q => ?_)
      obtain ⟨q1, I5, q2, q3, q4⟩ := q
      exact ⟨q1, I5, q2, g.tr q3, q4⟩
  refine e_aload_n rfl rfl ?_
  refine e_bipush (v := nI 43) rfl bp_43N ?_
  refine e_callVp (kd := 10) (M2 := m10_isSign) rfl v10_252 ok10_isSign (c10_isSign hM hz.1 (by omega)) rfl hM.k rfl rfl rfl rfl ?_
  refine e_if_neB (tgt := 22) rfl rfl (fun z => go 43 (by omega) (of_decide_eq_true z)) (fun za => ?_)
  refine e_aload_n rfl rfl ?_
  refine e_bipush (v := nI 45) rfl bp_45N ?_
  refine e_callVp (kd := 10) (M2 := m10_isSign) rfl v10_252 ok10_isSign (c10_isSign hM hz.1 (by omega)) rfl hM.k rfl rfl rfl rfl ?_
  refine e_if_eqB (tgt := 48) rfl rfl (fun zb => ?_) (fun z => go 45 (by omega) (of_decide_eq_true z))
  refine e_return rfl rfl ?_
  rw [if_neg (fun q => q.elim (of_decide_eq_false za) (of_decide_eq_false zb))] at h
  rw [← Option.some.inj h]
  exact ⟨rfl, I, rfl, FE.rf, hz⟩
theorem lev9 (hM : MK K) {k : Nat} (ih : ∀ dp s I w D, dp ≤ 8 → TX I f n → Ez I n dp (.inr s) → exA f n k 4 dp s = some w → (8 - dp) * 6 + (64 - (pP s).1 5) + 11 ≤ D → CE l G D m10_negation [.ref 102] I J K n dp w) (il : ∀ dp s I w D, dp ≤ 8 → TX I f n → Ez I n dp (.inr s) → exA f n k 9 dp s = some w → (8 - dp) * 6 + (64 - (pP s).1 5) + 12 ≤ D → Gw l G D m10_conjunction 4 [.ref 102] [] (I, J, K) (fun r h' => r = none ∧ ∃ I', h' = (I', J, K) ∧ FE I I' ∧ Ez I' n dp w)) : ∀ dp s I w D, dp ≤ 8 → TX I f n → Ez I n dp (.inr s) → exA f n (k + 1) 9 dp s = some w → (8 - dp) * 6 + (64 - (pP s).1 5) + 12 ≤ D → Gw l G D m10_conjunction 4 [.ref 102] [] (I, J, K) (fun r h' => r = none ∧ ∃ I', h' = (I', J, K) ∧ FE I I' ∧ Ez I' n dp w) := by
  intro dp s I w D hd hX hz h hD
  have h : (if pTk s = nI 20 then loS f n (exA f n k) 4 9 dp s else some (.inr s)) = some w := h
  obtain ⟨D, rfl⟩ : ∃ q, D = q + 9 := ⟨D - 9, by omega⟩
  have ho := hz.2.2.2.1
  refine e_aload_n rfl rfl ?_
  refine e_bipush (v := nI 12) rfl bp_12N ?_
  refine e_callVp (kd := 10) (M2 := m10_isWord) rfl v10_267 ok10_isWord (c10_isWord hM hz.1 (by omega)) rfl hM.k rfl rfl rfl rfl ?_
  refine e_if_eqB (tgt := 36) rfl rfl (fun z => ?_) (fun z => ?_)
  · have z : ¬ pTk s = nI 20 := of_decide_eq_false z
    refine e_return rfl rfl ?_
    rw [if_neg z] at h
    rw [← Option.some.inj h]
    exact ⟨rfl, I, rfl, FE.rf, hz⟩
  · have ht : pTk s = nI 20 := of_decide_eq_true z
    rw [if_pos ht] at h
    obtain ⟨w2, h2, h3⟩ := loS_some h
    refine e_aload_n rfl rfl ?_
    refine e_callV (kd := 10) (M2 := m10_knot) rfl v10_270 ok10_knot (c10_knot hM hz) rfl hM.k rfl rfl rfl rfl (fun r1 h1 q1 => ?_)
    obtain ⟨rfl, I1, rfl, g1, L1⟩ := q1
    refine e_aload_n rfl rfl ?_
    refine e_callV (kd := 10) (M2 := m10_goOn) rfl v10_221 ok10_goOn (c10_goOnE hM (hX.fe g1) L1 (fun s1 q => by rw [(kc_tk q).1, ht]; exact nI_m1 (by omega))) rfl hM.k rfl rfl rfl rfl (fun r1 h1 q1 => ?_)
    obtain ⟨rfl, I2, rfl, g2, L2⟩ := q1
    rw [show bnd (bnd (.inr s) kcS) (avS f n) = knS f n s from kc_kn s] at L2
    refine e_aload_n rfl rfl ?_
    refine e_callV (kd := 10) (M2 := m10_negation) rfl v10_275 ok10_negation (up4 hM ih hd ((hX.fe g1).fe g2) L2 h2 (by omega) (fun s1 q => by have := kn_more hX.2.2.2 ho q; omega)) rfl hM.k rfl rfl rfl rfl (fun r1 h1 q1 => ?_)
    obtain ⟨rfl, I3, rfl, g3, L3⟩ := q1
    refine e_aload_n rfl rfl ?_
    refine e_iconst (v := nI 2) rfl ic_2N ?_
    refine e_sipush (v := nI 261) rfl sp_261N ?_
    refine e_callV (kd := 10) (M2 := m10_puts) rfl v10_273 ok10_puts (c10_puts (v := -pTk s) hM L3 (fun s2 q => (knE (k := k) (sub := 4) hX.2.2.2 (by omega) ho (by rw [← q]; exact h2)).1) (by rw [ht]; decide) (by rw [ht]; decide)) rfl hM.k rfl rfl rfl rfl (fun r1 h1 q1 => ?_)
    obtain ⟨rfl, I4, rfl, g4, L4⟩ := q1
    refine e_goto (tgt := 4) rfl rfl ?_
    have g := ((g1.tr g2).tr g3).tr g4
    rcases obd_w h3 with ⟨e, e4, rfl⟩ | ⟨s4, e4, h4⟩
    · rw [e4] at L4
      exact m9D hM L4 ⟨rfl, I4, rfl, g, L4⟩
    · rw [e4] at L4
      have m5 : (pP s).1 5 ≤ (pP s4).1 5 := by
        obtain ⟨s2, rfl, e5⟩ := bnd_inr e4
        have k2 := knE hX.2.2.2 (by omega) ho h2
        have e5 : emS (-pTk s) s2 = .inr s4 := e5
        unfold emS at e5
        rw [← Sum.inr.inj e5]
        show _ ≤ (emP (pP s2) _).1 5
        unfold emP
        split
        · show _ ≤ (pP s2).1 5; omega
        · omega
      refine Gw.mono (il dp s4 I4 w (D + 9) hd (hX.fe g) L4 h4 (by omega)) (fun r h' q => ?_)
      obtain ⟨q1, I5, q2, q3, q4⟩ := q
      exact ⟨q1, I5, q2, g.tr q3, q4⟩
theorem lev10 (hM : MK K) {k : Nat} (ih : ∀ dp s I w D, dp ≤ 8 → TX I f n → Ez I n dp (.inr s) → exA f n k 5 dp s = some w → (8 - dp) * 6 + (64 - (pP s).1 5) + 12 ≤ D → CE l G D m10_conjunction [.ref 102] I J K n dp w) (il : ∀ dp s I w D, dp ≤ 8 → TX I f n → Ez I n dp (.inr s) → exA f n k 10 dp s = some w → (8 - dp) * 6 + (64 - (pP s).1 5) + 13 ≤ D → Gw l G D m10_expression 4 [.ref 102] [] (I, J, K) (fun r h' => r = none ∧ ∃ I', h' = (I', J, K) ∧ FE I I' ∧ Ez I' n dp w)) : ∀ dp s I w D, dp ≤ 8 → TX I f n → Ez I n dp (.inr s) → exA f n (k + 1) 10 dp s = some w → (8 - dp) * 6 + (64 - (pP s).1 5) + 13 ≤ D → Gw l G D m10_expression 4 [.ref 102] [] (I, J, K) (fun r h' => r = none ∧ ∃ I', h' = (I', J, K) ∧ FE I I' ∧ Ez I' n dp w) := by
  intro dp s I w D hd hX hz h hD
  have h : (if pTk s = nI 21 then loS f n (exA f n k) 5 10 dp s else some (.inr s)) = some w := h
  obtain ⟨D, rfl⟩ : ∃ q, D = q + 9 := ⟨D - 9, by omega⟩
  have ho := hz.2.2.2.1
  refine e_aload_n rfl rfl ?_
  refine e_bipush (v := nI 11) rfl bp_11N ?_
  refine e_callVp (kd := 10) (M2 := m10_isWord) rfl v10_267 ok10_isWord (c10_isWord hM hz.1 (by omega)) rfl hM.k rfl rfl rfl rfl ?_
  refine e_if_eqB (tgt := 36) rfl rfl (fun z => ?_) (fun z => ?_)
  · have z : ¬ pTk s = nI 21 := of_decide_eq_false z
    refine e_return rfl rfl ?_
    rw [if_neg z] at h
    rw [← Option.some.inj h]
    exact ⟨rfl, I, rfl, FE.rf, hz⟩
  · have ht : pTk s = nI 21 := of_decide_eq_true z
    rw [if_pos ht] at h
    obtain ⟨w2, h2, h3⟩ := loS_some h
    refine e_aload_n rfl rfl ?_
    refine e_callV (kd := 10) (M2 := m10_knot) rfl v10_270 ok10_knot (c10_knot hM hz) rfl hM.k rfl rfl rfl rfl (fun r1 h1 q1 => ?_)
    obtain ⟨rfl, I1, rfl, g1, L1⟩ := q1
    refine e_aload_n rfl rfl ?_
    refine e_callV (kd := 10) (M2 := m10_goOn) rfl v10_221 ok10_goOn (c10_goOnE hM (hX.fe g1) L1 (fun s1 q => by rw [(kc_tk q).1, ht]; exact nI_m1 (by omega))) rfl hM.k rfl rfl rfl rfl (fun r1 h1 q1 => ?_)
    obtain ⟨rfl, I2, rfl, g2, L2⟩ := q1
    rw [show bnd (bnd (.inr s) kcS) (avS f n) = knS f n s from kc_kn s] at L2
    refine e_aload_n rfl rfl ?_
    refine e_callV (kd := 10) (M2 := m10_conjunction) rfl v10_264 ok10_conjunction (up5 hM ih hd ((hX.fe g1).fe g2) L2 h2 (by omega) (fun s1 q => by have := kn_more hX.2.2.2 ho q; omega)) rfl hM.k rfl rfl rfl rfl (fun r1 h1 q1 => ?_)
    obtain ⟨rfl, I3, rfl, g3, L3⟩ := q1
    refine e_aload_n rfl rfl ?_
    refine e_iconst (v := nI 2) rfl ic_2N ?_
    refine e_sipush (v := nI 262) rfl sp_262N ?_
    refine e_callV (kd := 10) (M2 := m10_puts) rfl v10_273 ok10_puts (c10_puts (v := -pTk s) hM L3 (fun s2 q => (knE (k := k) (sub := 5) hX.2.2.2 (by omega) ho (by rw [← q]; exact h2)).1) (by rw [ht]; decide) (by rw [ht]; decide)) rfl hM.k rfl rfl rfl rfl (fun r1 h1 q1 => ?_)
    obtain ⟨rfl, I4, rfl, g4, L4⟩ := q1
    refine e_goto (tgt := 4) rfl rfl ?_
    have g := ((g1.tr g2).tr g3).tr g4
    rcases obd_w h3 with ⟨e, e4, rfl⟩ | ⟨s4, e4, h4⟩
    · rw [e4] at L4
      exact m10D hM L4 ⟨rfl, I4, rfl, g, L4⟩
    · rw [e4] at L4
      have m5 : (pP s).1 5 ≤ (pP s4).1 5 := by
        obtain ⟨s2, rfl, e5⟩ := bnd_inr e4
        have k2 := knE hX.2.2.2 (by omega) ho h2
        have e5 : emS (-pTk s) s2 = .inr s4 := e5
        unfold emS at e5
        rw [← Sum.inr.inj e5]
        show _ ≤ (emP (pP s2) _).1 5
        unfold emP
        split
        · show _ ≤ (pP s2).1 5; omega
        · omega
      refine Gw.mono (il dp s4 I4 w (D + 9) hd (hX.fe g) L4 h4 (by omega)) (fun r h' q => ?_)
      obtain ⟨q1, I5, q2, q3, q4⟩ := q
      exact ⟨q1, I5, q2, g.tr q3, q4⟩
end MExp2
