/-! ===== LINES keep the plan in order ===== -/
def WFk (P : Pl) : Prop := (P.1 0 ≤ 6 ∧ P.1 1 ≤ 8 ∧ P.1 2 ≤ 10 ∧ P.1 3 ≤ 8) ∧
  (∀ i, i < P.1 0 → (∃ j, 1 ≤ j ∧ j ≤ 99 ∧ P.2 1 i = nI j) ∧ (∃ j, j ≤ 9 ∧ P.2 2 i = nI j)) ∧
  (∀ t, t < P.1 1 → (∃ j, j < P.1 0 ∧ P.2 4 t = nI j) ∧ (∃ j, j ≤ 9 ∧ P.2 5 t = nI j) ∧ (∃ j, 1 ≤ j ∧ j ≤ 99 ∧ P.2 6 t = nI j) ∧ (∃ j, j ≤ 3 ∧ P.2 7 t = nI j)) ∧
  (∀ i, i < P.1 2 → (∃ j, j < P.1 1 ∧ P.2 8 i = nI j) ∧ (∃ j, j ≤ 99 ∧ P.2 9 i = nI j) ∧ P.2 9 i ≤ P.2 20 3) ∧
  (∀ w, w < P.1 3 → (∃ j, j < P.1 0 ∧ P.2 10 w = nI j) ∧ (∃ j, j ≤ 99 ∧ P.2 11 w = nI j) ∧ (∃ j, 1 ≤ j ∧ j ≤ 99 ∧ P.2 12 w = nI j) ∧ P.2 11 w ≤ P.2 20 4) ∧
  ((∃ j, j ≤ 20 ∧ P.2 20 0 = nI j) ∧ (∃ j, j ≤ 100 ∧ P.2 20 1 = nI j) ∧ (∃ j, j ≤ 99999 ∧ P.2 20 2 = nI j))
def WFl (P : Pl) : Prop := (∀ w, w < 3 → bitOf (P.2 16 0) (nI w) = true → ∃ a b, P.2 14 w = nI a ∧ P.2 15 w = nI b ∧ a ≤ b ∧ b ≤ P.1 4 ∧ ∀ h, htF (P.2 13) (b - a) a h = some (h + 1)) ∧ P.1 4 ≤ 64
theorem WFl.same {P P' : Pl} (h : WFl P) (e4 : P'.1 4 = P.1 4) (e : ∀ k, 13 ≤ k → k ≤ 16 → P'.2 k = P.2 k) : WFl P' := by
  unfold WFl
  rw [e4, e 13 (by omega) (by omega), e 14 (by omega) (by omega), e 15 (by omega) (by omega), e 16 (by omega) (by omega)]
  exact h
theorem WFk.same {P P' : Pl} (h : WFk P) (e : ∀ k, k < 4 → P'.1 k = P.1 k) (e2 : ∀ k, k < 13 ∨ k = 20 → P'.2 k = P.2 k) : WFk P' := by
  unfold WFk
  rw [e 0 (by omega), e 1 (by omega), e 2 (by omega), e 3 (by omega), e2 1 (by omega), e2 2 (by omega), e2 4 (by omega), e2 5 (by omega), e2 6 (by omega), e2 7 (by omega), e2 8 (by omega), e2 9 (by omega), e2 10 (by omega), e2 11 (by omega), e2 12 (by omega), e2 20 (by omega)]
  exact h
theorem nI_rg {a b : Nat} {x : Int32} (ha : a < 2 ^ 31) (hb : b < 2 ^ 31) (h1 : nI a ≤ x) (h2 : x ≤ nI b) : ∃ j, a ≤ j ∧ j ≤ b ∧ x = nI j := by
  obtain ⟨j, hj, rfl⟩ := nI_of (Int32.not_lt.mpr (Int32.le_trans (nI_pos' ha) h1))
  exact ⟨j, (nI_leI ha hj).mp h1, (nI_leI hj hb).mp h2, rfl⟩
theorem nuS_v {f : Nat → Nat} {n : Nat} {lo hi : Int32} {s s' : PSt} (h : nuS f n lo hi s = .inr s') : lo ≤ pVa s ∧ pVa s ≤ hi ∧ avS f n s = .inr s' := by
  unfold nuS at h
  split at h
  · split at h
    · exact absurd h (by simp [flS])
    · next c => exact ⟨Int32.not_lt.mp (fun q => c (Or.inl q)), Int32.not_lt.mp (fun q => c (Or.inr q)), h⟩
  · exact absurd h (by simp [flS])
theorem nnS_v {f : Nat → Nat} {n j b : Nat} {s s' : PSt} (h : nnS f n j b s = .inr s') : avS f n s = .inr s' := by
  unfold nnS at h
  split at h
  · split at h
    · exact h
    · exact absurd h (by simp [flS])
  · exact absurd h (by simp [flS])
theorem tnS_v {f : Nat → Nat} {n j b : Nat} {s s' : PSt} (h : tnS f n j b s = .inr s') : (∃ i, i < (pP s).1 j ∧ fdS s j b = nI i) ∧ avS f n s = .inr s' := by
  refine ⟨?_, ?_⟩
  · obtain ⟨i, h1, h2, h3⟩ := fnd_in _ _ (tnS_f h)
    exact ⟨i, by omega, h3⟩
  · unfold tnS at h
    split at h
    · split at h
      · exact absurd h (by simp [flS])
      · exact h
    · exact absurd h (by simp [flS])
theorem roS_v {f : Nat → Nat} {n j m : Nat} {s s' : PSt} (h : roS f n j m s = .inr s') : (pP s).1 j < m ∧ avS f n s = .inr s' := by
  unfold roS at h
  split at h
  · exact absurd h (by simp [flS])
  · exact ⟨by omega, h⟩
/-- in order, between two LINES -/
def LI (n : Nat) (s : PSt) : Prop := Okp n s ∧ TkR s ∧ WFk (pP s) ∧ WFl (pP s) ∧ (pP s).1 4 = (pP s).1 5
/-- .. but for the plan -/
def L0 (n : Nat) (s s' : PSt) : Prop := Okp n s' ∧ TkR s' ∧ s'.2 = s.2 ∧ pAt s ≤ pAt s'
theorem av_L0 {f : Nat → Nat} {n : Nat} {s s' : PSt} (hf : ∀ j, f j < 256) (ho : Okp n s) (h : avS f n s = .inr s') : L0 n s s' := by
  obtain ⟨g, o, e⟩ := avS_ok hf ho h
  exact ⟨o, avS_tr hf h, e, g.1.2.2.2.2.2.2.2⟩
theorem L0.tr {n : Nat} {a b c : PSt} (h : L0 n a b) (g : L0 n b c) : L0 n a c := ⟨g.1, g.2.1, g.2.2.1.trans h.2.2.1, by have := h.2.2.2; have := g.2.2.2; omega⟩
theorem L0.P {n : Nat} {a b : PSt} (h : L0 n a b) : pP b = pP a := congrArg Prod.fst h.2.2.1
theorem WFk.ad0 {P : Pl} {v : Nat → Int32} (h : WFk P) (hj : P.1 0 < 6) (h1 : ∃ j, 1 ≤ j ∧ j ≤ 99 ∧ v 1 = nI j) (h2 : ∃ j, j ≤ 9 ∧ v 2 = nI j) : WFk (adP P 0 0 3 v) := by
  have g : ∀ k, k ≠ 0 → (adP P 0 0 3 v).1 k = P.1 k := fun k hk => if_neg hk
  have gj : (adP P 0 0 3 v).1 0 = P.1 0 + 1 := rfl
  have q : ∀ k i, (k < 0 ∨ 3 ≤ k) → (adP P 0 0 3 v).2 k i = P.2 k i := fun k i hk => if_neg (by omega)
  have qo : ∀ k i, i ≠ P.1 0 → (adP P 0 0 3 v).2 k i = P.2 k i := fun k i hk => if_neg (fun z => hk z.2.2)
  have qv : ∀ c, c < 3 → (adP P 0 0 3 v).2 (0 + c) (P.1 0) = v c := fun c hc => by
    unfold adP
    dsimp only
    rw [if_pos ⟨by omega, by omega, rfl⟩]
    congr 1
    omega
  have v1 : (adP P 0 0 3 v).2 1 (P.1 0) = v 1 := qv 1 (by omega)
  have v2 : (adP P 0 0 3 v).2 2 (P.1 0) = v 2 := qv 2 (by omega)
  obtain ⟨⟨a1, a2, a3, a4⟩, k, t, o, w, m⟩ := h
  unfold WFk
  rw [g 1 (by omega), g 2 (by omega), g 3 (by omega), gj]
  refine ⟨⟨by omega, a2, a3, a4⟩, fun i hi => ?_, fun i hi => ?_, fun i hi => ?_, fun i hi => ?_, ?_⟩
  · by_cases e : i = P.1 0
    · subst e; rw [v1, v2]; exact ⟨h1, h2⟩
    · rw [qo _ _ e, qo _ _ e]; exact k i (by omega)
  · rw [q 4 _ (by omega), q 5 _ (by omega), q 6 _ (by omega), q 7 _ (by omega)]
    obtain ⟨⟨j, j1, j2⟩, r⟩ := t i hi
    exact ⟨⟨j, by omega, j2⟩, r⟩
  · rw [q 8 _ (by omega), q 9 _ (by omega), q 20 _ (by omega)]; exact o i hi
  · rw [q 10 _ (by omega), q 11 _ (by omega), q 12 _ (by omega), q 20 _ (by omega)]
    obtain ⟨⟨j, j1, j2⟩, r⟩ := w i hi
    exact ⟨⟨j, by omega, j2⟩, r⟩
  · rw [q 20 _ (by omega), q 20 _ (by omega), q 20 _ (by omega)]; exact m
theorem WFk.ad1 {P : Pl} {v : Nat → Int32} (h : WFk P) (hj : P.1 1 < 8) (h1 : ∃ j, j < P.1 0 ∧ v 1 = nI j) (h2 : ∃ j, j ≤ 9 ∧ v 2 = nI j) (h3 : ∃ j, 1 ≤ j ∧ j ≤ 99 ∧ v 3 = nI j) (h4 : ∃ j, j ≤ 3 ∧ v 4 = nI j) : WFk (adP P 1 3 5 v) := by
  have g : ∀ k, k ≠ 1 → (adP P 1 3 5 v).1 k = P.1 k := fun k hk => if_neg hk
  have gj : (adP P 1 3 5 v).1 1 = P.1 1 + 1 := rfl
  have q : ∀ k i, (k < 3 ∨ 8 ≤ k) → (adP P 1 3 5 v).2 k i = P.2 k i := fun k i hk => if_neg (by omega)
  have qo : ∀ k i, i ≠ P.1 1 → (adP P 1 3 5 v).2 k i = P.2 k i := fun k i hk => if_neg (fun z => hk z.2.2)
  have qv : ∀ c, c < 5 → (adP P 1 3 5 v).2 (3 + c) (P.1 1) = v c := fun c hc => by
    unfold adP
    dsimp only
    rw [if_pos ⟨by omega, by omega, rfl⟩]
    congr 1
    omega
  have v1 : (adP P 1 3 5 v).2 4 (P.1 1) = v 1 := qv 1 (by omega)
  have v2 : (adP P 1 3 5 v).2 5 (P.1 1) = v 2 := qv 2 (by omega)
  have v3 : (adP P 1 3 5 v).2 6 (P.1 1) = v 3 := qv 3 (by omega)
  have v4 : (adP P 1 3 5 v).2 7 (P.1 1) = v 4 := qv 4 (by omega)
  obtain ⟨⟨a1, a2, a3, a4⟩, k, t, o, w, m⟩ := h
  unfold WFk
  rw [g 0 (by omega), g 2 (by omega), g 3 (by omega), gj]
  refine ⟨⟨a1, by omega, a3, a4⟩, fun i hi => ?_, fun i hi => ?_, fun i hi => ?_, fun i hi => ?_, ?_⟩
  · rw [q 1 _ (by omega), q 2 _ (by omega)]; exact k i hi
  · by_cases e : i = P.1 1
    · subst e; rw [v1, v2, v3, v4]; exact ⟨h1, h2, h3, h4⟩
    · rw [qo _ _ e, qo _ _ e, qo _ _ e, qo _ _ e]; exact t i (by omega)
  · rw [q 8 _ (by omega), q 9 _ (by omega), q 20 _ (by omega)]
    obtain ⟨⟨j, j1, j2⟩, r⟩ := o i hi
    exact ⟨⟨j, by omega, j2⟩, r⟩
  · rw [q 10 _ (by omega), q 11 _ (by omega), q 12 _ (by omega), q 20 _ (by omega)]; exact w i hi
  · rw [q 20 _ (by omega), q 20 _ (by omega), q 20 _ (by omega)]; exact m
theorem mx_ge (a v : Int32) : a ≤ (if a < v then v else a) ∧ v ≤ (if a < v then v else a) := by
  by_cases c : a < v
  · rw [if_pos c]; exact ⟨Int32.le_of_lt c, Int32.le_refl v⟩
  · rw [if_neg c]; exact ⟨Int32.le_refl a, Int32.not_lt.mp c⟩
theorem WFk.ad2 {P : Pl} {v : Nat → Int32} {x : Int32} (h : WFk P) (hj : P.1 2 < 10) (h1 : ∃ j, j < P.1 1 ∧ v 0 = nI j) (h2 : ∃ j, j ≤ 99 ∧ v 1 = nI j) (hx : v 1 = x) : WFk (mxD (adP P 2 8 2 v) 3 x) := by
  have g : ∀ k, k ≠ 2 → (adP P 2 8 2 v).1 k = P.1 k := fun k hk => if_neg hk
  have gj : (adP P 2 8 2 v).1 2 = P.1 2 + 1 := rfl
  have q : ∀ k i, (k < 8 ∨ 10 ≤ k) → (adP P 2 8 2 v).2 k i = P.2 k i := fun k i hk => if_neg (by omega)
  have qo : ∀ k i, i ≠ P.1 2 → (adP P 2 8 2 v).2 k i = P.2 k i := fun k i hk => if_neg (fun z => hk z.2.2)
  have qv : ∀ c, c < 2 → (adP P 2 8 2 v).2 (8 + c) (P.1 2) = v c := fun c hc => by
    unfold adP
    dsimp only
    rw [if_pos ⟨by omega, by omega, rfl⟩]
    congr 1
    omega
  have v0 : (adP P 2 8 2 v).2 8 (P.1 2) = v 0 := qv 0 (by omega)
  have v1 : (adP P 2 8 2 v).2 9 (P.1 2) = v 1 := qv 1 (by omega)
  have e20 := mx_ge (P.2 20 3) x
  obtain ⟨⟨a1, a2, a3, a4⟩, k, t, o, w, m⟩ := h
  have r : ∀ k i, k ≠ 20 → (mxD (adP P 2 8 2 v) 3 x).2 k i = (adP P 2 8 2 v).2 k i := fun k i hk => u2_ne _ _ hk
  have r3 : (mxD (adP P 2 8 2 v) 3 x).2 20 3 = (if P.2 20 3 < x then x else P.2 20 3) := by
    show u2 (adP P 2 8 2 v).2 20 3 (if (adP P 2 8 2 v).2 20 3 < x then x else (adP P 2 8 2 v).2 20 3) 20 3 = _
    rw [u2_at, q 20 _ (by omega)]
  have r4 : ∀ i, i ≠ 3 → (mxD (adP P 2 8 2 v) 3 x).2 20 i = P.2 20 i := fun i hi => by
    show u2 (adP P 2 8 2 v).2 20 3 (if (adP P 2 8 2 v).2 20 3 < x then x else (adP P 2 8 2 v).2 20 3) 20 i = _
    rw [u2_nk _ _ hi, q 20 _ (by omega)]
  show WFk ((adP P 2 8 2 v).1, (mxD (adP P 2 8 2 v) 3 x).2)
  unfold WFk
  dsimp only
  rw [g 0 (by omega), g 1 (by omega), g 3 (by omega), gj, r3, r4 0 (by omega), r4 1 (by omega), r4 2 (by omega), r4 4 (by omega)]
  refine ⟨⟨a1, a2, by omega, a4⟩, fun i hi => ?_, fun i hi => ?_, fun i hi => ?_, fun i hi => ?_, m⟩
  · rw [r 1 _ (by omega), r 2 _ (by omega), q 1 _ (by omega), q 2 _ (by omega)]; exact k i hi
  · rw [r 4 _ (by omega), r 5 _ (by omega), r 6 _ (by omega), r 7 _ (by omega), q 4 _ (by omega), q 5 _ (by omega), q 6 _ (by omega), q 7 _ (by omega)]; exact t i hi
  · rw [r 8 _ (by omega), r 9 _ (by omega)]
    by_cases e : i = P.1 2
    · subst e; rw [v0, v1]; exact ⟨h1, h2, by rw [hx]; exact e20.2⟩
    · rw [qo _ _ e, qo _ _ e]
      obtain ⟨o1, o2, o3⟩ := o i (by omega)
      exact ⟨o1, o2, Int32.le_trans o3 e20.1⟩
  · rw [r 10 _ (by omega), r 11 _ (by omega), r 12 _ (by omega), q 10 _ (by omega), q 11 _ (by omega), q 12 _ (by omega)]; exact w i hi
theorem WFk.ad3 {P : Pl} {v : Nat → Int32} {x : Int32} (h : WFk P) (hj : P.1 3 < 8) (h1 : ∃ j, j < P.1 0 ∧ v 0 = nI j) (h2 : ∃ j, j ≤ 99 ∧ v 1 = nI j) (h3 : ∃ j, 1 ≤ j ∧ j ≤ 99 ∧ v 2 = nI j) (hx : v 1 = x) : WFk (mxD (adP P 3 10 3 v) 4 x) := by
  have g : ∀ k, k ≠ 3 → (adP P 3 10 3 v).1 k = P.1 k := fun k hk => if_neg hk
  have gj : (adP P 3 10 3 v).1 3 = P.1 3 + 1 := rfl
  have q : ∀ k i, (k < 10 ∨ 13 ≤ k) → (adP P 3 10 3 v).2 k i = P.2 k i := fun k i hk => if_neg (by omega)
  have qo : ∀ k i, i ≠ P.1 3 → (adP P 3 10 3 v).2 k i = P.2 k i := fun k i hk => if_neg (fun z => hk z.2.2)
  have qv : ∀ c, c < 3 → (adP P 3 10 3 v).2 (10 + c) (P.1 3) = v c := fun c hc => by
    unfold adP
    dsimp only
    rw [if_pos ⟨by omega, by omega, rfl⟩]
    congr 1
    omega
  have v0 : (adP P 3 10 3 v).2 10 (P.1 3) = v 0 := qv 0 (by omega)
  have v1 : (adP P 3 10 3 v).2 11 (P.1 3) = v 1 := qv 1 (by omega)
  have v2 : (adP P 3 10 3 v).2 12 (P.1 3) = v 2 := qv 2 (by omega)
  have e20 := mx_ge (P.2 20 4) x
  obtain ⟨⟨a1, a2, a3, a4⟩, k, t, o, w, m⟩ := h
  have r : ∀ k i, k ≠ 20 → (mxD (adP P 3 10 3 v) 4 x).2 k i = (adP P 3 10 3 v).2 k i := fun k i hk => u2_ne _ _ hk
  have r3 : (mxD (adP P 3 10 3 v) 4 x).2 20 4 = (if P.2 20 4 < x then x else P.2 20 4) := by
    show u2 (adP P 3 10 3 v).2 20 4 (if (adP P 3 10 3 v).2 20 4 < x then x else (adP P 3 10 3 v).2 20 4) 20 4 = _
    rw [u2_at, q 20 _ (by omega)]
  have r4 : ∀ i, i ≠ 4 → (mxD (adP P 3 10 3 v) 4 x).2 20 i = P.2 20 i := fun i hi => by
    show u2 (adP P 3 10 3 v).2 20 4 (if (adP P 3 10 3 v).2 20 4 < x then x else (adP P 3 10 3 v).2 20 4) 20 i = _
    rw [u2_nk _ _ hi, q 20 _ (by omega)]
  show WFk ((adP P 3 10 3 v).1, (mxD (adP P 3 10 3 v) 4 x).2)
  unfold WFk
  dsimp only
  rw [g 0 (by omega), g 1 (by omega), g 2 (by omega), gj, r3, r4 0 (by omega), r4 1 (by omega), r4 2 (by omega), r4 3 (by omega)]
  refine ⟨⟨a1, a2, a3, by omega⟩, fun i hi => ?_, fun i hi => ?_, fun i hi => ?_, fun i hi => ?_, m⟩
  · rw [r 1 _ (by omega), r 2 _ (by omega), q 1 _ (by omega), q 2 _ (by omega)]; exact k i hi
  · rw [r 4 _ (by omega), r 5 _ (by omega), r 6 _ (by omega), r 7 _ (by omega), q 4 _ (by omega), q 5 _ (by omega), q 6 _ (by omega), q 7 _ (by omega)]; exact t i hi
  · rw [r 8 _ (by omega), r 9 _ (by omega), q 8 _ (by omega), q 9 _ (by omega)]; exact o i hi
  · rw [r 10 _ (by omega), r 11 _ (by omega), r 12 _ (by omega)]
    by_cases e : i = P.1 3
    · subst e; rw [v0, v1, v2]; exact ⟨h1, h2, h3, by rw [hx]; exact e20.2⟩
    · rw [qo _ _ e, qo _ _ e, qo _ _ e]
      obtain ⟨o1, o2, o3, o4⟩ := w i (by omega)
      exact ⟨o1, o2, o3, Int32.le_trans o4 e20.1⟩
theorem WFk.st {P : Pl} {q : Nat} {x : Int32} (h : WFk P) (hq : q < 3) (hx : ∃ j, j ≤ (if q = 0 then 20 else if q = 1 then 100 else 99999) ∧ x = nI j) : WFk (P.1, u2 P.2 20 q x) := by
  obtain ⟨a, k, t, o, w, m1, m2, m3⟩ := h
  have r : ∀ k i, k ≠ 20 → u2 P.2 20 q x k i = P.2 k i := fun k i hk => u2_ne _ _ hk
  unfold WFk
  dsimp only
  refine ⟨a, fun i hi => ?_, fun i hi => ?_, fun i hi => ?_, fun i hi => ?_, ?_⟩
  · rw [r 1 _ (by omega), r 2 _ (by omega)]; exact k i hi
  · rw [r 4 _ (by omega), r 5 _ (by omega), r 6 _ (by omega), r 7 _ (by omega)]; exact t i hi
  · rw [r 8 _ (by omega), r 9 _ (by omega), u2_nk _ _ (by omega)]; exact o i hi
  · rw [r 10 _ (by omega), r 11 _ (by omega), r 12 _ (by omega), u2_nk _ _ (by omega)]; exact w i hi
  · obtain rfl | rfl | rfl : q = 0 ∨ q = 1 ∨ q = 2 := by omega
    · refine ⟨?_, ?_, ?_⟩
      · rw [u2_at]; exact hx
      · rw [u2_nk _ _ (by omega)]; exact m2
      · rw [u2_nk _ _ (by omega)]; exact m3
    · refine ⟨?_, ?_, ?_⟩
      · rw [u2_nk _ _ (by omega)]; exact m1
      · rw [u2_at]; exact hx
      · rw [u2_nk _ _ (by omega)]; exact m3
    · refine ⟨?_, ?_, ?_⟩
      · rw [u2_nk _ _ (by omega)]; exact m1
      · rw [u2_nk _ _ (by omega)]; exact m2
      · rw [u2_at]; exact hx
/-- a LINE that adds no law -/
theorem LI.put {n : Nat} {s s' : PSt} {P' : Pl} (h : LI n s) (g : L0 n s s') (hk : WFk P') (e4 : P'.1 4 = (pP s).1 4) (e5 : P'.1 5 = (pP s).1 5) (e : ∀ k, 13 ≤ k → k ≤ 16 → P'.2 k = (pP s).2 k) : LI n (stP s' P') := by
  obtain ⟨h1, h2, h3, h4, h5⟩ := h
  refine ⟨⟨g.1.1, ?_, ?_⟩, g.2.1, hk, h4.same e4 e, ?_⟩
  · show P'.1 5 ≤ 64
    rw [e5]; exact h1.2.1
  · show P'.1 4 ≤ P'.1 5
    rw [e4, e5]; exact h1.2.2
  · show P'.1 4 = P'.1 5
    rw [e4, e5]; exact h5
theorem bgP_16 (P : Pl) (w : Nat) : (bgP P w).2 16 0 = P.2 16 0 ||| nI 1 <<< (nI w &&& 31) := by
  unfold bgP
  dsimp only
  rw [u2_ne _ _ (by omega), u2_ne _ _ (by omega), u2_at]
theorem bgP_14 (P : Pl) (w w2 : Nat) : (bgP P w).2 14 w2 = u2 P.2 14 w (nI (P.1 4)) 14 w2 := by
  unfold bgP
  dsimp only
  rw [u2_ne _ _ (by omega)]
  by_cases c : w2 = w
  · subst c; rw [u2_at, u2_at]
  · rw [u2_nk _ _ c, u2_nk _ _ c, u2_ne _ _ (by omega)]
theorem bgP_15 (P : Pl) {w w2 : Nat} (c : w2 ≠ w) : (bgP P w).2 15 w2 = P.2 15 w2 := by
  unfold bgP
  dsimp only
  rw [u2_nk _ _ c, u2_ne _ _ (by omega), u2_ne _ _ (by omega)]
theorem bgP_row (P : Pl) (w : Nat) {k : Nat} (hk : k < 14 ∨ 16 < k) : (bgP P w).2 k = P.2 k := by
  unfold bgP
  dsimp only
  rw [u2_row _ _ (by omega), u2_row _ _ (by omega), u2_row _ _ (by omega)]
section LWF
variable {f : Nat → Nat} {n : Nat} {s s' : PSt}
theorem adP_row {P : Pl} {j b w : Nat} {v : Nat → Int32} {k : Nat} (h : k < b ∨ b + w ≤ k) : (adP P j b w v).2 k = P.2 k := by
  funext i
  exact if_neg (by omega)
theorem ki_LI (hf : ∀ j, f j < 256) (h : LI n s) (e : kiS f n s = .inr s') : LI n s' ∧ pAt s ≤ pAt s' := by
  obtain ⟨s1, e1, e⟩ := bnd_inr e
  obtain ⟨s2, e2, e⟩ := bnd_inr e
  obtain ⟨s3, e3, e⟩ := bnd_inr e
  obtain ⟨s4, e4, e⟩ := bnd_inr e
  obtain rfl := Sum.inr.inj e
  obtain ⟨r1, a1⟩ := roS_v e1
  have a2 := nnS_v e2
  obtain ⟨b3, c3, a3⟩ := nuS_v e3
  obtain ⟨b4, c4, a4⟩ := nuS_v e4
  have g1 := av_L0 hf h.1 a1
  have g2 := g1.tr (av_L0 hf g1.1 a2)
  have g3 := g2.tr (av_L0 hf g2.1 a3)
  have g4 := g3.tr (av_L0 hf g3.1 a4)
  rw [g4.P]
  refine ⟨h.put g4 (h.2.2.1.ad0 r1 ?_ ?_) rfl rfl (fun k a b => adP_row (by omega)), g4.2.2.2⟩
  · exact nI_rg (by omega) (by omega) b3 c3
  · obtain ⟨j, -, j2, j3⟩ := nI_rg (by omega) (by omega) b4 c4
    exact ⟨j, j2, j3⟩
theorem ti_LI (hf : ∀ j, f j < 256) (h : LI n s) (e : tiS f n s = .inr s') : LI n s' ∧ pAt s ≤ pAt s' := by
  obtain ⟨s1, e1, e⟩ := bnd_inr e
  obtain ⟨s2, e2, e⟩ := bnd_inr e
  obtain ⟨s3, e3, e⟩ := bnd_inr e
  obtain ⟨s4, e4, e⟩ := bnd_inr e
  obtain ⟨s5, e5, e⟩ := bnd_inr e
  obtain ⟨s6, e6, e⟩ := bnd_inr e
  obtain rfl := Sum.inr.inj e
  obtain ⟨r1, a1⟩ := roS_v e1
  have a2 := nnS_v e2
  obtain ⟨b3, a3⟩ := tnS_v e3
  obtain ⟨b4, c4, a4⟩ := nuS_v e4
  obtain ⟨b5, c5, a5⟩ := nuS_v e5
  obtain ⟨b6, c6, a6⟩ := nuS_v e6
  have g1 := av_L0 hf h.1 a1
  have g2 := g1.tr (av_L0 hf g1.1 a2)
  have g3 := g2.tr (av_L0 hf g2.1 a3)
  have g4 := g3.tr (av_L0 hf g3.1 a4)
  have g5 := g4.tr (av_L0 hf g4.1 a5)
  have g6 := g5.tr (av_L0 hf g5.1 a6)
  rw [g6.P]
  rw [g2.P] at b3
  refine ⟨h.put g6 (h.2.2.1.ad1 r1 b3 ?_ ?_ ?_) rfl rfl (fun k a b => adP_row (by omega)), g6.2.2.2⟩
  · obtain ⟨j, -, j2, j3⟩ := nI_rg (by omega) (by omega) b4 c4
    exact ⟨j, j2, j3⟩
  · exact nI_rg (by omega) (by omega) b5 c5
  · obtain ⟨j, -, j2, j3⟩ := nI_rg (by omega) (by omega) b6 c6
    exact ⟨j, j2, j3⟩
theorem op_LI (hf : ∀ j, f j < 256) (h : LI n s) (e : opS f n s = .inr s') : LI n s' ∧ pAt s ≤ pAt s' := by
  obtain ⟨s1, e1, e⟩ := bnd_inr e
  obtain ⟨s2, e2, e⟩ := bnd_inr e
  obtain ⟨s3, e3, e⟩ := bnd_inr e
  obtain rfl := Sum.inr.inj e
  obtain ⟨r1, a1⟩ := roS_v e1
  obtain ⟨b2, a2⟩ := tnS_v e2
  obtain ⟨b3, c3, a3⟩ := nuS_v e3
  have g1 := av_L0 hf h.1 a1
  have g2 := g1.tr (av_L0 hf g1.1 a2)
  have g3 := g2.tr (av_L0 hf g2.1 a3)
  rw [g3.P]
  rw [g1.P] at b2
  refine ⟨h.put g3 (h.2.2.1.ad2 r1 b2 ?_ rfl) rfl rfl (fun k a b => (u2_row _ _ (by omega)).trans (adP_row (by omega))), g3.2.2.2⟩
  obtain ⟨j, -, j2, j3⟩ := nI_rg (by omega) (by omega) b3 c3
  exact ⟨j, j2, j3⟩
theorem wa_LI (hf : ∀ j, f j < 256) (h : LI n s) (e : waS f n s = .inr s') : LI n s' ∧ pAt s ≤ pAt s' := by
  obtain ⟨s1, e1, e⟩ := bnd_inr e
  obtain ⟨s2, e2, e⟩ := bnd_inr e
  obtain ⟨s3, e3, e⟩ := bnd_inr e
  obtain ⟨s4, e4, e⟩ := bnd_inr e
  obtain rfl := Sum.inr.inj e
  obtain ⟨r1, a1⟩ := roS_v e1
  obtain ⟨b2, a2⟩ := tnS_v e2
  obtain ⟨b3, c3, a3⟩ := nuS_v e3
  obtain ⟨b4, c4, a4⟩ := nuS_v e4
  have g1 := av_L0 hf h.1 a1
  have g2 := g1.tr (av_L0 hf g1.1 a2)
  have g3 := g2.tr (av_L0 hf g2.1 a3)
  have g4 := g3.tr (av_L0 hf g3.1 a4)
  rw [g4.P]
  rw [g1.P] at b2
  refine ⟨h.put g4 (h.2.2.1.ad3 r1 b2 ?_ ?_ rfl) rfl rfl (fun k a b => (u2_row _ _ (by omega)).trans (adP_row (by omega))), g4.2.2.2⟩
  · obtain ⟨j, -, j2, j3⟩ := nI_rg (by omega) (by omega) b3 c3
    exact ⟨j, j2, j3⟩
  · exact nI_rg (by omega) (by omega) b4 c4
theorem on_LI (hf : ∀ j, f j < 256) (h : LI n s) {t q : Nat} {hi : Nat} (hq : q < 3) (hhi : hi = if q = 0 then 20 else if q = 1 then 100 else 99999) (e : onS f n t q (nI hi) s = .inr s') : LI n s' ∧ pAt s ≤ pAt s' := by
  unfold onS at e
  split at e
  · exact absurd e (by simp [flS])
  · obtain ⟨s1, a1, e⟩ := bnd_inr e
    obtain ⟨s2, e2, e⟩ := bnd_inr e
    obtain rfl := Sum.inr.inj e
    obtain ⟨b2, c2, a2⟩ := nuS_v e2
    have hs : LI n (s.1, s.2.1, (fun k => s.2.2.1 k || decide (t = k)), s.2.2.2) := h
    have g1 := av_L0 hf hs.1 a1
    have g2 := g1.tr (av_L0 hf g1.1 a2)
    rw [g2.P]
    have hb : hi ≤ 99999 := by rw [hhi]; split; omega; split <;> omega
    refine ⟨hs.put g2 (hs.2.2.1.st hq ?_) rfl rfl (fun k a b => u2_row _ _ (by omega)), g2.2.2.2⟩
    obtain ⟨j, -, j2, j3⟩ := nI_rg (by omega) (by omega) b2 c2
    exact ⟨j, by rw [← hhi]; exact j2, j3⟩
theorem lw_LI (hf : ∀ j, f j < 256) (h : LI n s) (e : lwS f n s = .inr s') : LI n s' ∧ pAt s ≤ pAt s' := by
  obtain ⟨s1, a1, e⟩ := bnd_inr e
  split at e
  · next hc =>
    split at e
    · exact absurd e (by simp [flS])
    · next nt =>
      obtain ⟨s2, a2, e⟩ := bnd_inr e
      obtain ⟨s4, e4, e⟩ := bnd_inr e
      obtain rfl := Sum.inr.inj e
      have g1 := av_L0 hf h.1 a1
      have g2 := g1.tr (av_L0 hf g1.1 a2)
      obtain ⟨h1, h2, h3, h4, h5⟩ := h
      have hw : lwN s1 < 3 := by
        obtain ⟨j, j1, j2, j3⟩ := nI_rg (by omega) (by omega) hc.1 hc.2
        unfold lwN
        rw [j3, pk_sub j1, nI_clamp (by omega)]
        omega
      generalize lwN s1 = w at hw e4 nt ⊢
      have eP : pP s2 = pP s := g2.P
      have o3 : Okp n (stP s2 (bgP (pP s2) w)) := g2.1
      have hx := exT_eq hf o3
      rw [e4] at hx
      obtain ⟨gb, o4, lt⟩ := exA_ok hf _ _ _ _ _ o3 hx
      obtain ⟨t4, ht, -⟩ := exA_ht hf _ _ _ _ _ o3 (show TkR (stP s2 (bgP (pP s2) w)) from g2.2.1) hx
      have ht := ht (by omega)
      have hr := gb.1
      obtain ⟨gr1, gr2, gr3, gr4, gr5, gr6, gr7, gr8⟩ := hr
      have x4 : (pP (stP s2 (bgP (pP s2) w))).1 4 = (pP s).1 4 := by rw [← eP]; rfl
      have x5 : (pP (stP s2 (bgP (pP s2) w))).1 5 = (pP s).1 5 := by rw [← eP]; rfl
      have x2 : ∀ k, (k < 14 ∨ 16 < k) → (pP (stP s2 (bgP (pP s2) w))).2 k = (pP s).2 k := fun k hk => by
        rw [← eP]
        exact bgP_row _ _ hk
      have gb2 := gb.2
      rw [x4, x5] at gb2
      have y2 : ∀ k, (k < 13 ∨ 16 < k) → (pP s4).2 k = (pP s).2 k := fun k hk => (gr3 k (by omega)).trans (x2 k (by omega))
      have l4 : (pP s).1 4 ≤ (pP s4).1 4 := by rw [← x4]; exact gr5
      refine ⟨⟨⟨o4.1, o4.2.1, o4.2.2⟩, t4, ?_, ⟨?_, ?_⟩, ?_⟩, ?_⟩
      · refine h3.same (fun k hk => ?_) (fun k hk => ?_)
        · show (pP s4).1 k = _
          rw [gr2 k (by omega) (by omega), ← eP]
          rfl
        · show u2 (pP s4).2 15 w _ k = _
          rw [u2_row _ _ (by omega), y2 k (by omega)]
      · intro w2 hw2 hb
        have q16 : (pP s4).2 16 0 = (pP s).2 16 0 ||| nI 1 <<< (nI w &&& 31) := by
          rw [gr3 16 (by omega), ← eP]
          exact bgP_16 _ _
        have hb : bitOf (u2 (pP s4).2 15 w (nI ((pP s4).1 4)) 16 0) (nI w2) = true := hb
        rw [u2_ne _ _ (by omega), q16, bit_or _ (by omega) (by omega)] at hb
        show ∃ a b, u2 (pP s4).2 15 w (nI ((pP s4).1 4)) 14 w2 = nI a ∧ u2 (pP s4).2 15 w (nI ((pP s4).1 4)) 15 w2 = nI b ∧ a ≤ b ∧ b ≤ (pP s4).1 4 ∧ ∀ x, htF (u2 (pP s4).2 15 w (nI ((pP s4).1 4)) 13) (b - a) a x = some (x + 1)
        have z14 : (pP s4).2 14 w2 = u2 (pP s).2 14 w (nI ((pP s).1 4)) 14 w2 := by
          rw [gr3 14 (by omega), ← eP]
          exact bgP_14 _ _ _
        rw [u2_ne _ _ (by omega), z14, u2_row _ _ (by omega : 13 ≠ 15)]
        by_cases c : w2 = w
        · subst c
          rw [u2_at, u2_at]
          refine ⟨_, _, rfl, rfl, l4, Nat.le_refl _, fun x => ?_⟩
          have := ht x
          rw [x4] at this
          exact this
        · rw [u2_nk _ _ c, u2_nk _ _ c]
          rw [decide_eq_false (fun q => c q.symm), Bool.or_false] at hb
          obtain ⟨a, b, q1, q2, q3, q4, q5⟩ := h4.1 w2 hw2 hb
          have z15 : (pP s4).2 15 w2 = (pP s).2 15 w2 := by
            rw [gr3 15 (by omega), ← eP]
            exact bgP_15 _ c
          rw [z15]
          refine ⟨a, b, q1, q2, q3, by omega, fun x => ?_⟩
          rw [htF_congr _ _ _ (fun j j1 j2 => (gr4 j (by rw [x4]; omega)).trans (by rw [x2 13 (by omega)]))]
          exact q5 x
      · show (pP s4).1 4 ≤ 64
        have := o4.2.1
        have := o4.2.2
        omega
      · show (pP s4).1 4 = (pP s4).1 5
        omega
      · show pAt s ≤ pAt s4
        have := g2.2.2.2
        have : pAt s2 ≤ pAt s4 := gr8
        omega
  · exact absurd e (by simp [flS])
theorem ln_LI (hf : ∀ j, f j < 256) (h : LI n s) (e : lnS f n s = .inr s') : LI n s' ∧ pAt s ≤ pAt s' := by
  unfold lnS at e
  split at e
  · exact ki_LI hf h e
  · split at e
    · exact ti_LI hf h e
    · split at e
      · exact op_LI hf h e
      · split at e
        · exact wa_LI hf h e
        · split at e
          · exact on_LI (q := 0) (hi := 20) hf h (by omega) rfl e
          · split at e
            · exact on_LI (q := 1) (hi := 100) hf h (by omega) rfl e
            · split at e
              · exact on_LI (q := 2) (hi := 99999) hf h (by omega) rfl e
              · split at e
                · exact lw_LI hf h e
                · exact absurd e (by simp [flS])
/-- .. and the whole TEXT does; where it ends there is no token left -/
theorem rd_LI (hf : ∀ j, f j < 256) : ∀ k s s', LI n s → (pTk s = nI 0 ∨ n < pAt s + k) → rdS f n k s = .inr s' → LI n s' ∧ (pTk s' = nI 0 ∨ n < pAt s')
  | 0, s, s', h, hp, e => by
    obtain rfl := Sum.inr.inj e
    exact ⟨h, hp.imp id (fun q => by omega)⟩
  | k + 1, s, s', h, hp, e => by
    rw [rdS] at e
    split at e
    · next c => obtain rfl := Sum.inr.inj e; exact ⟨h, Or.inl c⟩
    · next c =>
      obtain ⟨s1, e1, e⟩ := bnd_inr e
      obtain ⟨s2, e2, e⟩ := bnd_inr e
      obtain ⟨h1, p1⟩ := ln_LI hf h e1
      unfold exS at e2
      by_cases c59 : pTk s1 = nI 59
      · rw [if_pos c59] at e2
        have g2 := av_L0 hf h1.1 e2
        have h2 : LI n s2 := ⟨g2.1, g2.2.1, by rw [g2.P]; exact h1.2.2.1, by rw [g2.P]; exact h1.2.2.2.1, by rw [g2.P]; exact h1.2.2.2.2⟩
        refine rd_LI hf k (s2.1, s2.2.1, s2.2.2.1, s2.2.2.2 + 1) s' h2 ?_ e
        show pTk s2 = nI 0 ∨ n < pAt s2 + k
        by_cases c2 : pTk s2 = nI 0
        · exact Or.inl c2
        · refine Or.inr ?_
          rcases hp with hp | hp
          · exact absurd hp c
          · unfold avS at e2
            rw [if_neg (by rw [c59]; decide)] at e2
            · obtain rfl := Sum.inr.inj e2
              have := (advA_at (va := pVa s1) h1.1.1 hf).2.2 c2
              have : pAt s1 < (advA f n (pAt s1) (pVa s1)).1 := this
              show n < (advA f n (pAt s1) (pVa s1)).1 + k
              omega
      · rw [if_neg c59] at e2
        exact absurd e2 (by simp [flS])
end LWF
