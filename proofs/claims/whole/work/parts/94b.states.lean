/-! ===== states in order, over all calls ===== -/
def OS (P : Pl) (S : SM) (im : Bool) (SI : SM) (m : Nat) (T : SM) (kn : Int32) (u : Nat) (Hs : Nat → SM) : Prop := WA P 9900 S ∧ (im = true → WA P 9900 SI) ∧ (∀ i, i < u → WA P 9900 (Hs i)) ∧ wfT (P.1 1) m T kn ∧ wfB m T ∧ u ≤ 20
section OSt
variable {P : Pl} {S S' : SM} {im : Bool} {SI : SM} {m : Nat} {T : SM} {kn : Int32} {u : Nat} {Hs : Nat → SM}
theorem OS.push (h : OS P S im SI m T kn u Hs) (hS : WA P 9900 S') : OS P S' im SI m T kn (u1 u) (H1 u Hs S) := by
  obtain ⟨h1, h2, h3, h4, h5, h6⟩ := h
  refine ⟨hS, h2, fun i hi => ?_, h4, h5, by unfold u1; split <;> omega⟩
  unfold H1
  unfold u1 at hi
  by_cases c : u = 20
  · rw [if_pos c] at hi ⊢
    rw [if_pos c]
    by_cases e : i = 19
    · rw [if_pos e]; exact h1
    · rw [if_neg e]; exact h3 (i + 1) (by omega)
  · rw [if_neg c] at hi ⊢
    rw [if_neg c]
    by_cases e : i = u
    · rw [if_pos e]; exact h1
    · rw [if_neg e]; exact h3 i (by omega)
theorem OS.now (h : OS P S im SI m T kn u Hs) (hS : WA P 9900 S') : OS P S' im SI m T kn u Hs := ⟨hS, h.2⟩
theorem WA.rows (h : WA P 9900 S) (h0 : S' 0 = S 0) (h1 : S' 1 = S 1) (h4 : S' 4 = S 4) (h9 : S' 9 = S 9) (h6 : ∀ c, S' 6 c = S 6 c) (h8 : S' 8 0 = S 8 0) (h11 : S' 11 0 = S 11 0) (h12 : S' 12 0 = S 12 0) : WA P 9900 S' := by
  obtain ⟨a, b, q, q1, q2⟩ := h
  exact ⟨a.rows h0 h1 h4 h9, b.rows h6 h8 h11 h12, q, q1, h8.trans q2⟩
theorem WA.uns (h : WA P 9900 S) {t : Nat} (hk : 0 < S 9 0) : WA P 9900 (unsS P S t) := by
  obtain ⟨a, b, q, q1, q2⟩ := h
  have r : ∀ k c, k ≠ 0 → k ≠ 9 → k ≠ 4 → unsS P S t k c = S k c := fun k c x y z => by
    unfold unsS
    rw [u2_ne _ _ z, u2_ne _ _ y, u2_ne _ _ x]
  exact ⟨a.uns hk, b.rows (fun c => r 6 c (by omega) (by omega) (by omega)) (r 8 0 (by omega) (by omega) (by omega)) (r 11 0 (by omega) (by omega) (by omega)) (r 12 0 (by omega) (by omega) (by omega)), q, q1, by rw [r 8 0 (by omega) (by omega) (by omega)]; exact q2⟩
theorem WA.put (h : WA P 9900 S) (t : Nat) (x : Int32) : WA P 9900 (putS S t x) := by
  have r : ∀ k, k ≠ 2 → k < 100 → putS S t x k = S k := fun k a b => by
    funext c
    unfold putS
    rw [if_neg (fun q => a q.1), if_neg (by omega)]
  exact h.rows (r 0 (by omega) (by omega)) (r 1 (by omega) (by omega)) (r 4 (by omega) (by omega)) (r 9 (by omega) (by omega)) (fun c => by rw [r 6 (by omega) (by omega)]) (by rw [r 8 (by omega) (by omega)]) (by rw [r 11 (by omega) (by omega)]) (by rw [r 12 (by omega) (by omega)])
theorem WA.dent (h : WA P 9900 S) {t : Nat} (hd : S 1 t < nI 10) (ht : t < P.1 1) : WA P 9900 (u2 S 1 t (S 1 t + nI 1)) := by
  obtain ⟨⟨a, k, k1, k2⟩, b, q, q1, q2⟩ := h
  refine ⟨⟨fun x hx => ?_, k, k1, by rw [u2_ne _ _ (by omega)]; exact k2⟩, b.rows (fun c => u2_ne _ _ (by omega)) (u2_ne _ _ (by omega)) (u2_ne _ _ (by omega)) (u2_ne _ _ (by omega)), q, q1, by rw [u2_ne _ _ (by omega)]; exact q2⟩
  obtain ⟨st, de, fr, e1, e2, e3, e4, e5, e6, e7⟩ := a x hx
  by_cases c : x = t
  · subst c
    have : de < 10 := by rw [e5] at hd; exact (nI_ltI (by omega) (by omega)).mp hd
    exact ⟨st, de + 1, fr, e1, by omega, e3, by rw [u2_ne _ _ (by omega)]; exact e4, by rw [u2_at, e5, nI_add], by rw [u2_ne _ _ (by omega)]; exact e6, e7⟩
  · exact ⟨st, de, fr, e1, e2, e3, by rw [u2_ne _ _ (by omega)]; exact e4, by rw [u2_nk _ _ c]; exact e5, by rw [u2_ne _ _ (by omega)]; exact e6, e7⟩
theorem WA.find (h : WA P 9900 S) {k : Int32} (hk : isFind S k = true) : WA P 9900 (u2 S 9 0 (S 9 0 + k)) := by
  obtain ⟨⟨a, x, x1, x2⟩, b, q, q1, q2⟩ := h
  have hk := of_decide_eq_true hk
  obtain ⟨y, hy, rfl⟩ := nI_of (x := k) (Int32.not_lt.mpr (Int32.le_trans (by decide) hk.1))
  have y9 : y ≤ 9 := (nI_leI hy (by omega)).mp hk.2.1
  have hs : x + y ≤ 99 := by
    have := hk.2.2
    rw [x2, nI_add] at this
    exact (nI_leI (by omega) (by omega)).mp this
  refine ⟨⟨fun t ht => ?_, x + y, hs, by rw [u2_at, x2, nI_add]⟩, b.rows (fun c => u2_ne _ _ (by omega)) (u2_ne _ _ (by omega)) (u2_ne _ _ (by omega)) (u2_ne _ _ (by omega)), q, q1, by rw [u2_ne _ _ (by omega)]; exact q2⟩
  rw [u2_ne _ _ (by omega), u2_ne _ _ (by omega), u2_ne _ _ (by omega)]
  exact a t ht
theorem cF_0 : ∀ k i, cF (fun _ => false) i k = 0
  | 0, _ => rfl
  | k + 1, i => by rw [cF, cF_0 k (i + 1), if_neg (by decide)]
theorem cnt_0 (n : Nat) : cnt (fun _ => false) n = 0 := cF_0 n 0
theorem WA.beg {P : Pl} (hX : WFk P) : WA P 9900 (beg P) := by
  obtain ⟨-, -, ht, -, hw, ⟨k, k1, k2⟩, -⟩ := id hX
  have w1 := beg_W1 (P := P) hX (n := P.1 1) (t := P.1 1) (q := 0) rfl (by omega)
  have cz : nI (cnt (fun _ => false) (P.1 3)) = 0 := by rw [cnt_0]; rfl
  refine ⟨?_, ⟨fun w hw1 => ⟨Or.inl rfl, fun _ => ?_, fun _ => rfl⟩, ?_, ?_⟩, 0, by omega, rfl⟩
  · obtain ⟨a, b⟩ := w1
    refine ⟨fun t ht1 => ?_, ?_⟩
    · have := a t ht1
      rw [u2_ne _ _ (by omega), u2_nk _ _ (by omega), u2_ne _ _ (by omega)] at this
      exact this
    · rw [u2_ne _ _ (by omega)] at b; exact b
  · rw [if_neg (by omega)]
    obtain ⟨j, j1, j2⟩ := (hw w hw1).2.1
    rw [j2]
    exact nI_pos' (by omega)
  · exact cz.symm
  · exact cz.symm
theorem WA.go (h : WA P 9900 S) (hX : WFk P) {x : Int32} (hg : isGo S x = true) : WA P 9900 (itS (pa0 P true (P.1 1)) x.toNatClampNeg S) := by
  unfold isGo at hg
  rw [Bool.and_eq_true] at hg
  have h1 := of_decide_eq_true hg.1
  have h2 := of_decide_eq_true hg.2
  obtain ⟨y, hy, rfl⟩ := nI_of (x := x) (Int32.not_lt.mpr h1.1)
  have y9 : y < 100 := (nI_ltI hy (by omega)).mp h1.2
  obtain ⟨a, b, q, q1, q2⟩ := h
  rw [q2, nI_add] at h2
  have h3 := (nI_leI (by omega) (by omega)).mp h2
  rw [nI_clamp hy]
  have := WA.it hX (dr := true) (way := nI 0) (sp := nI 0) y (show WA P q S from ⟨a, b, q, Nat.le_refl _, q2⟩) (by omega)
  exact this.mono h3
theorem wfT.add {n : Nat} (h : wfT n m T kn) {so mu ti : Int32} {is : Bool} (h2 : so = nI 2 → (∃ j, j ≤ 60 ∧ mu = nI j) ∧ ∃ j, j < n ∧ ti = nI j) (h3 : so = nI 3 → ∃ j, j < m ∧ mu = nI j) (hs : so = nI 0 ∨ so = nI 1 ∨ so = nI 2 ∨ so = nI 3) : wfT n (addM m) (addT m T so mu ti is) kn := by
  unfold addM addT
  by_cases c : 24 ≤ m
  · rw [if_pos c, if_pos c]; exact h
  · rw [if_neg c, if_neg c]
    obtain ⟨a1, a2, a3, a4, a5, a6⟩ := h
    refine ⟨fun i hi => ?_, fun i hi => ?_, fun i hi => ?_, a4.imp id (fun q => ?_), fun i hi => ?_, by omega⟩
    · by_cases e : i = m
      · simp only [if_pos e]; exact fun q => (h2 q).1
      · simp only [if_neg e]; exact a1 i (by omega)
    · by_cases e : i = m
      · simp only [if_pos e]; exact fun q => (h2 q).2
      · simp only [if_neg e]; exact a2 i (by omega)
    · by_cases e : i = m
      · simp only [if_pos e]; exact fun q => by rw [e]; exact h3 q
      · simp only [if_neg e]; exact a3 i (by omega)
    · obtain ⟨j, j1, j2⟩ := q; exact ⟨j, by omega, j2⟩
    · by_cases e : i = m
      · simp only [if_pos e]; exact hs
      · simp only [if_neg e]; exact a5 i (by omega)
theorem wfB.add (h : wfB m T) {so mu ti : Int32} {is : Bool} : wfB (addM m) (addT m T so mu ti is) := by
  unfold addM addT
  by_cases c : 24 ≤ m
  · rw [if_pos c, if_pos c]; exact h
  · rw [if_neg c, if_neg c]
    intro i hi
    by_cases e : i = m
    · simp only [if_pos e]; exact ⟨is, rfl⟩
    · simp only [if_neg e]; exact h i (by omega)
theorem inN_is {n : Nat} (hn : n < 2 ^ 31) {x : Int32} (h : inN n x = true) : ∃ j, j < n ∧ x = nI j := by
  have h := of_decide_eq_true h
  obtain ⟨y, hy, rfl⟩ := nI_of (x := x) (Int32.not_lt.mpr h.1)
  exact ⟨y, (nI_ltI hy hn).mp h.2, rfl⟩
theorem OS.note (h : OS P S im SI m T kn u Hs) {w x : Int32} {is : Bool} (hw : isNote w x = true) : OS P S im SI (addM m) (addT m T w x (nI 0) is) kn u Hs := by
  obtain ⟨h1, h2, h3, h4, h5, h6⟩ := h
  unfold isNote at hw
  rw [Bool.and_eq_true] at hw
  obtain ⟨j, j1, rfl⟩ := inN_is (by omega) hw.1
  refine ⟨h1, h2, h3, h4.add (fun q => absurd q (nI_ne (by omega) (by omega) (by omega))) (fun q => absurd q (nI_ne (by omega) (by omega) (by omega))) ?_, h5.add, h6⟩
  rcases (by omega : j = 0 ∨ j = 1) with rfl | rfl
  · exact Or.inl rfl
  · exact Or.inr (Or.inl rfl)
theorem OS.see (h : OS P S im SI m T kn u Hs) (h8 : P.1 1 ≤ 8) {x t : Int32} {is : Bool} (hw : isSee (P.1 1) x t = true) : OS P S im SI (addM m) (addT m T (nI 2) x t is) kn u Hs := by
  obtain ⟨h1, h2, h3, h4, h5, h6⟩ := h
  unfold isSee at hw
  rw [Bool.and_eq_true, Bool.and_eq_true] at hw
  obtain ⟨j, j1, rfl⟩ := inN_is (by omega) hw.1
  obtain ⟨k, k1, rfl⟩ := inN_is (by omega) hw.2.2
  exact ⟨h1, h2, h3, h4.add (fun _ => ⟨⟨j, by omega, rfl⟩, k, k1, rfl⟩) (fun q => absurd q (by decide)) (Or.inr (Or.inr (Or.inl rfl))), h5.add, h6⟩
theorem OS.strike (h : OS P S im SI m T kn u Hs) {x : Int32} (hw : inN m x = true) : OS P S im SI (addM m) (addT m T (nI 3) x (nI 0) true) kn u Hs := by
  obtain ⟨h1, h2, h3, h4, h5, h6⟩ := h
  have m24 := h4.2.2.2.2.2
  obtain ⟨j, j1, rfl⟩ := inN_is (by omega) hw
  exact ⟨h1, h2, h3, h4.add (fun q => absurd q (by decide)) (fun _ => ⟨j, j1, rfl⟩) (Or.inr (Or.inr (Or.inr rfl))), h5.add, h6⟩
theorem OS.known (h : OS P S im SI m T kn u Hs) {x : Int32} (hw : isKnown m x = true) : OS P S im SI m T x u Hs := by
  obtain ⟨h1, h2, h3, ⟨a1, a2, a3, a4, a5, a6⟩, h5, h6⟩ := h
  have hw := of_decide_eq_true hw
  refine ⟨h1, h2, h3, ⟨a1, a2, a3, ?_, a5, a6⟩, h5, h6⟩
  by_cases c : x < 0
  · refine Or.inl ?_
    have e1 := Int32.le_iff_toInt_le.mp hw.1
    have e2 := Int32.lt_iff_toInt_lt.mp c
    rw [← Int32.toInt_inj]
    have z0 : (0 : Int32).toInt = 0 := rfl
    have z1 : (-1 : Int32).toInt = -1 := rfl
    omega
  · obtain ⟨y, hy, rfl⟩ := nI_of c
    exact Or.inr ⟨y, (nI_leI hy (by omega)).mp hw.2, rfl⟩
theorem OS.fresh (hX : WFk P) : OS P (beg P) false SI 0 T (-1) 0 Hs := ⟨WA.beg hX, fun q => absurd q (by decide), fun i hi => absurd hi (by omega), ⟨fun i hi => absurd hi (by omega), fun i hi => absurd hi (by omega), fun i hi => absurd hi (by omega), Or.inl rfl, fun i hi => absurd hi (by omega), by omega⟩, fun i hi => absurd hi (by omega), by omega⟩
end OSt
