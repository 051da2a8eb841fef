/-! ===== a plan that grows ===== -/
section RPup
variable {I : IM} {p : Nat} {P : Pl}
theorem RP.kn (h : RP I p P) (hk : P.1 5 < 1000) : RP (u2 I (p + 22) 6 (nI (P.1 5 + 1))) p (knP P) := by
  obtain ⟨⟨m1, m2, m3, m4⟩, ⟨s1, b1⟩, ⟨s2, b2⟩, ⟨s3, b3⟩, ⟨s4, b4⟩, c1, c2, c3, c4, ⟨l1, l2, l3, l4, l5⟩, lc, lf, ⟨k1, k2, k3, k4, k5⟩⟩ := h
  have e : ∀ k, k ≠ 5 → (knP P).1 k = P.1 k := fun k hk => if_neg hk
  have e5 : (knP P).1 5 = P.1 5 + 1 := rfl
  unfold RP RPm
  rw [e 0 (by omega), e 1 (by omega), e 2 (by omega), e 3 (by omega), e 4 (by omega), e5]
  simp (disch := omega) only [u2_ne, u2_nk, u2_at]
  refine ⟨⟨m1, m2, m3, m4⟩, ⟨s1, b1⟩, ⟨s2, b2⟩, ⟨s3, b3⟩, ⟨s4, b4⟩, fun j hj i hi => ?_, fun j hj i hi => ?_, fun j hj i hi => ?_, fun j hj i hi => ?_, ⟨l1, l2, trivial, by omega, l5⟩, lc, lf, ⟨k1, k2, k3, k4, k5⟩⟩
  · rw [u2_ne _ _ (by omega)]; exact c1 j hj i hi
  · rw [u2_ne _ _ (by omega)]; exact c2 j hj i hi
  · rw [u2_ne _ _ (by omega)]; exact c3 j hj i hi
  · rw [u2_ne _ _ (by omega)]; exact c4 j hj i hi
theorem RP.em (h : RP I p P) (hz : P.1 4 < 64) (v : Int32) : RP (u2 (u2 I (p + 23) (P.1 4) v) (p + 22) 4 (nI (P.1 4 + 1))) p (emP P v) := by
  obtain ⟨⟨m1, m2, m3, m4⟩, ⟨s1, b1⟩, ⟨s2, b2⟩, ⟨s3, b3⟩, ⟨s4, b4⟩, c1, c2, c3, c4, ⟨l1, l2, l3, l4, l5⟩, lc, lf, ⟨k1, k2, k3, k4, k5⟩⟩ := h
  have ee : emP P v = (fun k => if k = 4 then P.1 4 + 1 else P.1 k, u2 P.2 13 (P.1 4) v) := if_pos hz
  rw [ee]
  unfold RP RPm
  dsimp only
  rw [if_neg (by omega : ¬ 0 = 4), if_neg (by omega : ¬ 1 = 4), if_neg (by omega : ¬ 2 = 4), if_neg (by omega : ¬ 3 = 4), if_neg (by omega : ¬ 5 = 4), if_pos rfl]
  refine ⟨⟨?_, ?_, ?_, ?_⟩, ⟨?_, b1⟩, ⟨?_, b2⟩, ⟨?_, b3⟩, ⟨?_, b4⟩, fun j hj i hi => ?_, fun j hj i hi => ?_, fun j hj i hi => ?_, fun j hj i hi => ?_, ⟨?_, by omega, ?_, l4, ?_⟩, fun i hi => ?_, fun i hi => ⟨?_, ?_⟩, ⟨?_, ?_, ?_, ?_, ?_⟩⟩
  · rw [u2_ne _ _ (by omega), u2_ne _ _ (by omega)]; exact m1
  · rw [u2_ne _ _ (by omega), u2_ne _ _ (by omega)]; exact m2
  · rw [u2_ne _ _ (by omega), u2_ne _ _ (by omega)]; exact m3
  · rw [u2_ne _ _ (by omega), u2_ne _ _ (by omega)]; exact m4
  · rw [u2_ne _ _ (by omega), u2_ne _ _ (by omega)]; exact s1
  · rw [u2_ne _ _ (by omega), u2_ne _ _ (by omega)]; exact s2
  · rw [u2_ne _ _ (by omega), u2_ne _ _ (by omega)]; exact s3
  · rw [u2_ne _ _ (by omega), u2_ne _ _ (by omega)]; exact s4
  · rw [u2_ne _ _ (by omega), u2_ne _ _ (by omega), u2_ne _ _ (by omega)]; exact c1 j hj i hi
  · rw [u2_ne _ _ (by omega), u2_ne _ _ (by omega), u2_ne _ _ (by omega)]; exact c2 j hj i hi
  · rw [u2_ne _ _ (by omega), u2_ne _ _ (by omega), u2_ne _ _ (by omega)]; exact c3 j hj i hi
  · rw [u2_ne _ _ (by omega), u2_ne _ _ (by omega), u2_ne _ _ (by omega)]; exact c4 j hj i hi
  · rw [u2_at]
  · rw [u2_nk _ _ (by omega), u2_ne _ _ (by omega)]; exact l3
  · rw [u2_nk _ _ (by omega), u2_ne _ _ (by omega), u2_ne _ _ (by omega)]; exact l5
  · rw [u2_ne _ _ (by omega)]
    by_cases e : i = P.1 4
    · rw [e, u2_at, u2_at]
    · rw [u2_nk _ _ e, u2_nk _ _ e]; exact lc i hi
  · rw [u2_ne _ _ (by omega), u2_ne _ _ (by omega), u2_ne _ _ (by omega)]; exact (lf i hi).1
  · rw [u2_ne _ _ (by omega), u2_ne _ _ (by omega), u2_ne _ _ (by omega)]; exact (lf i hi).2
  · rw [u2_ne _ _ (by omega), u2_ne _ _ (by omega), u2_ne _ _ (by omega)]; exact k1
  · rw [u2_ne _ _ (by omega), u2_ne _ _ (by omega), u2_ne _ _ (by omega)]; exact k2
  · rw [u2_ne _ _ (by omega), u2_ne _ _ (by omega), u2_ne _ _ (by omega)]; exact k3
  · rw [u2_ne _ _ (by omega), u2_ne _ _ (by omega), u2_ne _ _ (by omega)]; exact k4
  · rw [u2_ne _ _ (by omega), u2_ne _ _ (by omega), u2_ne _ _ (by omega)]; exact k5
theorem RP.bg (h : RP I p P) {w : Nat} (hw : w < 3) : RP (u2 (u2 (u2 I (p + 22) 5 (I (p + 22) 5 ||| nI 1 <<< (nI w &&& 31))) (p + 24) w (I (p + 22) 4)) (p + 25) w (I (p + 22) 4)) p (bgP P w) := by
  obtain ⟨⟨m1, m2, m3, m4⟩, ⟨s1, b1⟩, ⟨s2, b2⟩, ⟨s3, b3⟩, ⟨s4, b4⟩, c1, c2, c3, c4, ⟨l1, l2, l3, l4, l5⟩, lc, lf, ⟨k1, k2, k3, k4, k5⟩⟩ := h
  unfold RP RPm
  try dsimp only
  refine ⟨⟨?_, ?_, ?_, ?_⟩, ⟨?_, b1⟩, ⟨?_, b2⟩, ⟨?_, b3⟩, ⟨?_, b4⟩, fun j hj i hi => ?_, fun j hj i hi => ?_, fun j hj i hi => ?_, fun j hj i hi => ?_, ⟨?_, l2, ?_, l4, ?_⟩, fun i hi => ?_, fun i hi => ⟨?_, ?_⟩, ⟨?_, ?_, ?_, ?_, ?_⟩⟩
  · rw [u2_ne _ _ (by omega), u2_ne _ _ (by omega), u2_ne _ _ (by omega)]; exact m1
  · rw [u2_ne _ _ (by omega), u2_ne _ _ (by omega), u2_ne _ _ (by omega)]; exact m2
  · rw [u2_ne _ _ (by omega), u2_ne _ _ (by omega), u2_ne _ _ (by omega)]; exact m3
  · rw [u2_ne _ _ (by omega), u2_ne _ _ (by omega), u2_ne _ _ (by omega)]; exact m4
  · rw [u2_ne _ _ (by omega), u2_ne _ _ (by omega), u2_ne _ _ (by omega)]; exact s1
  · rw [u2_ne _ _ (by omega), u2_ne _ _ (by omega), u2_ne _ _ (by omega)]; exact s2
  · rw [u2_ne _ _ (by omega), u2_ne _ _ (by omega), u2_ne _ _ (by omega)]; exact s3
  · rw [u2_ne _ _ (by omega), u2_ne _ _ (by omega), u2_ne _ _ (by omega)]; exact s4
  · unfold bgP; dsimp only; rw [u2_ne _ _ (by omega), u2_ne _ _ (by omega), u2_ne _ _ (by omega), u2_ne _ _ (by omega), u2_ne _ _ (by omega), u2_ne _ _ (by omega)]; exact c1 j hj i hi
  · unfold bgP; dsimp only; rw [u2_ne _ _ (by omega), u2_ne _ _ (by omega), u2_ne _ _ (by omega), u2_ne _ _ (by omega), u2_ne _ _ (by omega), u2_ne _ _ (by omega)]; exact c2 j hj i hi
  · unfold bgP; dsimp only; rw [u2_ne _ _ (by omega), u2_ne _ _ (by omega), u2_ne _ _ (by omega), u2_ne _ _ (by omega), u2_ne _ _ (by omega), u2_ne _ _ (by omega)]; exact c3 j hj i hi
  · unfold bgP; dsimp only; rw [u2_ne _ _ (by omega), u2_ne _ _ (by omega), u2_ne _ _ (by omega), u2_ne _ _ (by omega), u2_ne _ _ (by omega), u2_ne _ _ (by omega)]; exact c4 j hj i hi
  · rw [u2_ne _ _ (by omega), u2_ne _ _ (by omega), u2_nk _ _ (by omega)]; exact l1
  · rw [u2_ne _ _ (by omega), u2_ne _ _ (by omega), u2_nk _ _ (by omega)]; exact l3
  · unfold bgP; dsimp only; rw [u2_ne _ _ (by omega), u2_ne _ _ (by omega), u2_at, u2_ne _ _ (by omega), u2_ne _ _ (by omega), u2_at, l5]
  · unfold bgP; dsimp only; rw [u2_ne _ _ (by omega), u2_ne _ _ (by omega), u2_ne _ _ (by omega), u2_ne _ _ (by omega), u2_ne _ _ (by omega), u2_ne _ _ (by omega)]; exact lc i hi
  · unfold bgP; dsimp only
    by_cases e : i = w
    · subst e; simp (disch := omega) only [u2_at, u2_ne]; exact l1
    · simp (disch := omega) only [u2_nk, u2_ne]; exact (lf i hi).1
  · unfold bgP; dsimp only
    by_cases e : i = w
    · subst e; simp (disch := omega) only [u2_at, u2_ne]; exact l1
    · simp (disch := omega) only [u2_nk, u2_ne]; exact (lf i hi).2
  · unfold bgP; dsimp only; rw [u2_ne _ _ (by omega), u2_ne _ _ (by omega), u2_ne _ _ (by omega), u2_ne _ _ (by omega), u2_ne _ _ (by omega), u2_ne _ _ (by omega)]; exact k1
  · unfold bgP; dsimp only; rw [u2_ne _ _ (by omega), u2_ne _ _ (by omega), u2_ne _ _ (by omega), u2_ne _ _ (by omega), u2_ne _ _ (by omega), u2_ne _ _ (by omega)]; exact k2
  · unfold bgP; dsimp only; rw [u2_ne _ _ (by omega), u2_ne _ _ (by omega), u2_ne _ _ (by omega), u2_ne _ _ (by omega), u2_ne _ _ (by omega), u2_ne _ _ (by omega)]; exact k3
  · unfold bgP; dsimp only; rw [u2_ne _ _ (by omega), u2_ne _ _ (by omega), u2_ne _ _ (by omega), u2_ne _ _ (by omega), u2_ne _ _ (by omega), u2_ne _ _ (by omega)]; exact k4
  · unfold bgP; dsimp only; rw [u2_ne _ _ (by omega), u2_ne _ _ (by omega), u2_ne _ _ (by omega), u2_ne _ _ (by omega), u2_ne _ _ (by omega), u2_ne _ _ (by omega)]; exact k5
theorem RP.ed (h : RP I p P) {w : Nat} (hw : w < 3) : RP (u2 I (p + 25) w (I (p + 22) 4)) p (edP P w) := by
  obtain ⟨⟨m1, m2, m3, m4⟩, ⟨s1, b1⟩, ⟨s2, b2⟩, ⟨s3, b3⟩, ⟨s4, b4⟩, c1, c2, c3, c4, ⟨l1, l2, l3, l4, l5⟩, lc, lf, ⟨k1, k2, k3, k4, k5⟩⟩ := h
  unfold RP RPm
  try dsimp only
  refine ⟨⟨?_, ?_, ?_, ?_⟩, ⟨?_, b1⟩, ⟨?_, b2⟩, ⟨?_, b3⟩, ⟨?_, b4⟩, fun j hj i hi => ?_, fun j hj i hi => ?_, fun j hj i hi => ?_, fun j hj i hi => ?_, ⟨?_, l2, ?_, l4, ?_⟩, fun i hi => ?_, fun i hi => ⟨?_, ?_⟩, ⟨?_, ?_, ?_, ?_, ?_⟩⟩
  · rw [u2_ne _ _ (by omega)]; exact m1
  · rw [u2_ne _ _ (by omega)]; exact m2
  · rw [u2_ne _ _ (by omega)]; exact m3
  · rw [u2_ne _ _ (by omega)]; exact m4
  · rw [u2_ne _ _ (by omega)]; exact s1
  · rw [u2_ne _ _ (by omega)]; exact s2
  · rw [u2_ne _ _ (by omega)]; exact s3
  · rw [u2_ne _ _ (by omega)]; exact s4
  · unfold edP; dsimp only; rw [u2_ne _ _ (by omega), u2_ne _ _ (by omega)]; exact c1 j hj i hi
  · unfold edP; dsimp only; rw [u2_ne _ _ (by omega), u2_ne _ _ (by omega)]; exact c2 j hj i hi
  · unfold edP; dsimp only; rw [u2_ne _ _ (by omega), u2_ne _ _ (by omega)]; exact c3 j hj i hi
  · unfold edP; dsimp only; rw [u2_ne _ _ (by omega), u2_ne _ _ (by omega)]; exact c4 j hj i hi
  · rw [u2_ne _ _ (by omega)]; exact l1
  · rw [u2_ne _ _ (by omega)]; exact l3
  · unfold edP; dsimp only; rw [u2_ne _ _ (by omega), u2_ne _ _ (by omega)]; exact l5
  · unfold edP; dsimp only; rw [u2_ne _ _ (by omega), u2_ne _ _ (by omega)]; exact lc i hi
  · unfold edP; dsimp only; rw [u2_ne _ _ (by omega), u2_ne _ _ (by omega)]; exact (lf i hi).1
  · unfold edP; dsimp only
    by_cases e : i = w
    · subst e; rw [u2_at, u2_at, l1]
    · rw [u2_nk _ _ e, u2_nk _ _ e]; exact (lf i hi).2
  · unfold edP; dsimp only; rw [u2_ne _ _ (by omega), u2_ne _ _ (by omega)]; exact k1
  · unfold edP; dsimp only; rw [u2_ne _ _ (by omega), u2_ne _ _ (by omega)]; exact k2
  · unfold edP; dsimp only; rw [u2_ne _ _ (by omega), u2_ne _ _ (by omega)]; exact k3
  · unfold edP; dsimp only; rw [u2_ne _ _ (by omega), u2_ne _ _ (by omega)]; exact k4
  · unfold edP; dsimp only; rw [u2_ne _ _ (by omega), u2_ne _ _ (by omega)]; exact k5
theorem RP.st0 (h : RP I p P) (v : Int32) : RP (u2 I p 5 v) p ((P.1, u2 P.2 20 0 v)) := by
  obtain ⟨⟨m1, m2, m3, m4⟩, ⟨s1, b1⟩, ⟨s2, b2⟩, ⟨s3, b3⟩, ⟨s4, b4⟩, c1, c2, c3, c4, ⟨l1, l2, l3, l4, l5⟩, lc, lf, ⟨k1, k2, k3, k4, k5⟩⟩ := h
  unfold RP RPm
  try dsimp only
  refine ⟨⟨?_, ?_, ?_, ?_⟩, ⟨?_, b1⟩, ⟨?_, b2⟩, ⟨?_, b3⟩, ⟨?_, b4⟩, fun j hj i hi => ?_, fun j hj i hi => ?_, fun j hj i hi => ?_, fun j hj i hi => ?_, ⟨?_, l2, ?_, l4, ?_⟩, fun i hi => ?_, fun i hi => ⟨?_, ?_⟩, ⟨?_, ?_, ?_, ?_, ?_⟩⟩
  · rw [u2_ne _ _ (by omega)]; exact m1
  · rw [u2_ne _ _ (by omega)]; exact m2
  · rw [u2_ne _ _ (by omega)]; exact m3
  · rw [u2_ne _ _ (by omega)]; exact m4
  · rw [u2_ne _ _ (by omega)]; exact s1
  · rw [u2_ne _ _ (by omega)]; exact s2
  · rw [u2_ne _ _ (by omega)]; exact s3
  · rw [u2_ne _ _ (by omega)]; exact s4
  · rw [u2_ne _ _ (by omega), u2_ne _ _ (by omega)]; exact c1 j hj i hi
  · rw [u2_ne _ _ (by omega), u2_ne _ _ (by omega)]; exact c2 j hj i hi
  · rw [u2_ne _ _ (by omega), u2_ne _ _ (by omega)]; exact c3 j hj i hi
  · rw [u2_ne _ _ (by omega), u2_ne _ _ (by omega)]; exact c4 j hj i hi
  · rw [u2_ne _ _ (by omega)]; exact l1
  · rw [u2_ne _ _ (by omega)]; exact l3
  · rw [u2_ne _ _ (by omega), u2_ne _ _ (by omega)]; exact l5
  · rw [u2_ne _ _ (by omega), u2_ne _ _ (by omega)]; exact lc i hi
  · rw [u2_ne _ _ (by omega), u2_ne _ _ (by omega)]; exact (lf i hi).1
  · rw [u2_ne _ _ (by omega), u2_ne _ _ (by omega)]; exact (lf i hi).2
  · rw [u2_at, u2_at]
  · rw [u2_nk _ _ (by omega), u2_nk _ _ (by omega)]; exact k2
  · rw [u2_nk _ _ (by omega), u2_nk _ _ (by omega)]; exact k3
  · rw [u2_nk _ _ (by omega), u2_nk _ _ (by omega)]; exact k4
  · rw [u2_nk _ _ (by omega), u2_nk _ _ (by omega)]; exact k5
theorem RP.st1 (h : RP I p P) (v : Int32) : RP (u2 I p 6 v) p ((P.1, u2 P.2 20 1 v)) := by
  obtain ⟨⟨m1, m2, m3, m4⟩, ⟨s1, b1⟩, ⟨s2, b2⟩, ⟨s3, b3⟩, ⟨s4, b4⟩, c1, c2, c3, c4, ⟨l1, l2, l3, l4, l5⟩, lc, lf, ⟨k1, k2, k3, k4, k5⟩⟩ := h
  unfold RP RPm
  try dsimp only
  refine ⟨⟨?_, ?_, ?_, ?_⟩, ⟨?_, b1⟩, ⟨?_, b2⟩, ⟨?_, b3⟩, ⟨?_, b4⟩, fun j hj i hi => ?_, fun j hj i hi => ?_, fun j hj i hi => ?_, fun j hj i hi => ?_, ⟨?_, l2, ?_, l4, ?_⟩, fun i hi => ?_, fun i hi => ⟨?_, ?_⟩, ⟨?_, ?_, ?_, ?_, ?_⟩⟩
  · rw [u2_ne _ _ (by omega)]; exact m1
  · rw [u2_ne _ _ (by omega)]; exact m2
  · rw [u2_ne _ _ (by omega)]; exact m3
  · rw [u2_ne _ _ (by omega)]; exact m4
  · rw [u2_ne _ _ (by omega)]; exact s1
  · rw [u2_ne _ _ (by omega)]; exact s2
  · rw [u2_ne _ _ (by omega)]; exact s3
  · rw [u2_ne _ _ (by omega)]; exact s4
  · rw [u2_ne _ _ (by omega), u2_ne _ _ (by omega)]; exact c1 j hj i hi
  · rw [u2_ne _ _ (by omega), u2_ne _ _ (by omega)]; exact c2 j hj i hi
  · rw [u2_ne _ _ (by omega), u2_ne _ _ (by omega)]; exact c3 j hj i hi
  · rw [u2_ne _ _ (by omega), u2_ne _ _ (by omega)]; exact c4 j hj i hi
  · rw [u2_ne _ _ (by omega)]; exact l1
  · rw [u2_ne _ _ (by omega)]; exact l3
  · rw [u2_ne _ _ (by omega), u2_ne _ _ (by omega)]; exact l5
  · rw [u2_ne _ _ (by omega), u2_ne _ _ (by omega)]; exact lc i hi
  · rw [u2_ne _ _ (by omega), u2_ne _ _ (by omega)]; exact (lf i hi).1
  · rw [u2_ne _ _ (by omega), u2_ne _ _ (by omega)]; exact (lf i hi).2
  · rw [u2_nk _ _ (by omega), u2_nk _ _ (by omega)]; exact k1
  · rw [u2_at, u2_at]
  · rw [u2_nk _ _ (by omega), u2_nk _ _ (by omega)]; exact k3
  · rw [u2_nk _ _ (by omega), u2_nk _ _ (by omega)]; exact k4
  · rw [u2_nk _ _ (by omega), u2_nk _ _ (by omega)]; exact k5
theorem RP.st2 (h : RP I p P) (v : Int32) : RP (u2 I p 7 v) p ((P.1, u2 P.2 20 2 v)) := by
  obtain ⟨⟨m1, m2, m3, m4⟩, ⟨s1, b1⟩, ⟨s2, b2⟩, ⟨s3, b3⟩, ⟨s4, b4⟩, c1, c2, c3, c4, ⟨l1, l2, l3, l4, l5⟩, lc, lf, ⟨k1, k2, k3, k4, k5⟩⟩ := h
  unfold RP RPm
  try dsimp only
  refine ⟨⟨?_, ?_, ?_, ?_⟩, ⟨?_, b1⟩, ⟨?_, b2⟩, ⟨?_, b3⟩, ⟨?_, b4⟩, fun j hj i hi => ?_, fun j hj i hi => ?_, fun j hj i hi => ?_, fun j hj i hi => ?_, ⟨?_, l2, ?_, l4, ?_⟩, fun i hi => ?_, fun i hi => ⟨?_, ?_⟩, ⟨?_, ?_, ?_, ?_, ?_⟩⟩
  · rw [u2_ne _ _ (by omega)]; exact m1
  · rw [u2_ne _ _ (by omega)]; exact m2
  · rw [u2_ne _ _ (by omega)]; exact m3
  · rw [u2_ne _ _ (by omega)]; exact m4
  · rw [u2_ne _ _ (by omega)]; exact s1
  · rw [u2_ne _ _ (by omega)]; exact s2
  · rw [u2_ne _ _ (by omega)]; exact s3
  · rw [u2_ne _ _ (by omega)]; exact s4
  · rw [u2_ne _ _ (by omega), u2_ne _ _ (by omega)]; exact c1 j hj i hi
  · rw [u2_ne _ _ (by omega), u2_ne _ _ (by omega)]; exact c2 j hj i hi
  · rw [u2_ne _ _ (by omega), u2_ne _ _ (by omega)]; exact c3 j hj i hi
  · rw [u2_ne _ _ (by omega), u2_ne _ _ (by omega)]; exact c4 j hj i hi
  · rw [u2_ne _ _ (by omega)]; exact l1
  · rw [u2_ne _ _ (by omega)]; exact l3
  · rw [u2_ne _ _ (by omega), u2_ne _ _ (by omega)]; exact l5
  · rw [u2_ne _ _ (by omega), u2_ne _ _ (by omega)]; exact lc i hi
  · rw [u2_ne _ _ (by omega), u2_ne _ _ (by omega)]; exact (lf i hi).1
  · rw [u2_ne _ _ (by omega), u2_ne _ _ (by omega)]; exact (lf i hi).2
  · rw [u2_nk _ _ (by omega), u2_nk _ _ (by omega)]; exact k1
  · rw [u2_nk _ _ (by omega), u2_nk _ _ (by omega)]; exact k2
  · rw [u2_at, u2_at]
  · rw [u2_nk _ _ (by omega), u2_nk _ _ (by omega)]; exact k4
  · rw [u2_nk _ _ (by omega), u2_nk _ _ (by omega)]; exact k5
theorem RP.st3 (h : RP I p P) (v : Int32) : RP (u2 I p 8 v) p ((P.1, u2 P.2 20 3 v)) := by
  obtain ⟨⟨m1, m2, m3, m4⟩, ⟨s1, b1⟩, ⟨s2, b2⟩, ⟨s3, b3⟩, ⟨s4, b4⟩, c1, c2, c3, c4, ⟨l1, l2, l3, l4, l5⟩, lc, lf, ⟨k1, k2, k3, k4, k5⟩⟩ := h
  unfold RP RPm
  try dsimp only
  refine ⟨⟨?_, ?_, ?_, ?_⟩, ⟨?_, b1⟩, ⟨?_, b2⟩, ⟨?_, b3⟩, ⟨?_, b4⟩, fun j hj i hi => ?_, fun j hj i hi => ?_, fun j hj i hi => ?_, fun j hj i hi => ?_, ⟨?_, l2, ?_, l4, ?_⟩, fun i hi => ?_, fun i hi => ⟨?_, ?_⟩, ⟨?_, ?_, ?_, ?_, ?_⟩⟩
  · rw [u2_ne _ _ (by omega)]; exact m1
  · rw [u2_ne _ _ (by omega)]; exact m2
  · rw [u2_ne _ _ (by omega)]; exact m3
  · rw [u2_ne _ _ (by omega)]; exact m4
  · rw [u2_ne _ _ (by omega)]; exact s1
  · rw [u2_ne _ _ (by omega)]; exact s2
  · rw [u2_ne _ _ (by omega)]; exact s3
  · rw [u2_ne _ _ (by omega)]; exact s4
  · rw [u2_ne _ _ (by omega), u2_ne _ _ (by omega)]; exact c1 j hj i hi
  · rw [u2_ne _ _ (by omega), u2_ne _ _ (by omega)]; exact c2 j hj i hi
  · rw [u2_ne _ _ (by omega), u2_ne _ _ (by omega)]; exact c3 j hj i hi
  · rw [u2_ne _ _ (by omega), u2_ne _ _ (by omega)]; exact c4 j hj i hi
  · rw [u2_ne _ _ (by omega)]; exact l1
  · rw [u2_ne _ _ (by omega)]; exact l3
  · rw [u2_ne _ _ (by omega), u2_ne _ _ (by omega)]; exact l5
  · rw [u2_ne _ _ (by omega), u2_ne _ _ (by omega)]; exact lc i hi
  · rw [u2_ne _ _ (by omega), u2_ne _ _ (by omega)]; exact (lf i hi).1
  · rw [u2_ne _ _ (by omega), u2_ne _ _ (by omega)]; exact (lf i hi).2
  · rw [u2_nk _ _ (by omega), u2_nk _ _ (by omega)]; exact k1
  · rw [u2_nk _ _ (by omega), u2_nk _ _ (by omega)]; exact k2
  · rw [u2_nk _ _ (by omega), u2_nk _ _ (by omega)]; exact k3
  · rw [u2_at, u2_at]
  · rw [u2_nk _ _ (by omega), u2_nk _ _ (by omega)]; exact k5
theorem RP.st4 (h : RP I p P) (v : Int32) : RP (u2 I p 9 v) p ((P.1, u2 P.2 20 4 v)) := by
  obtain ⟨⟨m1, m2, m3, m4⟩, ⟨s1, b1⟩, ⟨s2, b2⟩, ⟨s3, b3⟩, ⟨s4, b4⟩, c1, c2, c3, c4, ⟨l1, l2, l3, l4, l5⟩, lc, lf, ⟨k1, k2, k3, k4, k5⟩⟩ := h
  unfold RP RPm
  try dsimp only
  refine ⟨⟨?_, ?_, ?_, ?_⟩, ⟨?_, b1⟩, ⟨?_, b2⟩, ⟨?_, b3⟩, ⟨?_, b4⟩, fun j hj i hi => ?_, fun j hj i hi => ?_, fun j hj i hi => ?_, fun j hj i hi => ?_, ⟨?_, l2, ?_, l4, ?_⟩, fun i hi => ?_, fun i hi => ⟨?_, ?_⟩, ⟨?_, ?_, ?_, ?_, ?_⟩⟩
  · rw [u2_ne _ _ (by omega)]; exact m1
  · rw [u2_ne _ _ (by omega)]; exact m2
  · rw [u2_ne _ _ (by omega)]; exact m3
  · rw [u2_ne _ _ (by omega)]; exact m4
  · rw [u2_ne _ _ (by omega)]; exact s1
  · rw [u2_ne _ _ (by omega)]; exact s2
  · rw [u2_ne _ _ (by omega)]; exact s3
  · rw [u2_ne _ _ (by omega)]; exact s4
  · rw [u2_ne _ _ (by omega), u2_ne _ _ (by omega)]; exact c1 j hj i hi
  · rw [u2_ne _ _ (by omega), u2_ne _ _ (by omega)]; exact c2 j hj i hi
  · rw [u2_ne _ _ (by omega), u2_ne _ _ (by omega)]; exact c3 j hj i hi
  · rw [u2_ne _ _ (by omega), u2_ne _ _ (by omega)]; exact c4 j hj i hi
  · rw [u2_ne _ _ (by omega)]; exact l1
  · rw [u2_ne _ _ (by omega)]; exact l3
  · rw [u2_ne _ _ (by omega), u2_ne _ _ (by omega)]; exact l5
  · rw [u2_ne _ _ (by omega), u2_ne _ _ (by omega)]; exact lc i hi
  · rw [u2_ne _ _ (by omega), u2_ne _ _ (by omega)]; exact (lf i hi).1
  · rw [u2_ne _ _ (by omega), u2_ne _ _ (by omega)]; exact (lf i hi).2
  · rw [u2_nk _ _ (by omega), u2_nk _ _ (by omega)]; exact k1
  · rw [u2_nk _ _ (by omega), u2_nk _ _ (by omega)]; exact k2
  · rw [u2_nk _ _ (by omega), u2_nk _ _ (by omega)]; exact k3
  · rw [u2_nk _ _ (by omega), u2_nk _ _ (by omega)]; exact k4
  · rw [u2_at, u2_at]
theorem RP.ad0 {I2 : IM} {v : Nat → Int32} (h : RP I p P) (hj : P.1 0 < 6) (e0 : I2 (p + 1) 0 = I (p + 1) 0) (e2 : I2 (p + 1) 2 = nI (P.1 0 + 1)) (ev : ∀ c, c < 3 → I2 (p + 3 + c) (P.1 0) = v c) (eo : ∀ c i, c < 3 → i ≠ P.1 0 → I2 (p + 3 + c) i = I (p + 3 + c) i) (ef : ∀ c, c ≠ p + 1 → (c < p + 3 ∨ p + 5 < c) → I2 c = I c) : RP I2 p (adP P 0 0 3 v) := by
  obtain ⟨⟨m1, m2, m3, m4⟩, ⟨s1, b1⟩, ⟨s2, b2⟩, ⟨s3, b3⟩, ⟨s4, b4⟩, c1, c2, c3, c4, ⟨l1, l2, l3, l4, l5⟩, lc, lf, ⟨k1, k2, k3, k4, k5⟩⟩ := h
  have g : ∀ k, k ≠ 0 → (adP P 0 0 3 v).1 k = P.1 k := fun k hk => if_neg hk
  have gj : (adP P 0 0 3 v).1 0 = P.1 0 + 1 := rfl
  have q : ∀ k i, (k < 0 ∨ 3 ≤ k) → (adP P 0 0 3 v).2 k i = P.2 k i := fun k i hk => if_neg (by omega)
  unfold RP RPm
  rw [g 1 (by omega), g 2 (by omega), g 3 (by omega), g 4 (by omega), g 5 (by omega), gj]
  refine ⟨⟨e0.trans m1, by rw [ef _ (by omega) (by omega)]; exact m2, by rw [ef _ (by omega) (by omega)]; exact m3, by rw [ef _ (by omega) (by omega)]; exact m4⟩, ⟨e2, by omega⟩, ⟨by rw [ef _ (by omega) (by omega)]; exact s2, b2⟩, ⟨by rw [ef _ (by omega) (by omega)]; exact s3, b3⟩, ⟨by rw [ef _ (by omega) (by omega)]; exact s4, b4⟩, fun j hj i hi => ?_, fun j hj i hi => ?_, fun j hj i hi => ?_, fun j hj i hi => ?_, ⟨by rw [ef _ (by omega) (by omega)]; exact l1, l2, by rw [ef _ (by omega) (by omega)]; exact l3, l4, by rw [ef _ (by omega) (by omega), q _ _ (by omega)]; exact l5⟩, fun i hi => by rw [ef _ (by omega) (by omega), q _ _ (by omega)]; exact lc i hi, fun i hi => ⟨by rw [ef _ (by omega) (by omega), q _ _ (by omega)]; exact (lf i hi).1, by rw [ef _ (by omega) (by omega), q _ _ (by omega)]; exact (lf i hi).2⟩, ⟨by rw [ef _ (by omega) (by omega), q _ _ (by omega)]; exact k1, by rw [ef _ (by omega) (by omega), q _ _ (by omega)]; exact k2, by rw [ef _ (by omega) (by omega), q _ _ (by omega)]; exact k3, by rw [ef _ (by omega) (by omega), q _ _ (by omega)]; exact k4, by rw [ef _ (by omega) (by omega), q _ _ (by omega)]; exact k5⟩⟩
  · by_cases e : i = P.1 0
    · subst e
      rw [ev j hj, adP]
      dsimp only
      rw [if_pos ⟨by omega, by omega, rfl⟩]
      congr 1
      try omega
    · rw [eo j i hj e, adP]
      dsimp only
      rw [if_neg (fun z => e z.2.2)]
      exact c1 j hj i (by omega)
  · rw [ef _ (by omega) (by omega), q _ _ (by omega)]; exact c2 j hj i hi
  · rw [ef _ (by omega) (by omega), q _ _ (by omega)]; exact c3 j hj i hi
  · rw [ef _ (by omega) (by omega), q _ _ (by omega)]; exact c4 j hj i hi
theorem RP.ad1 {I2 : IM} {v : Nat → Int32} (h : RP I p P) (hj : P.1 1 < 8) (e0 : I2 (p + 6) 0 = I (p + 6) 0) (e2 : I2 (p + 6) 2 = nI (P.1 1 + 1)) (ev : ∀ c, c < 5 → I2 (p + 8 + c) (P.1 1) = v c) (eo : ∀ c i, c < 5 → i ≠ P.1 1 → I2 (p + 8 + c) i = I (p + 8 + c) i) (ef : ∀ c, c ≠ p + 6 → (c < p + 8 ∨ p + 12 < c) → I2 c = I c) : RP I2 p (adP P 1 3 5 v) := by
  obtain ⟨⟨m1, m2, m3, m4⟩, ⟨s1, b1⟩, ⟨s2, b2⟩, ⟨s3, b3⟩, ⟨s4, b4⟩, c1, c2, c3, c4, ⟨l1, l2, l3, l4, l5⟩, lc, lf, ⟨k1, k2, k3, k4, k5⟩⟩ := h
  have g : ∀ k, k ≠ 1 → (adP P 1 3 5 v).1 k = P.1 k := fun k hk => if_neg hk
  have gj : (adP P 1 3 5 v).1 1 = P.1 1 + 1 := rfl
  have q : ∀ k i, (k < 3 ∨ 8 ≤ k) → (adP P 1 3 5 v).2 k i = P.2 k i := fun k i hk => if_neg (by omega)
  unfold RP RPm
  rw [g 0 (by omega), g 2 (by omega), g 3 (by omega), g 4 (by omega), g 5 (by omega), gj]
  refine ⟨⟨by rw [ef _ (by omega) (by omega)]; exact m1, e0.trans m2, by rw [ef _ (by omega) (by omega)]; exact m3, by rw [ef _ (by omega) (by omega)]; exact m4⟩, ⟨by rw [ef _ (by omega) (by omega)]; exact s1, b1⟩, ⟨e2, by omega⟩, ⟨by rw [ef _ (by omega) (by omega)]; exact s3, b3⟩, ⟨by rw [ef _ (by omega) (by omega)]; exact s4, b4⟩, fun j hj i hi => ?_, fun j hj i hi => ?_, fun j hj i hi => ?_, fun j hj i hi => ?_, ⟨by rw [ef _ (by omega) (by omega)]; exact l1, l2, by rw [ef _ (by omega) (by omega)]; exact l3, l4, by rw [ef _ (by omega) (by omega), q _ _ (by omega)]; exact l5⟩, fun i hi => by rw [ef _ (by omega) (by omega), q _ _ (by omega)]; exact lc i hi, fun i hi => ⟨by rw [ef _ (by omega) (by omega), q _ _ (by omega)]; exact (lf i hi).1, by rw [ef _ (by omega) (by omega), q _ _ (by omega)]; exact (lf i hi).2⟩, ⟨by rw [ef _ (by omega) (by omega), q _ _ (by omega)]; exact k1, by rw [ef _ (by omega) (by omega), q _ _ (by omega)]; exact k2, by rw [ef _ (by omega) (by omega), q _ _ (by omega)]; exact k3, by rw [ef _ (by omega) (by omega), q _ _ (by omega)]; exact k4, by rw [ef _ (by omega) (by omega), q _ _ (by omega)]; exact k5⟩⟩
  · rw [ef _ (by omega) (by omega), q _ _ (by omega)]; exact c1 j hj i hi
  · by_cases e : i = P.1 1
    · subst e
      rw [ev j hj, adP]
      dsimp only
      rw [if_pos ⟨by omega, by omega, rfl⟩]
      congr 1
      try omega
    · rw [eo j i hj e, adP]
      dsimp only
      rw [if_neg (fun z => e z.2.2)]
      exact c2 j hj i (by omega)
  · rw [ef _ (by omega) (by omega), q _ _ (by omega)]; exact c3 j hj i hi
  · rw [ef _ (by omega) (by omega), q _ _ (by omega)]; exact c4 j hj i hi
theorem RP.ad2 {I2 : IM} {v : Nat → Int32} (h : RP I p P) (hj : P.1 2 < 10) (e0 : I2 (p + 13) 0 = I (p + 13) 0) (e2 : I2 (p + 13) 2 = nI (P.1 2 + 1)) (ev : ∀ c, c < 2 → I2 (p + 15 + c) (P.1 2) = v c) (eo : ∀ c i, c < 2 → i ≠ P.1 2 → I2 (p + 15 + c) i = I (p + 15 + c) i) (ef : ∀ c, c ≠ p + 13 → (c < p + 15 ∨ p + 16 < c) → I2 c = I c) : RP I2 p (adP P 2 8 2 v) := by
  obtain ⟨⟨m1, m2, m3, m4⟩, ⟨s1, b1⟩, ⟨s2, b2⟩, ⟨s3, b3⟩, ⟨s4, b4⟩, c1, c2, c3, c4, ⟨l1, l2, l3, l4, l5⟩, lc, lf, ⟨k1, k2, k3, k4, k5⟩⟩ := h
  have g : ∀ k, k ≠ 2 → (adP P 2 8 2 v).1 k = P.1 k := fun k hk => if_neg hk
  have gj : (adP P 2 8 2 v).1 2 = P.1 2 + 1 := rfl
  have q : ∀ k i, (k < 8 ∨ 10 ≤ k) → (adP P 2 8 2 v).2 k i = P.2 k i := fun k i hk => if_neg (by omega)
  unfold RP RPm
  rw [g 0 (by omega), g 1 (by omega), g 3 (by omega), g 4 (by omega), g 5 (by omega), gj]
  refine ⟨⟨by rw [ef _ (by omega) (by omega)]; exact m1, by rw [ef _ (by omega) (by omega)]; exact m2, e0.trans m3, by rw [ef _ (by omega) (by omega)]; exact m4⟩, ⟨by rw [ef _ (by omega) (by omega)]; exact s1, b1⟩, ⟨by rw [ef _ (by omega) (by omega)]; exact s2, b2⟩, ⟨e2, by omega⟩, ⟨by rw [ef _ (by omega) (by omega)]; exact s4, b4⟩, fun j hj i hi => ?_, fun j hj i hi => ?_, fun j hj i hi => ?_, fun j hj i hi => ?_, ⟨by rw [ef _ (by omega) (by omega)]; exact l1, l2, by rw [ef _ (by omega) (by omega)]; exact l3, l4, by rw [ef _ (by omega) (by omega), q _ _ (by omega)]; exact l5⟩, fun i hi => by rw [ef _ (by omega) (by omega), q _ _ (by omega)]; exact lc i hi, fun i hi => ⟨by rw [ef _ (by omega) (by omega), q _ _ (by omega)]; exact (lf i hi).1, by rw [ef _ (by omega) (by omega), q _ _ (by omega)]; exact (lf i hi).2⟩, ⟨by rw [ef _ (by omega) (by omega), q _ _ (by omega)]; exact k1, by rw [ef _ (by omega) (by omega), q _ _ (by omega)]; exact k2, by rw [ef _ (by omega) (by omega), q _ _ (by omega)]; exact k3, by rw [ef _ (by omega) (by omega), q _ _ (by omega)]; exact k4, by rw [ef _ (by omega) (by omega), q _ _ (by omega)]; exact k5⟩⟩
  · rw [ef _ (by omega) (by omega), q _ _ (by omega)]; exact c1 j hj i hi
  · rw [ef _ (by omega) (by omega), q _ _ (by omega)]; exact c2 j hj i hi
  · by_cases e : i = P.1 2
    · subst e
      rw [ev j hj, adP]
      dsimp only
      rw [if_pos ⟨by omega, by omega, rfl⟩]
      congr 1
      try omega
    · rw [eo j i hj e, adP]
      dsimp only
      rw [if_neg (fun z => e z.2.2)]
      exact c3 j hj i (by omega)
  · rw [ef _ (by omega) (by omega), q _ _ (by omega)]; exact c4 j hj i hi
theorem RP.ad3 {I2 : IM} {v : Nat → Int32} (h : RP I p P) (hj : P.1 3 < 8) (e0 : I2 (p + 17) 0 = I (p + 17) 0) (e2 : I2 (p + 17) 2 = nI (P.1 3 + 1)) (ev : ∀ c, c < 3 → I2 (p + 19 + c) (P.1 3) = v c) (eo : ∀ c i, c < 3 → i ≠ P.1 3 → I2 (p + 19 + c) i = I (p + 19 + c) i) (ef : ∀ c, c ≠ p + 17 → (c < p + 19 ∨ p + 21 < c) → I2 c = I c) : RP I2 p (adP P 3 10 3 v) := by
  obtain ⟨⟨m1, m2, m3, m4⟩, ⟨s1, b1⟩, ⟨s2, b2⟩, ⟨s3, b3⟩, ⟨s4, b4⟩, c1, c2, c3, c4, ⟨l1, l2, l3, l4, l5⟩, lc, lf, ⟨k1, k2, k3, k4, k5⟩⟩ := h
  have g : ∀ k, k ≠ 3 → (adP P 3 10 3 v).1 k = P.1 k := fun k hk => if_neg hk
  have gj : (adP P 3 10 3 v).1 3 = P.1 3 + 1 := rfl
  have q : ∀ k i, (k < 10 ∨ 13 ≤ k) → (adP P 3 10 3 v).2 k i = P.2 k i := fun k i hk => if_neg (by omega)
  unfold RP RPm
  rw [g 0 (by omega), g 1 (by omega), g 2 (by omega), g 4 (by omega), g 5 (by omega), gj]
  refine ⟨⟨by rw [ef _ (by omega) (by omega)]; exact m1, by rw [ef _ (by omega) (by omega)]; exact m2, by rw [ef _ (by omega) (by omega)]; exact m3, e0.trans m4⟩, ⟨by rw [ef _ (by omega) (by omega)]; exact s1, b1⟩, ⟨by rw [ef _ (by omega) (by omega)]; exact s2, b2⟩, ⟨by rw [ef _ (by omega) (by omega)]; exact s3, b3⟩, ⟨e2, by omega⟩, fun j hj i hi => ?_, fun j hj i hi => ?_, fun j hj i hi => ?_, fun j hj i hi => ?_, ⟨by rw [ef _ (by omega) (by omega)]; exact l1, l2, by rw [ef _ (by omega) (by omega)]; exact l3, l4, by rw [ef _ (by omega) (by omega), q _ _ (by omega)]; exact l5⟩, fun i hi => by rw [ef _ (by omega) (by omega), q _ _ (by omega)]; exact lc i hi, fun i hi => ⟨by rw [ef _ (by omega) (by omega), q _ _ (by omega)]; exact (lf i hi).1, by rw [ef _ (by omega) (by omega), q _ _ (by omega)]; exact (lf i hi).2⟩, ⟨by rw [ef _ (by omega) (by omega), q _ _ (by omega)]; exact k1, by rw [ef _ (by omega) (by omega), q _ _ (by omega)]; exact k2, by rw [ef _ (by omega) (by omega), q _ _ (by omega)]; exact k3, by rw [ef _ (by omega) (by omega), q _ _ (by omega)]; exact k4, by rw [ef _ (by omega) (by omega), q _ _ (by omega)]; exact k5⟩⟩
  · rw [ef _ (by omega) (by omega), q _ _ (by omega)]; exact c1 j hj i hi
  · rw [ef _ (by omega) (by omega), q _ _ (by omega)]; exact c2 j hj i hi
  · rw [ef _ (by omega) (by omega), q _ _ (by omega)]; exact c3 j hj i hi
  · by_cases e : i = P.1 3
    · subst e
      rw [ev j hj, adP]
      dsimp only
      rw [if_pos ⟨by omega, by omega, rfl⟩]
      congr 1
      try omega
    · rw [eo j i hj e, adP]
      dsimp only
      rw [if_neg (fun z => e z.2.2)]
      exact c4 j hj i (by omega)
end RPup
