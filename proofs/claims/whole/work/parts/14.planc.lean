/-! ===== Plan ===== -/
def isPlan (K : Kt) (p : Nat) : Prop := (K.2.1 p).1 = 3 ∧ K.1 p 0 = some (p + 1) ∧ K.1 p 1 = some (p + 6) ∧ K.1 p 2 = some (p + 13) ∧ K.1 p 3 = some (p + 17) ∧ K.1 p 4 = some (p + 22) ∧ isRows K (p + 1) 3 6 ∧ isRows K (p + 6) 5 8 ∧ isRows K (p + 13) 2 10 ∧ isRows K (p + 17) 3 8 ∧ isLaws K (p + 22)
/-- a plan as numbers: how many (kinds, tins, open, wants, code, knots), and what -/
abbrev Pl : Type := (Nat → Nat) × (Nat → Nat → Int32)
/-- the rows' room -/
def RPm (I : IM) (p : Nat) : Prop := I (p + 1) 0 = nI 6 ∧ I (p + 6) 0 = nI 8 ∧ I (p + 13) 0 = nI 10 ∧ I (p + 17) 0 = nI 8
/-- the class's plan at p tells P -/
def RP (I : IM) (p : Nat) (P : Pl) : Prop := RPm I p ∧ (I (p + 1) 2 = nI (P.1 0) ∧ P.1 0 ≤ 6) ∧ (I (p + 6) 2 = nI (P.1 1) ∧ P.1 1 ≤ 8) ∧ (I (p + 13) 2 = nI (P.1 2) ∧ P.1 2 ≤ 10) ∧ (I (p + 17) 2 = nI (P.1 3) ∧ P.1 3 ≤ 8) ∧
  (∀ j, j < 3 → ∀ i, i < P.1 0 → I (p + 3 + j) i = P.2 j i) ∧ (∀ j, j < 5 → ∀ i, i < P.1 1 → I (p + 8 + j) i = P.2 (3 + j) i) ∧ (∀ j, j < 2 → ∀ i, i < P.1 2 → I (p + 15 + j) i = P.2 (8 + j) i) ∧ (∀ j, j < 3 → ∀ i, i < P.1 3 → I (p + 19 + j) i = P.2 (10 + j) i) ∧
  (I (p + 22) 4 = nI (P.1 4) ∧ P.1 4 ≤ 64 ∧ I (p + 22) 6 = nI (P.1 5) ∧ P.1 5 ≤ 1000 ∧ I (p + 22) 5 = P.2 16 0) ∧ (∀ i, i < 64 → I (p + 23) i = P.2 13 i) ∧ (∀ i, i < 3 → I (p + 24) i = P.2 14 i ∧ I (p + 25) i = P.2 15 i) ∧
  (I p 5 = P.2 20 0 ∧ I p 6 = P.2 20 1 ∧ I p 7 = P.2 20 2 ∧ I p 8 = P.2 20 3 ∧ I p 9 = P.2 20 4)
section MPlan
variable {l : Launch} {G : GG} {d : Nat} {I : IM} {J : JM} {K : Kt} {Q : Option Value → Hp → Prop} {p : Nat}
theorem RP.frame {I' : IM} {P : Pl} (h : RP I p P) (hf : ∀ c, p ≤ c → c ≤ p + 25 → I' c = I c) : RP I' p P := by
  obtain ⟨⟨m1, m2, m3, m4⟩, ⟨s1, b1⟩, ⟨s2, b2⟩, ⟨s3, b3⟩, ⟨s4, b4⟩, c1, c2, c3, c4, ⟨l1, l2, l3, l4, l5⟩, lc, lf, ⟨k1, k2, k3, k4, k5⟩⟩ := h
  have e0 := hf p (by omega) (by omega)
  have e1 := hf (p + 1) (by omega) (by omega)
  have e2 := hf (p + 6) (by omega) (by omega)
  have e3 := hf (p + 13) (by omega) (by omega)
  have e4 := hf (p + 17) (by omega) (by omega)
  have e5 := hf (p + 22) (by omega) (by omega)
  refine ⟨⟨?_, ?_, ?_, ?_⟩, ⟨?_, b1⟩, ⟨?_, b2⟩, ⟨?_, b3⟩, ⟨?_, b4⟩, fun j hj i hi => ?_, fun j hj i hi => ?_, fun j hj i hi => ?_, fun j hj i hi => ?_, ⟨?_, l2, ?_, l4, ?_⟩, fun i hi => ?_, fun i hi => ⟨?_, ?_⟩, ⟨?_, ?_, ?_, ?_, ?_⟩⟩
  · rw [e1]; exact m1
  · rw [e2]; exact m2
  · rw [e3]; exact m3
  · rw [e4]; exact m4
  · rw [e1]; exact s1
  · rw [e2]; exact s2
  · rw [e3]; exact s3
  · rw [e4]; exact s4
  · rw [hf _ (by omega) (by omega)]; exact c1 j hj i hi
  · rw [hf _ (by omega) (by omega)]; exact c2 j hj i hi
  · rw [hf _ (by omega) (by omega)]; exact c3 j hj i hi
  · rw [hf _ (by omega) (by omega)]; exact c4 j hj i hi
  · rw [e5]; exact l1
  · rw [e5]; exact l3
  · rw [e5]; exact l5
  · rw [hf _ (by omega) (by omega)]; exact lc i hi
  · rw [hf _ (by omega) (by omega)]; exact (lf i hi).1
  · rw [hf _ (by omega) (by omega)]; exact (lf i hi).2
  · rw [e0]; exact k1
  · rw [e0]; exact k2
  · rw [e0]; exact k3
  · rw [e0]; exact k4
  · rw [e0]; exact k5
/-- a plan without LINES, over what lies in code, from, upTo -/
def P0 (f : Nat → Nat → Int32) : Pl := (fun _ => 0, fun k i => if k = 13 then f 13 i else if k = 14 then f 14 i else if k = 15 then f 15 i else if k = 20 then (if i = 0 then nI 20 else if i = 3 then -1 else if i = 4 then -1 else 0) else 0)
theorem c3_clear (hP : isPlan K p) (hm : RPm I p) : Cw l G (d + 1) m3_clear [.ref p] (I, J, K) (fun r h' => r = none ∧ ∃ I', h' = (I', J, K) ∧ (∀ c, (c < p ∨ p + 25 < c) → I' c = I c) ∧ RP I' p (P0 (fun k i => I (p + 10 + k) i))) := by
  obtain ⟨h3, p0, p1, p2, p3, p4, r1, r2, r3, r4, r5⟩ := hP
  have q1 := r1.1
  have q2 := r2.1
  have q3 := r3.1
  have q4 := r4.1
  have q5 := r5.1
  obtain ⟨m1, m2, m3, m4⟩ := hm
  refine Cw.of ok3_clear rfl (rfl : argL _ _ = [.ref p]) ?_
  refine e_aload_n rfl rfl ?_
  refine e_getP rfl f3_14 (by assumption) rfl (by assumption) ?_
  refine e_iconst (v := nI 0) rfl ic_0N ?_
  refine e_putI rfl f3_46 (by assumption) rfl rfl ?_
  refine e_aload_n rfl rfl ?_
  refine e_getP rfl f3_20 (by assumption) rfl (by assumption) ?_
  refine e_iconst (v := nI 0) rfl ic_0N ?_
  refine e_putI rfl f3_46 (by assumption) rfl rfl ?_
  refine e_aload_n rfl rfl ?_
  refine e_getP rfl f3_23 (by assumption) rfl (by assumption) ?_
  refine e_iconst (v := nI 0) rfl ic_0N ?_
  refine e_putI rfl f3_46 (by assumption) rfl rfl ?_
  refine e_aload_n rfl rfl ?_
  refine e_getP rfl f3_26 (by assumption) rfl (by assumption) ?_
  refine e_iconst (v := nI 0) rfl ic_0N ?_
  refine e_putI rfl f3_46 (by assumption) rfl rfl ?_
  refine e_aload_n rfl rfl ?_
  refine e_getP rfl f3_32 (by assumption) rfl (by assumption) ?_
  refine e_callV (kd := 1) (M2 := m1_clear) rfl v3_49 ok1_clear (c1_clear q5) rfl (by assumption) rfl rfl rfl rfl (fun r1 h1 q1 => ?_)
  obtain ⟨rfl, rfl⟩ := q1
  refine e_aload_n rfl rfl ?_
  refine e_bipush (v := nI 20) rfl bp_20N ?_
  refine e_putI rfl f3_36 (by assumption) rfl rfl ?_
  refine e_aload_n rfl rfl ?_
  refine e_iconst (v := nI 0) rfl ic_0N ?_
  refine e_putI rfl f3_52 (by assumption) rfl rfl ?_
  refine e_aload_n rfl rfl ?_
  refine e_iconst (v := nI 0) rfl ic_0N ?_
  refine e_putI rfl f3_55 (by assumption) rfl rfl ?_
  refine e_aload_n rfl rfl ?_
  refine e_iconst rfl ic_m1 ?_
  refine e_putI rfl f3_40 (by assumption) rfl rfl ?_
  refine e_aload_n rfl rfl ?_
  refine e_iconst rfl ic_m1 ?_
  refine e_putI rfl f3_43 (by assumption) rfl rfl ?_
  refine e_return rfl rfl ?_
  refine ⟨rfl, _, rfl, ?_, ?_⟩
  · intro c hc
    funext k
    simp (disch := omega) only [u2_ne]
  · refine ⟨⟨?_, ?_, ?_, ?_⟩, ⟨?_, Nat.zero_le _⟩, ⟨?_, Nat.zero_le _⟩, ⟨?_, Nat.zero_le _⟩, ⟨?_, Nat.zero_le _⟩, fun j hj i hi => absurd hi (Nat.not_lt_zero _), fun j hj i hi => absurd hi (Nat.not_lt_zero _), fun j hj i hi => absurd hi (Nat.not_lt_zero _), fun j hj i hi => absurd hi (Nat.not_lt_zero _), ⟨?_, Nat.zero_le _, ?_, Nat.zero_le _, ?_⟩, fun i hi => ?_, fun i hi => ⟨?_, ?_⟩, ⟨?_, ?_, ?_, ?_, ?_⟩⟩
    · simp (disch := omega) only [u2_at, u2_nk, u2_ne]; exact m1
    · simp (disch := omega) only [u2_at, u2_nk, u2_ne]; exact m2
    · simp (disch := omega) only [u2_at, u2_nk, u2_ne]; exact m3
    · simp (disch := omega) only [u2_at, u2_nk, u2_ne]; exact m4
    · simp (disch := omega) only [u2_at, u2_nk, u2_ne]; rfl
    · simp (disch := omega) only [u2_at, u2_nk, u2_ne]; rfl
    · simp (disch := omega) only [u2_at, u2_nk, u2_ne]; rfl
    · simp (disch := omega) only [u2_at, u2_nk, u2_ne]; rfl
    · simp (disch := omega) only [u2_at, u2_nk, u2_ne]; rfl
    · simp (disch := omega) only [u2_at, u2_nk, u2_ne]; rfl
    · simp (disch := omega) only [u2_at, u2_nk, u2_ne]; rfl
    · simp (disch := omega) only [u2_at, u2_nk, u2_ne]; rfl
    · simp (disch := omega) only [u2_at, u2_nk, u2_ne]; rfl
    · simp (disch := omega) only [u2_at, u2_nk, u2_ne]; rfl
    · simp (disch := omega) only [u2_at, u2_nk, u2_ne]; rfl
    · simp (disch := omega) only [u2_at, u2_nk, u2_ne]; rfl
    · simp (disch := omega) only [u2_at, u2_nk, u2_ne]; rfl
    · simp (disch := omega) only [u2_at, u2_nk, u2_ne]; rfl
    · simp (disch := omega) only [u2_at, u2_nk, u2_ne]; rfl
theorem c3_take {o : Nat} {P : Pl} (hP : isPlan K p) (hO : isPlan K o) (hd : p + 27 ≤ o ∨ o + 27 ≤ p) (hm : RPm I p) (hT : RP I o P) : Cw l G (d + 2) m3_take [.ref p, .ref o] (I, J, K) (fun r h' => r = none ∧ ∃ I', h' = (I', J, K) ∧ (∀ c, (c < p ∨ p + 25 < c) → I' c = I c) ∧ RP I' p P) := by
  obtain ⟨h3, p0, p1, p2, p3, p4, r1, r2, r3, r4, r5⟩ := hP
  obtain ⟨h3o, p0o, p1o, p2o, p3o, p4o, r1o, r2o, r3o, r4o, r5o⟩ := hO
  have q1 := r1.1
  have q2 := r2.1
  have q3 := r3.1
  have q4 := r4.1
  have q5 := r5.1
  obtain ⟨m1, m2, m3, m4⟩ := hm
  obtain ⟨-, ⟨s1, b1⟩, ⟨s2, b2⟩, ⟨s3, b3⟩, ⟨s4, b4⟩, c1, c2, c3, c4, ⟨l1, l2, l3, l4, l5⟩, lc, lf, ⟨k1, k2, k3, k4, k5⟩⟩ := hT
  refine Cw.of ok3_take rfl (rfl : argL _ _ = [.ref p, .ref o]) ?_
  refine e_aload_n rfl rfl ?_
  refine e_getP rfl f3_14 (by assumption) rfl (by assumption) ?_
  refine e_aload_n rfl rfl ?_
  refine e_getP rfl f3_14 (by assumption) rfl (by assumption) ?_
  refine e_callV (kd := 4) (M2 := m4_take) rfl v3_58 ok4_take (c4_take r1 r1o (by omega) m1 s1 b1) rfl (by assumption) rfl rfl rfl rfl (fun r1 h1 q1 => ?_)
  obtain ⟨rfl, I1, rfl, a1, f1, d1⟩ := q1
  have x2 : I1 (p + 6) 0 = nI 8 := by rw [f1 _ (by omega)]; exact m2
  have y2 : I1 (o + 6) 2 = nI (P.1 1) := by rw [f1 _ (by omega)]; exact s2
  refine e_aload_n rfl rfl ?_
  refine e_getP rfl f3_20 (by assumption) rfl (by assumption) ?_
  refine e_aload_n rfl rfl ?_
  refine e_getP rfl f3_20 (by assumption) rfl (by assumption) ?_
  refine e_callV (kd := 4) (M2 := m4_take) rfl v3_58 ok4_take (c4_take r2 r2o (by omega) x2 y2 b2) rfl (by assumption) rfl rfl rfl rfl (fun r1 h1 q1 => ?_)
  obtain ⟨rfl, I2, rfl, a2, f2, d2⟩ := q1
  have x3 : I2 (p + 13) 0 = nI 10 := by rw [f2 _ (by omega), f1 _ (by omega)]; exact m3
  have y3 : I2 (o + 13) 2 = nI (P.1 2) := by rw [f2 _ (by omega), f1 _ (by omega)]; exact s3
  refine e_aload_n rfl rfl ?_
  refine e_getP rfl f3_23 (by assumption) rfl (by assumption) ?_
  refine e_aload_n rfl rfl ?_
  refine e_getP rfl f3_23 (by assumption) rfl (by assumption) ?_
  refine e_callV (kd := 4) (M2 := m4_take) rfl v3_58 ok4_take (c4_take r3 r3o (by omega) x3 y3 b3) rfl (by assumption) rfl rfl rfl rfl (fun r1 h1 q1 => ?_)
  obtain ⟨rfl, I3, rfl, a3, f3, d3⟩ := q1
  have x4 : I3 (p + 17) 0 = nI 8 := by rw [f3 _ (by omega), f2 _ (by omega), f1 _ (by omega)]; exact m4
  have y4 : I3 (o + 17) 2 = nI (P.1 3) := by rw [f3 _ (by omega), f2 _ (by omega), f1 _ (by omega)]; exact s4
  refine e_aload_n rfl rfl ?_
  refine e_getP rfl f3_26 (by assumption) rfl (by assumption) ?_
  refine e_aload_n rfl rfl ?_
  refine e_getP rfl f3_26 (by assumption) rfl (by assumption) ?_
  refine e_callV (kd := 4) (M2 := m4_take) rfl v3_58 ok4_take (c4_take r4 r4o (by omega) x4 y4 b4) rfl (by assumption) rfl rfl rfl rfl (fun r1 h1 q1 => ?_)
  obtain ⟨rfl, I4, rfl, a4, f4, d4⟩ := q1
  refine e_aload_n rfl rfl ?_
  refine e_getP rfl f3_32 (by assumption) rfl (by assumption) ?_
  refine e_aload_n rfl rfl ?_
  refine e_getP rfl f3_32 (by assumption) rfl (by assumption) ?_
  refine e_callV (kd := 1) (M2 := m1_take) rfl v3_62 ok1_take (c1_take r5 r5o (by omega)) rfl (by assumption) rfl rfl rfl rfl (fun r1 h1 q1 => ?_)
  obtain ⟨rfl, I5, rfl, f5, t1, t2, t3, t4, t5⟩ := q1
  refine e_aload_n rfl rfl ?_
  refine e_aload_n rfl rfl ?_
  refine e_getI rfl f3_36 (by assumption) rfl ?_
  refine e_putI rfl f3_36 (by assumption) rfl rfl ?_
  refine e_aload_n rfl rfl ?_
  refine e_aload_n rfl rfl ?_
  refine e_getI rfl f3_52 (by assumption) rfl ?_
  refine e_putI rfl f3_52 (by assumption) rfl rfl ?_
  refine e_aload_n rfl rfl ?_
  refine e_aload_n rfl rfl ?_
  refine e_getI rfl f3_55 (by assumption) rfl ?_
  refine e_putI rfl f3_55 (by assumption) rfl rfl ?_
  refine e_aload_n rfl rfl ?_
  refine e_aload_n rfl rfl ?_
  refine e_getI rfl f3_40 (by assumption) rfl ?_
  refine e_putI rfl f3_40 (by assumption) rfl rfl ?_
  refine e_aload_n rfl rfl ?_
  refine e_aload_n rfl rfl ?_
  refine e_getI rfl f3_43 (by assumption) rfl ?_
  refine e_putI rfl f3_43 (by assumption) rfl rfl ?_
  refine e_return rfl rfl ?_
  have g1 : ∀ c, (c < p + 1 ∨ p + 5 < c) → I1 c = I c := fun c hc => f1 c (by omega)
  have g2 : ∀ c, (c < p + 6 ∨ p + 12 < c) → I2 c = I1 c := fun c hc => f2 c (by omega)
  have g3 : ∀ c, (c < p + 13 ∨ p + 16 < c) → I3 c = I2 c := fun c hc => f3 c (by omega)
  have g4 : ∀ c, (c < p + 17 ∨ p + 21 < c) → I4 c = I3 c := fun c hc => f4 c (by omega)
  have g5 : ∀ c, (c < p + 22 ∨ p + 25 < c) → I5 c = I4 c := fun c hc => f5 c (by omega)
  have base : ∀ c, (c < p + 1 ∨ p + 25 < c) → I5 c = I c := fun c hc => by rw [g5 c (by omega), g4 c (by omega), g3 c (by omega), g2 c (by omega), g1 c (by omega)]
  have old4 : ∀ c, (c < p + 1 ∨ p + 21 < c) → I4 c = I c := fun c hc => by rw [g4 c (by omega), g3 c (by omega), g2 c (by omega), g1 c (by omega)]
  refine ⟨rfl, _, rfl, ?_, ?_⟩
  · intro c hc
    funext k
    simp (disch := omega) only [u2_ne]
    rw [base c (by omega)]
  · refine ⟨⟨?_, ?_, ?_, ?_⟩, ⟨?_, b1⟩, ⟨?_, b2⟩, ⟨?_, b3⟩, ⟨?_, b4⟩, fun j hj i hi => ?_, fun j hj i hi => ?_, fun j hj i hi => ?_, fun j hj i hi => ?_, ⟨?_, l2, ?_, l4, ?_⟩, fun i hi => ?_, fun i hi => ⟨?_, ?_⟩, ⟨?_, ?_, ?_, ?_, ?_⟩⟩
    · simp (disch := omega) only [u2_ne]; rw [g5 _ (by omega), g4 _ (by omega), g3 _ (by omega), g2 _ (by omega), a1, u2_nk _ _ (by omega)]; exact m1
    · simp (disch := omega) only [u2_ne]; rw [g5 _ (by omega), g4 _ (by omega), g3 _ (by omega), a2, u2_nk _ _ (by omega)]; exact x2
    · simp (disch := omega) only [u2_ne]; rw [g5 _ (by omega), g4 _ (by omega), a3, u2_nk _ _ (by omega)]; exact x3
    · simp (disch := omega) only [u2_ne]; rw [g5 _ (by omega), a4, u2_nk _ _ (by omega)]; exact x4
    · simp (disch := omega) only [u2_ne]; rw [g5 _ (by omega), g4 _ (by omega), g3 _ (by omega), g2 _ (by omega), a1, u2_at]
    · simp (disch := omega) only [u2_ne]; rw [g5 _ (by omega), g4 _ (by omega), g3 _ (by omega), a2, u2_at]
    · simp (disch := omega) only [u2_ne]; rw [g5 _ (by omega), g4 _ (by omega), a3, u2_at]
    · simp (disch := omega) only [u2_ne]; rw [g5 _ (by omega), a4, u2_at]
    · simp (disch := omega) only [u2_ne]; rw [g5 _ (by omega), g4 _ (by omega), g3 _ (by omega), g2 _ (by omega), d1 j hj i hi]; exact c1 j hj i hi
    · simp (disch := omega) only [u2_ne]; rw [g5 _ (by omega), g4 _ (by omega), g3 _ (by omega), d2 j hj i hi, g1 _ (by omega)]; exact c2 j hj i hi
    · simp (disch := omega) only [u2_ne]; rw [g5 _ (by omega), g4 _ (by omega), d3 j hj i hi, g2 _ (by omega), g1 _ (by omega)]; exact c3 j hj i hi
    · simp (disch := omega) only [u2_ne]; rw [g5 _ (by omega), d4 j hj i hi, g3 _ (by omega), g2 _ (by omega), g1 _ (by omega)]; exact c4 j hj i hi
    · simp (disch := omega) only [u2_ne]; rw [t3, old4 _ (by omega)]; exact l1
    · simp (disch := omega) only [u2_ne]; rw [t5, old4 _ (by omega)]; exact l3
    · simp (disch := omega) only [u2_ne]; rw [t4, old4 _ (by omega)]; exact l5
    · simp (disch := omega) only [u2_ne]; rw [t1 i hi, old4 _ (by omega)]; exact lc i hi
    · simp (disch := omega) only [u2_ne]; rw [(t2 i hi).1, old4 _ (by omega)]; exact (lf i hi).1
    · simp (disch := omega) only [u2_ne]; rw [(t2 i hi).2, old4 _ (by omega)]; exact (lf i hi).2
    · simp (disch := omega) only [u2_at, u2_nk, u2_ne]; rw [base o (by omega)]; exact k1
    · simp (disch := omega) only [u2_at, u2_nk, u2_ne]; rw [base o (by omega)]; exact k2
    · simp (disch := omega) only [u2_at, u2_nk, u2_ne]; rw [base o (by omega)]; exact k3
    · simp (disch := omega) only [u2_at, u2_nk, u2_ne]; rw [base o (by omega)]; exact k4
    · simp (disch := omega) only [u2_at, u2_nk, u2_ne]; rw [base o (by omega)]; exact k5
end MPlan
