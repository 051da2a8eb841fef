/-! ===== Parser: LINES, all of them ===== -/
theorem avS_P {f : Nat → Nat} {n : Nat} {s s' : PSt} (h : avS f n s = .inr s') : s'.2 = s.2 := by
  unfold avS at h
  split at h
  · obtain rfl := Sum.inr.inj h; rfl
  · obtain rfl := Sum.inr.inj h; rfl
theorem nuS_P {f : Nat → Nat} {n : Nat} {lo hi : Int32} {s s' : PSt} (h : nuS f n lo hi s = .inr s') : pP s' = pP s := by
  unfold nuS at h
  split at h
  · split at h
    · exact absurd h (by simp [flS])
    · exact congrArg Prod.fst (avS_P h)
  · exact absurd h (by simp [flS])
theorem nnS_P {f : Nat → Nat} {n j b : Nat} {s s' : PSt} (h : nnS f n j b s = .inr s') : pP s' = pP s := by
  unfold nnS at h
  split at h
  · split at h
    · exact congrArg Prod.fst (avS_P h)
    · exact absurd h (by simp [flS])
  · exact absurd h (by simp [flS])
theorem tnS_P {f : Nat → Nat} {n j b : Nat} {s s' : PSt} (h : tnS f n j b s = .inr s') : pP s' = pP s := by
  unfold tnS at h
  split at h
  · split at h
    · exact absurd h (by simp [flS])
    · exact congrArg Prod.fst (avS_P h)
  · exact absurd h (by simp [flS])
theorem tnS_f {f : Nat → Nat} {n j b : Nat} {s s' : PSt} (h : tnS f n j b s = .inr s') : ¬ fdS s j b = -1 := by
  unfold tnS at h
  split at h
  · split at h
    · exact absurd h (by simp [flS])
    · next c => exact c
  · exact absurd h (by simp [flS])
theorem roS_P {f : Nat → Nat} {n j m : Nat} {s s' : PSt} (h : roS f n j m s = .inr s') : pP s' = pP s ∧ (pP s).1 j < m := by
  unfold roS at h
  split at h
  · exact absurd h (by simp [flS])
  · next c => exact ⟨congrArg Prod.fst (avS_P h), by omega⟩
theorem toldV {I : IM} {f : Nat → Nat} {n q : Nat} {s s' : PSt} (L : Lz I f n (.inr s)) (hj : q = (pP s).1 0) (hq : q ≤ 6) (h : tnS f n 0 0 s = .inr s') : (if fnd (I (3 + 1 + 2)) (I 30 6) q 0 < nI 0 then nI 0 else fnd (I (3 + 1 + 2)) (I 30 6) q 0) = fdS s 0 0 := by
  have e : fnd (I (3 + 1 + 2)) (I 30 6) q 0 = fdS s 0 0 := by rw [L.va, hj]; exact L.n0 _
  rw [e]
  exact mx_fnd (by omega) (tnS_f h)
theorem toldV1 {I : IM} {f : Nat → Nat} {n q : Nat} {s s' : PSt} (L : Lz I f n (.inr s)) (hj : q = (pP s).1 1) (hq : q ≤ 8) (h : tnS f n 1 3 s = .inr s') : (if fnd (I (3 + 6 + 2)) (I 30 6) q 0 < nI 0 then nI 0 else fnd (I (3 + 6 + 2)) (I 30 6) q 0) = fdS s 1 3 := by
  have e : fnd (I (3 + 6 + 2)) (I 30 6) q 0 = fdS s 1 3 := by rw [L.va, hj]; exact L.n1 _
  rw [e]
  exact mx_fnd (by omega) (tnS_f h)
theorem kiS_eq {f : Nat → Nat} {n : Nat} {s : PSt} {x0 x1 x2 : Int32} (H1 : ∀ s1 s2, (roS f n 0 6 s) = .inr s1 → nnS f n 0 0 s1 = .inr s2 → x0 = pVa s1) (H2 : ∀ s1 s2, (bnd (roS f n 0 6 s) (nnS f n 0 0)) = .inr s1 → nuS f n (nI 1) (nI 99) s1 = .inr s2 → x1 = pVa s1) (H3 : ∀ s1 s2, (bnd (bnd (roS f n 0 6 s) (nnS f n 0 0)) (nuS f n (nI 1) (nI 99))) = .inr s1 → nuS f n (nI 0) (nI 9) s1 = .inr s2 → x2 = pVa s1) : bnd (bnd (bnd (bnd (roS f n 0 6 s) (nnS f n 0 0)) (nuS f n (nI 1) (nI 99))) (nuS f n (nI 0) (nI 9))) (fun t => .inr (stP t (adP (pP t) 0 0 3 (v3 x0 x1 x2)))) = kiS f n s := by
  unfold kiS
  cases e1 : roS f n 0 6 s with
  | inl e => rfl
  | inr s1 =>
    try dsimp only [bnd]
    cases e2 : nnS f n 0 0 s1 with
    | inl e => rfl
    | inr s2 =>
      try dsimp only [bnd]
      cases e3 : nuS f n (nI 1) (nI 99) s2 with
      | inl e => rfl
      | inr s3 =>
        try dsimp only [bnd]
        cases e4 : nuS f n (nI 0) (nI 9) s3 with
        | inl e => rfl
        | inr s4 =>
          try dsimp only [bnd]
          rw [H1 s1 s2 (by simp only [e1, bnd]) e2, H2 s2 s3 (by simp only [e1, e2, bnd]) e3, H3 s3 s4 (by simp only [e1, e2, e3, bnd]) e4]
theorem tiS_eq {f : Nat → Nat} {n : Nat} {s : PSt} {x0 x1 x2 x3 x4 : Int32} (H1 : ∀ s1 s2, (roS f n 1 8 s) = .inr s1 → nnS f n 1 3 s1 = .inr s2 → x0 = pVa s1) (H2 : ∀ s1 s2, (bnd (roS f n 1 8 s) (nnS f n 1 3)) = .inr s1 → tnS f n 0 0 s1 = .inr s2 → x1 = fdS s1 0 0) (H3 : ∀ s1 s2, (bnd (bnd (roS f n 1 8 s) (nnS f n 1 3)) (tnS f n 0 0)) = .inr s1 → nuS f n (nI 0) (nI 9) s1 = .inr s2 → x2 = pVa s1) (H4 : ∀ s1 s2, (bnd (bnd (bnd (roS f n 1 8 s) (nnS f n 1 3)) (tnS f n 0 0)) (nuS f n (nI 0) (nI 9))) = .inr s1 → nuS f n (nI 1) (nI 99) s1 = .inr s2 → x3 = pVa s1) (H5 : ∀ s1 s2, (bnd (bnd (bnd (bnd (roS f n 1 8 s) (nnS f n 1 3)) (tnS f n 0 0)) (nuS f n (nI 0) (nI 9))) (nuS f n (nI 1) (nI 99))) = .inr s1 → nuS f n (nI 0) (nI 3) s1 = .inr s2 → x4 = pVa s1) : bnd (bnd (bnd (bnd (bnd (bnd (roS f n 1 8 s) (nnS f n 1 3)) (tnS f n 0 0)) (nuS f n (nI 0) (nI 9))) (nuS f n (nI 1) (nI 99))) (nuS f n (nI 0) (nI 3))) (fun t => .inr (stP t (adP (pP t) 1 3 5 (v5 x0 x1 x2 x3 x4)))) = tiS f n s := by
  unfold tiS
  cases e1 : roS f n 1 8 s with
  | inl e => rfl
  | inr s1 =>
    try dsimp only [bnd]
    cases e2 : nnS f n 1 3 s1 with
    | inl e => rfl
    | inr s2 =>
      try dsimp only [bnd]
      cases e3 : tnS f n 0 0 s2 with
      | inl e => rfl
      | inr s3 =>
        try dsimp only [bnd]
        cases e4 : nuS f n (nI 0) (nI 9) s3 with
        | inl e => rfl
        | inr s4 =>
          try dsimp only [bnd]
          cases e5 : nuS f n (nI 1) (nI 99) s4 with
          | inl e => rfl
          | inr s5 =>
            try dsimp only [bnd]
            cases e6 : nuS f n (nI 0) (nI 3) s5 with
            | inl e => rfl
            | inr s6 =>
              try dsimp only [bnd]
              rw [H1 s1 s2 (by simp only [e1, bnd]) e2, H2 s2 s3 (by simp only [e1, e2, bnd]) e3, H3 s3 s4 (by simp only [e1, e2, e3, bnd]) e4, H4 s4 s5 (by simp only [e1, e2, e3, e4, bnd]) e5, H5 s5 s6 (by simp only [e1, e2, e3, e4, e5, bnd]) e6]
theorem opS_eq {f : Nat → Nat} {n : Nat} {s : PSt} {x0 x1 : Int32} (H1 : ∀ s1 s2, (roS f n 2 10 s) = .inr s1 → tnS f n 1 3 s1 = .inr s2 → x0 = fdS s1 1 3) (H2 : ∀ s1 s2, (bnd (roS f n 2 10 s) (tnS f n 1 3)) = .inr s1 → nuS f n (nI 0) (nI 99) s1 = .inr s2 → x1 = pVa s1) : bnd (bnd (bnd (roS f n 2 10 s) (tnS f n 1 3)) (nuS f n (nI 0) (nI 99))) (fun t => .inr (stP t (mxD (adP (pP t) 2 8 2 (v3 x0 x1 0)) 3 x1))) = opS f n s := by
  unfold opS
  cases e1 : roS f n 2 10 s with
  | inl e => rfl
  | inr s1 =>
    try dsimp only [bnd]
    cases e2 : tnS f n 1 3 s1 with
    | inl e => rfl
    | inr s2 =>
      try dsimp only [bnd]
      cases e3 : nuS f n (nI 0) (nI 99) s2 with
      | inl e => rfl
      | inr s3 =>
        try dsimp only [bnd]
        rw [H1 s1 s2 (by simp only [e1, bnd]) e2, H2 s2 s3 (by simp only [e1, e2, bnd]) e3]
theorem waS_eq {f : Nat → Nat} {n : Nat} {s : PSt} {x0 x1 x2 : Int32} (H1 : ∀ s1 s2, (roS f n 3 8 s) = .inr s1 → tnS f n 0 0 s1 = .inr s2 → x0 = fdS s1 0 0) (H2 : ∀ s1 s2, (bnd (roS f n 3 8 s) (tnS f n 0 0)) = .inr s1 → nuS f n (nI 0) (nI 99) s1 = .inr s2 → x1 = pVa s1) (H3 : ∀ s1 s2, (bnd (bnd (roS f n 3 8 s) (tnS f n 0 0)) (nuS f n (nI 0) (nI 99))) = .inr s1 → nuS f n (nI 1) (nI 99) s1 = .inr s2 → x2 = pVa s1) : bnd (bnd (bnd (bnd (roS f n 3 8 s) (tnS f n 0 0)) (nuS f n (nI 0) (nI 99))) (nuS f n (nI 1) (nI 99))) (fun t => .inr (stP t (mxD (adP (pP t) 3 10 3 (v3 x0 x1 x2)) 4 x1))) = waS f n s := by
  unfold waS
  cases e1 : roS f n 3 8 s with
  | inl e => rfl
  | inr s1 =>
    try dsimp only [bnd]
    cases e2 : tnS f n 0 0 s1 with
    | inl e => rfl
    | inr s2 =>
      try dsimp only [bnd]
      cases e3 : nuS f n (nI 0) (nI 99) s2 with
      | inl e => rfl
      | inr s3 =>
        try dsimp only [bnd]
        cases e4 : nuS f n (nI 1) (nI 99) s3 with
        | inl e => rfl
        | inr s4 =>
          try dsimp only [bnd]
          rw [H1 s1 s2 (by simp only [e1, bnd]) e2, H2 s2 s3 (by simp only [e1, e2, bnd]) e3, H3 s3 s4 (by simp only [e1, e2, e3, bnd]) e4]
section MLine2
variable {l : Launch} {G : GG} {d : Nat} {I : IM} {J : JM} {K : Kt} {Q : Option Value → Hp → Prop} {f : Nat → Nat} {n : Nat} {zz : PR}
theorem Lz.mx {q : Nat} (hq : q < 2) (hz : Lz I f n zz) (v : Int32) : Lz (u2 I 3 (8 + q) (if I 3 (8 + q) < v then v else I 3 (8 + q))) f n (bnd zz (fun s => .inr (stP s (mxD (pP s) (3 + q) v)))) := by
  have fr : ∀ x c, c ≠ 3 → u2 I 3 (8 + q) x c = I c := fun x c hc => u2_row _ _ hc
  cases zz with
  | inl e =>
    obtain ⟨h1, h2, h3, h4, ⟨a, va, pl, h5⟩, h6⟩ := hz
    exact ⟨h1, h2, by rw [fr _ _ (by omega)]; exact h3, by rw [fr _ _ (by omega)]; exact h4, ⟨a, va, pl, h5.frame (fr _ _ (by omega)) (fr _ _ (by omega)) (fr _ _ (by omega))⟩, h6.frame (fr _ _ (by omega)) (fr _ _ (by omega)) (fr _ _ (by omega)) (fr _ _ (by omega)) (by rw [fr _ _ (by omega)]) (by rw [fr _ _ (by omega)])⟩
  | inr s =>
    obtain ⟨h1, h2, h3, h4, h5, h6, h7⟩ := hz
    refine ⟨by rw [fr _ _ (by omega)]; exact h1, by rw [fr _ _ (by omega)]; exact h2, h3.frame (fr _ _ (by omega)) (fr _ _ (by omega)) (fr _ _ (by omega)), ?_, h5, by rw [fr _ _ (by omega)]; exact h6, by rw [fr _ _ (by omega)]; exact h7⟩
    obtain rfl | rfl : q = 0 ∨ q = 1 := by omega
    · have e : I 3 (8 + 0) = (pP s).2 20 3 := h4.2.2.2.2.2.2.2.2.2.2.2.2.2.2.2.1
      rw [e]
      exact h4.st3 _
    · have e : I 3 (8 + 1) = (pP s).2 20 4 := h4.2.2.2.2.2.2.2.2.2.2.2.2.2.2.2.2
      rw [e]
      exact h4.st4 _
theorem bnd_bnd (z : PR) (g h : PSt → PR) : bnd (bnd z g) h = bnd z (fun s => bnd (g s) h) := by cases z <;> rfl
theorem c2_kindLine (hK : PK K) {s : PSt} (hz : Lz I f n (.inr s)) : CV l G (d + 7) m2_kindLine [.ref 2] I J K f n (kiS f n s) := by
  have hK2 := hK
  obtain ⟨k2, p20, p21, hP3, k5, p0, a31, p1, a1⟩ := hK2
  obtain ⟨h3, q0, q1, q2, q3, q4, r1, r2, r3, r4, r5⟩ := hP3
  obtain ⟨q, hm, hs, hq, hj⟩ := hz.r0
  refine Cw.of ok2_kindLine rfl (rfl : argL _ _ = [.ref 2, .null, .null, .null]) ?_
  refine e_aload_n rfl rfl ?_
  refine e_aload_n rfl rfl ?_
  refine e_getP rfl f2_12 (by assumption) rfl (by assumption) ?_
  refine e_getP rfl f2_91 (by assumption) rfl (by assumption) ?_
  refine e_callV (kd := 2) (M2 := m2_room) rfl v2_95 ok2_room (c2_room (d := d) hK hz r1 hm hs hq hj) rfl (by assumption) rfl rfl rfl rfl (fun r1 h1 q1 => ?_)
  obtain ⟨rfl, I1, rfl, g1, L1⟩ := q1
  have L1 : Lz I1 f n (roS f n 0 6 s) := L1
  obtain ⟨qa, -, hs1, hq1, hj1⟩ := L1.r0
  refine e_aload_n rfl rfl ?_
  refine e_aload_n rfl rfl ?_
  refine e_getP rfl f2_12 (by assumption) rfl (by assumption) ?_
  refine e_getP rfl f2_91 (by assumption) rfl (by assumption) ?_
  refine e_callV (kd := 2) (M2 := m2_newName) rfl v2_99 ok2_newName (c2_newName (d := d) (j := 0) (b := 0) hK L1 r1 hs1 hq1 (fun t e => by rw [hj1 t e]; rw [e] at L1; exact L1.n0 _)) rfl (by assumption) rfl rfl rfl rfl (fun r1 h1 q1 => ?_)
  obtain ⟨rfl, I2, rfl, g2, L2⟩ := q1
  refine e_ist1 rfl rfl rfl ?_
  refine e_aload_n rfl rfl ?_
  refine e_iconst (v := nI 1) rfl ic_1N ?_
  refine e_bipush (v := nI 99) rfl bp_99N ?_
  refine e_callV (kd := 2) (M2 := m2_number) rfl v2_103 ok2_number (c2_number (d := d) hK L2 (nI 1) (nI 99)) rfl (by assumption) rfl rfl rfl rfl (fun r1 h1 q1 => ?_)
  obtain ⟨rfl, I3, rfl, g3, L3⟩ := q1
  refine e_ist2 rfl rfl rfl ?_
  refine e_aload_n rfl rfl ?_
  refine e_iconst (v := nI 0) rfl ic_0N ?_
  refine e_bipush (v := nI 9) rfl bp_9N ?_
  refine e_callV (kd := 2) (M2 := m2_number) rfl v2_103 ok2_number (c2_number (d := d) hK L3 (nI 0) (nI 9)) rfl (by assumption) rfl rfl rfl rfl (fun r1 h1 q1 => ?_)
  obtain ⟨rfl, I4, rfl, g4, L4⟩ := q1
  refine e_ist3 rfl rfl rfl ?_
  refine kindLine_tail (d := d + 5) hK L4 (fun t e => ?_) (fun I5 g5 L5 => ?_)
  · obtain ⟨t3, e3, e⟩ := bnd_inr e
    obtain ⟨t2, e2, e3⟩ := bnd_inr e3
    obtain ⟨t1, e1, e2⟩ := bnd_inr e2
    have z4 := nuS_P e
    have z3 := nuS_P e3
    have z2 := nnS_P e2
    have z1 := roS_P e1
    rw [z4, z3, z2, z1.1]
    exact z1.2
  · refine e_return rfl rfl ?_
    rw [kiS_eq (fun t1 t2 a b => by rw [a] at L1; exact L1.va) (fun t1 t2 a b => by rw [a] at L2; exact L2.va) (fun t1 t2 a b => by rw [a] at L3; exact L3.va)] at L5
    exact ⟨rfl, I5, rfl, (((g1.tr g2).tr g3).tr g4).tr g5, L5⟩
theorem c2_tinLine (hK : PK K) {s : PSt} (hz : Lz I f n (.inr s)) : CV l G (d + 7) m2_tinLine [.ref 2] I J K f n (tiS f n s) := by
  have hK2 := hK
  obtain ⟨k2, p20, p21, hP3, k5, p0, a31, p1, a1⟩ := hK2
  obtain ⟨h3, q0, q1, q2, q3, q4, r1, r2, r3, r4, r5⟩ := hP3
  obtain ⟨q, hm, hs, hq, hj⟩ := hz.r1
  refine Cw.of ok2_tinLine rfl (rfl : argL _ _ = [.ref 2, .null, .null, .null, .null, .null]) ?_
  refine e_aload_n rfl rfl ?_
  refine e_aload_n rfl rfl ?_
  refine e_getP rfl f2_12 (by assumption) rfl (by assumption) ?_
  refine e_getP rfl f2_116 (by assumption) rfl (by assumption) ?_
  refine e_callV (kd := 2) (M2 := m2_room) rfl v2_95 ok2_room (c2_room (d := d) hK hz r2 hm hs hq hj) rfl (by assumption) rfl rfl rfl rfl (fun r1 h1 q1 => ?_)
  obtain ⟨rfl, I1, rfl, g1, L1⟩ := q1
  have L1 : Lz I1 f n (roS f n 1 8 s) := L1
  obtain ⟨qa, -, hs1, hq1, hj1⟩ := L1.r1
  refine e_aload_n rfl rfl ?_
  refine e_aload_n rfl rfl ?_
  refine e_getP rfl f2_12 (by assumption) rfl (by assumption) ?_
  refine e_getP rfl f2_116 (by assumption) rfl (by assumption) ?_
  refine e_callV (kd := 2) (M2 := m2_newName) rfl v2_99 ok2_newName (c2_newName (d := d) (j := 1) (b := 3) hK L1 r2 hs1 hq1 (fun t e => by rw [hj1 t e]; rw [e] at L1; exact L1.n1 _)) rfl (by assumption) rfl rfl rfl rfl (fun r1 h1 q1 => ?_)
  obtain ⟨rfl, I2, rfl, g2, L2⟩ := q1
  refine e_ist1 rfl rfl rfl ?_
  obtain ⟨qb, -, hs2, hq2, hj2⟩ := L2.r0
  refine e_aload_n rfl rfl ?_
  refine e_aload_n rfl rfl ?_
  refine e_getP rfl f2_12 (by assumption) rfl (by assumption) ?_
  refine e_getP rfl f2_91 (by assumption) rfl (by assumption) ?_
  refine e_callV (kd := 2) (M2 := m2_toldName) rfl v2_119 ok2_toldName (c2_toldName (d := d) (j := 0) (b := 0) hK L2 r1 hs2 hq2 (fun t e => by rw [hj2 t e]; rw [e] at L2; exact L2.n0 _)) rfl (by assumption) rfl rfl rfl rfl (fun r1 h1 q1 => ?_)
  obtain ⟨rfl, I3, rfl, g3, L3⟩ := q1
  refine e_ist2 rfl rfl rfl ?_
  refine e_aload_n rfl rfl ?_
  refine e_iconst (v := nI 0) rfl ic_0N ?_
  refine e_bipush (v := nI 9) rfl bp_9N ?_
  refine e_callV (kd := 2) (M2 := m2_number) rfl v2_103 ok2_number (c2_number (d := d) hK L3 (nI 0) (nI 9)) rfl (by assumption) rfl rfl rfl rfl (fun r1 h1 q1 => ?_)
  obtain ⟨rfl, I4, rfl, g4, L4⟩ := q1
  refine e_ist3 rfl rfl rfl ?_
  refine e_aload_n rfl rfl ?_
  refine e_iconst (v := nI 1) rfl ic_1N ?_
  refine e_bipush (v := nI 99) rfl bp_99N ?_
  refine e_callV (kd := 2) (M2 := m2_number) rfl v2_103 ok2_number (c2_number (d := d) hK L4 (nI 1) (nI 99)) rfl (by assumption) rfl rfl rfl rfl (fun r1 h1 q1 => ?_)
  obtain ⟨rfl, I5, rfl, g5, L5⟩ := q1
  refine e_ist4 rfl rfl rfl ?_
  refine e_aload_n rfl rfl ?_
  refine e_iconst (v := nI 0) rfl ic_0N ?_
  refine e_iconst (v := nI 3) rfl ic_3N ?_
  refine e_callV (kd := 2) (M2 := m2_number) rfl v2_103 ok2_number (c2_number (d := d) hK L5 (nI 0) (nI 3)) rfl (by assumption) rfl rfl rfl rfl (fun r1 h1 q1 => ?_)
  obtain ⟨rfl, I6, rfl, g6, L6⟩ := q1
  refine e_ist5 rfl rfl rfl ?_
  refine tinLine_tail (d := d + 5) hK L6 (fun t e => ?_) (fun I7 g7 L7 => ?_)
  · obtain ⟨t5, e5, e⟩ := bnd_inr e
    obtain ⟨t4, e4, e5⟩ := bnd_inr e5
    obtain ⟨t3, e3, e4⟩ := bnd_inr e4
    obtain ⟨t2, e2, e3⟩ := bnd_inr e3
    obtain ⟨t1, e1, e2⟩ := bnd_inr e2
    have z1 := roS_P e1
    rw [nuS_P e, nuS_P e5, nuS_P e4, tnS_P e3, nnS_P e2, z1.1]
    exact z1.2
  · refine e_return rfl rfl ?_
    rw [tiS_eq (fun t1 t2 a b => by rw [a] at L1; exact L1.va) (fun t1 t2 a b => by rw [a] at L2; exact toldV L2 (hj2 t1 a) hq2 b) (fun t1 t2 a b => by rw [a] at L3; exact L3.va) (fun t1 t2 a b => by rw [a] at L4; exact L4.va) (fun t1 t2 a b => by rw [a] at L5; exact L5.va)] at L7
    exact ⟨rfl, I7, rfl, (((((g1.tr g2).tr g3).tr g4).tr g5).tr g6).tr g7, L7⟩
theorem c2_openLine (hK : PK K) {s : PSt} (hz : Lz I f n (.inr s)) : CV l G (d + 7) m2_openLine [.ref 2] I J K f n (opS f n s) := by
  have hK2 := hK
  obtain ⟨k2, p20, p21, hP3, k5, p0, a31, p1, a1⟩ := hK2
  obtain ⟨h3, q0, q1, q2, q3, q4, r1, r2, r3, r4, r5⟩ := hP3
  obtain ⟨q, hm, hs, hq, hj⟩ := hz.r2
  refine Cw.of ok2_openLine rfl (rfl : argL _ _ = [.ref 2, .null, .null]) ?_
  refine e_aload_n rfl rfl ?_
  refine e_aload_n rfl rfl ?_
  refine e_getP rfl f2_12 (by assumption) rfl (by assumption) ?_
  refine e_getP rfl f2_122 (by assumption) rfl (by assumption) ?_
  refine e_callV (kd := 2) (M2 := m2_room) rfl v2_95 ok2_room (c2_room (d := d) hK hz r3 hm hs hq hj) rfl (by assumption) rfl rfl rfl rfl (fun r1 h1 q1 => ?_)
  obtain ⟨rfl, I1, rfl, g1, L1⟩ := q1
  have L1 : Lz I1 f n (roS f n 2 10 s) := L1
  obtain ⟨qb, -, hs2, hq2, hj2⟩ := L1.r1
  refine e_aload_n rfl rfl ?_
  refine e_aload_n rfl rfl ?_
  refine e_getP rfl f2_12 (by assumption) rfl (by assumption) ?_
  refine e_getP rfl f2_116 (by assumption) rfl (by assumption) ?_
  refine e_callV (kd := 2) (M2 := m2_toldName) rfl v2_119 ok2_toldName (c2_toldName (d := d) (j := 1) (b := 3) hK L1 r2 hs2 hq2 (fun t e => by rw [hj2 t e]; rw [e] at L1; exact L1.n1 _)) rfl (by assumption) rfl rfl rfl rfl (fun r1 h1 q1 => ?_)
  obtain ⟨rfl, I2, rfl, g2, L2⟩ := q1
  refine e_ist1 rfl rfl rfl ?_
  refine e_aload_n rfl rfl ?_
  refine e_iconst (v := nI 0) rfl ic_0N ?_
  refine e_bipush (v := nI 99) rfl bp_99N ?_
  refine e_callV (kd := 2) (M2 := m2_number) rfl v2_103 ok2_number (c2_number (d := d) hK L2 (nI 0) (nI 99)) rfl (by assumption) rfl rfl rfl rfl (fun r1 h1 q1 => ?_)
  obtain ⟨rfl, I3, rfl, g3, L3⟩ := q1
  refine e_ist2 rfl rfl rfl ?_
  refine openLine_tail (d := d + 5) hK L3 (fun t e => ?_) (fun I4 g4 L4 => ?_)
  · obtain ⟨t2, e2, e⟩ := bnd_inr e
    obtain ⟨t1, e1, e2⟩ := bnd_inr e2
    have z1 := roS_P e1
    rw [nuS_P e, tnS_P e2, z1.1]
    exact z1.2
  · refine e_aload_n rfl rfl ?_
    refine e_getP rfl f2_12 (by assumption) rfl (by assumption) ?_
    refine e_aload_n rfl rfl ?_
    refine e_getP rfl f2_12 (by assumption) rfl (by assumption) ?_
    refine e_getI rfl f2_125 (by assumption) rfl ?_
    refine e_iload_n rfl rfl ?_
    refine e_max rfl v2_128 rfl ?_
    refine e_putI rfl f2_125 (by assumption) rfl rfl ?_
    refine e_return rfl rfl ?_
    have L5 := Lz.mx (q := 0) (by omega) L4 (I2 30 6)
    rw [bnd_bnd] at L5
    rw [show (fun t : PSt => bnd (Sum.inr (stP t (adP (pP t) 2 8 2 (v3 (if fnd (I1 (3 + 6 + 2)) (I1 30 6) qb 0 < nI 0 then nI 0 else fnd (I1 (3 + 6 + 2)) (I1 30 6) qb 0) (I2 30 6) 0)))) fun s => Sum.inr (stP s (mxD (pP s) (3 + 0) (I2 30 6)))) = (fun t => .inr (stP t (mxD (adP (pP t) 2 8 2 (v3 (if fnd (I1 (3 + 6 + 2)) (I1 30 6) qb 0 < nI 0 then nI 0 else fnd (I1 (3 + 6 + 2)) (I1 30 6) qb 0) (I2 30 6) 0)) 3 (I2 30 6)))) from rfl, opS_eq (fun t1 t2 a b => by rw [a] at L1; exact toldV1 L1 (hj2 t1 a) hq2 b) (fun t1 t2 a b => by rw [a] at L2; exact L2.va)] at L5
    exact ⟨rfl, _, rfl, fun c hc => by rw [u2_row _ _ (by omega)]; exact (((g1.tr g2).tr g3).tr g4) c hc, L5⟩
theorem c2_wantLine (hK : PK K) {s : PSt} (hz : Lz I f n (.inr s)) : CV l G (d + 7) m2_wantLine [.ref 2] I J K f n (waS f n s) := by
  have hK2 := hK
  obtain ⟨k2, p20, p21, hP3, k5, p0, a31, p1, a1⟩ := hK2
  obtain ⟨h3, q0, q1, q2, q3, q4, r1, r2, r3, r4, r5⟩ := hP3
  obtain ⟨q, hm, hs, hq, hj⟩ := hz.r3
  refine Cw.of ok2_wantLine rfl (rfl : argL _ _ = [.ref 2, .null, .null, .null]) ?_
  refine e_aload_n rfl rfl ?_
  refine e_aload_n rfl rfl ?_
  refine e_getP rfl f2_12 (by assumption) rfl (by assumption) ?_
  refine e_getP rfl f2_133 (by assumption) rfl (by assumption) ?_
  refine e_callV (kd := 2) (M2 := m2_room) rfl v2_95 ok2_room (c2_room (d := d) hK hz r4 hm hs hq hj) rfl (by assumption) rfl rfl rfl rfl (fun r1 h1 q1 => ?_)
  obtain ⟨rfl, I1, rfl, g1, L1⟩ := q1
  have L1 : Lz I1 f n (roS f n 3 8 s) := L1
  obtain ⟨qb, -, hs2, hq2, hj2⟩ := L1.r0
  refine e_aload_n rfl rfl ?_
  refine e_aload_n rfl rfl ?_
  refine e_getP rfl f2_12 (by assumption) rfl (by assumption) ?_
  refine e_getP rfl f2_91 (by assumption) rfl (by assumption) ?_
  refine e_callV (kd := 2) (M2 := m2_toldName) rfl v2_119 ok2_toldName (c2_toldName (d := d) (j := 0) (b := 0) hK L1 r1 hs2 hq2 (fun t e => by rw [hj2 t e]; rw [e] at L1; exact L1.n0 _)) rfl (by assumption) rfl rfl rfl rfl (fun r1 h1 q1 => ?_)
  obtain ⟨rfl, I2, rfl, g2, L2⟩ := q1
  refine e_ist1 rfl rfl rfl ?_
  refine e_aload_n rfl rfl ?_
  refine e_iconst (v := nI 0) rfl ic_0N ?_
  refine e_bipush (v := nI 99) rfl bp_99N ?_
  refine e_callV (kd := 2) (M2 := m2_number) rfl v2_103 ok2_number (c2_number (d := d) hK L2 (nI 0) (nI 99)) rfl (by assumption) rfl rfl rfl rfl (fun r1 h1 q1 => ?_)
  obtain ⟨rfl, I3, rfl, g3, L3⟩ := q1
  refine e_ist2 rfl rfl rfl ?_
  refine e_aload_n rfl rfl ?_
  refine e_iconst (v := nI 1) rfl ic_1N ?_
  refine e_bipush (v := nI 99) rfl bp_99N ?_
  refine e_callV (kd := 2) (M2 := m2_number) rfl v2_103 ok2_number (c2_number (d := d) hK L3 (nI 1) (nI 99)) rfl (by assumption) rfl rfl rfl rfl (fun r1 h1 q1 => ?_)
  obtain ⟨rfl, I4, rfl, g4, L4⟩ := q1
  refine e_ist3 rfl rfl rfl ?_
  refine wantLine_tail (d := d + 5) hK L4 (fun t e => ?_) (fun I5 g5 L5 => ?_)
  · obtain ⟨t3, e3, e⟩ := bnd_inr e
    obtain ⟨t2, e2, e3⟩ := bnd_inr e3
    obtain ⟨t1, e1, e2⟩ := bnd_inr e2
    have z1 := roS_P e1
    rw [nuS_P e, nuS_P e3, tnS_P e2, z1.1]
    exact z1.2
  · refine e_aload_n rfl rfl ?_
    refine e_getP rfl f2_12 (by assumption) rfl (by assumption) ?_
    refine e_aload_n rfl rfl ?_
    refine e_getP rfl f2_12 (by assumption) rfl (by assumption) ?_
    refine e_getI rfl f2_136 (by assumption) rfl ?_
    refine e_iload_n rfl rfl ?_
    refine e_max rfl v2_128 rfl ?_
    refine e_putI rfl f2_136 (by assumption) rfl rfl ?_
    refine e_return rfl rfl ?_
    have L6 := Lz.mx (q := 1) (by omega) L5 (I2 30 6)
    rw [bnd_bnd] at L6
    rw [show (fun t : PSt => bnd (Sum.inr (stP t (adP (pP t) 3 10 3 (v3 (if fnd (I1 (3 + 1 + 2)) (I1 30 6) qb 0 < nI 0 then nI 0 else fnd (I1 (3 + 1 + 2)) (I1 30 6) qb 0) (I2 30 6) (I3 30 6))))) fun s => Sum.inr (stP s (mxD (pP s) (3 + 1) (I2 30 6)))) = (fun t => .inr (stP t (mxD (adP (pP t) 3 10 3 (v3 (if fnd (I1 (3 + 1 + 2)) (I1 30 6) qb 0 < nI 0 then nI 0 else fnd (I1 (3 + 1 + 2)) (I1 30 6) qb 0) (I2 30 6) (I3 30 6))) 4 (I2 30 6)))) from rfl, waS_eq (fun t1 t2 a b => by rw [a] at L1; exact toldV L1 (hj2 t1 a) hq2 b) (fun t1 t2 a b => by rw [a] at L2; exact L2.va) (fun t1 t2 a b => by rw [a] at L3; exact L3.va)] at L6
    exact ⟨rfl, _, rfl, fun c hc => by rw [u2_row _ _ (by omega)]; exact ((((g1.tr g2).tr g3).tr g4).tr g5) c hc, L6⟩
end MLine2
