/-! ===== Steps: what can be undone ===== -/
def isSteps (K : Kt) (b : Nat) : Prop := (K.2.1 b).1 = 7 ∧ K.1 b 0 = some (b + 1) ∧ isRows K (b + 1) 4 20
/-- m steps: U j i is the j-th number (sort, what, stack, height) of the i-th, the oldest first -/
def RU (I : IM) (b m : Nat) (U : Nat → Nat → Int32) : Prop := I (b + 1) 0 = nI 20 ∧ I (b + 1) 2 = nI m ∧ m ≤ 20 ∧ ∀ j, j < 4 → ∀ i, i < m → I (b + 3 + j) i = U j i
section MSteps
variable {l : Launch} {G : GG} {d : Nat} {I : IM} {J : JM} {K : Kt} {Q : Option Value → Hp → Prop} {b m : Nat} {U : Nat → Nat → Int32}
theorem c7_clear (hB : isSteps K b) : Cw l G d m7_clear [.ref b] (I, J, K) (fun r h' => r = none ∧ h' = (u2 I (b + 1) 2 (nI 0), J, K)) := by
  obtain ⟨h7, p0, r1⟩ := hB
  have q1 := r1.1
  refine Cw.of ok7_clear rfl (rfl : argL _ _ = [.ref b]) ?_
  refine e_aload_n rfl rfl ?_
  refine e_getP rfl f7_14 (by assumption) rfl (by assumption) ?_
  refine e_iconst (v := nI 0) rfl ic_0N ?_
  refine e_putI rfl f7_20 (by assumption) rfl rfl ?_
  refine e_return rfl rfl ?_
  exact ⟨rfl, rfl⟩
theorem c7_add4 (hB : isSteps K b) (hm0 : I (b + 1) 0 = nI 20) (hz : I (b + 1) 2 = nI m) (hm : m < 20) (so wh sk hg : Int32) (hc : ∀ j, j < 4 → ∀ i, i < m → I (b + 3 + j) i = U j i) : Gw l G (d + 2) m7_add 17 [.ref b, .int so, .int wh, .int sk, .int hg] [] (I, J, K) (fun r h' => r = none ∧ ∃ I', h' = (I', J, K) ∧ (∀ c, (c ≤ b ∨ b + 6 < c) → I' c = I c) ∧ RU I' b (m + 1) (fun j i => if i = m then (if j = 0 then so else if j = 1 then wh else if j = 2 then sk else hg) else U j i)) := by
  obtain ⟨h7, p0, r1⟩ := hB
  have q1 := r1.1
  refine e_aload_n rfl rfl ?_
  refine e_getP rfl f7_14 (by assumption) rfl (by assumption) ?_
  refine e_callV (kd := 4) (M2 := m4_add) rfl v7_31 ok4_add (c4_add r1 hm0 hz (by omega)) rfl (by assumption) rfl rfl rfl rfl (fun r1 h1 q1 => ?_)
  obtain ⟨rfl, rfl⟩ := q1
  rw [if_neg (by omega)]
  refine e_aload_n rfl rfl ?_
  refine e_getP rfl f7_14 (by assumption) rfl (by assumption) ?_
  refine e_iconst (v := nI 0) rfl ic_0N ?_
  refine e_iload_n rfl rfl ?_
  refine e_callV (kd := 4) (M2 := m4_set) rfl v7_34 ok4_set (c4_set r1 (s := m + 1) (u2_at _ _ _ _) (by omega) (by omega) _) rfl (by assumption) rfl rfl rfl rfl (fun r1 h1 q1 => ?_)
  obtain ⟨rfl, rfl⟩ := q1
  rw [if_neg (by omega)]
  refine e_aload_n rfl rfl ?_
  refine e_getP rfl f7_14 (by assumption) rfl (by assumption) ?_
  refine e_iconst (v := nI 1) rfl ic_1N ?_
  refine e_iload_n rfl rfl ?_
  refine e_callV (kd := 4) (M2 := m4_set) rfl v7_34 ok4_set (c4_set r1 (s := m + 1) (by simp (disch := omega) only [u2_ne, u2_at]) (by omega) (by omega) _) rfl (by assumption) rfl rfl rfl rfl (fun r1 h1 q1 => ?_)
  obtain ⟨rfl, rfl⟩ := q1
  rw [if_neg (by omega)]
  refine e_aload_n rfl rfl ?_
  refine e_getP rfl f7_14 (by assumption) rfl (by assumption) ?_
  refine e_iconst (v := nI 2) rfl ic_2N ?_
  refine e_iload_n rfl rfl ?_
  refine e_callV (kd := 4) (M2 := m4_set) rfl v7_34 ok4_set (c4_set r1 (s := m + 1) (by simp (disch := omega) only [u2_ne, u2_at]) (by omega) (by omega) _) rfl (by assumption) rfl rfl rfl rfl (fun r1 h1 q1 => ?_)
  obtain ⟨rfl, rfl⟩ := q1
  rw [if_neg (by omega)]
  refine e_aload_n rfl rfl ?_
  refine e_getP rfl f7_14 (by assumption) rfl (by assumption) ?_
  refine e_iconst (v := nI 3) rfl ic_3N ?_
  refine e_iload rfl rfl ?_
  refine e_callV (kd := 4) (M2 := m4_set) rfl v7_34 ok4_set (c4_set r1 (s := m + 1) (by simp (disch := omega) only [u2_ne, u2_at]) (by omega) (by omega) _) rfl (by assumption) rfl rfl rfl rfl (fun r1 h1 q1 => ?_)
  obtain ⟨rfl, rfl⟩ := q1
  refine e_return rfl rfl ?_
  rw [if_neg (by omega)]
  simp only [show m + 1 - 1 = m by omega]
  refine ⟨trivial, _, rfl, ?_, ?_, ?_, by omega, ?_⟩
  · intro c hc2
    funext x
    simp (disch := omega) only [u2_ne]
  · simp (disch := omega) only [u2_ne, u2_nk]; exact hm0
  · simp (disch := omega) only [u2_ne, u2_at]
  · intro j hj i hi
    dsimp only
    by_cases hi2 : i = m
    · subst hi2
      rw [if_pos rfl]
      rcases (show j = 0 ∨ j = 1 ∨ j = 2 ∨ j = 3 by omega) with rfl | rfl | rfl | rfl
      · rw [show b + 3 + 0 = b + 1 + 2 + 0 by omega]; simp (disch := omega) only [u2_ne, u2_at]; rfl
      · rw [show b + 3 + 1 = b + 1 + 2 + 1 by omega]; simp (disch := omega) only [u2_ne, u2_at]; rfl
      · rw [show b + 3 + 2 = b + 1 + 2 + 2 by omega]; simp (disch := omega) only [u2_ne, u2_at]; rfl
      · rw [show b + 3 + 3 = b + 1 + 2 + 3 by omega]; simp (disch := omega) only [u2_ne, u2_at]; rfl
    · rw [if_neg hi2]
      simp (disch := omega) only [u2_ne, u2_nk]
      exact hc j hj i (by omega)
theorem c7_add (hB : isSteps K b) (hR : RU I b m U) (so wh sk hg : Int32) : Cw l G (d + 2) m7_add [.ref b, .int so, .int wh, .int sk, .int hg] (I, J, K) (fun r h' => r = none ∧ ∃ I', h' = (I', J, K) ∧ (∀ c, (c ≤ b ∨ b + 6 < c) → I' c = I c) ∧ RU I' b (if m = 20 then 20 else m + 1) (fun j i => if i = (if m = 20 then 19 else m) then (if j = 0 then so else if j = 1 then wh else if j = 2 then sk else hg) else if m = 20 then U j (i + 1) else U j i)) := by
  have hB2 := hB
  obtain ⟨h7, p0, r1⟩ := hB2
  have q1 := r1.1
  obtain ⟨hm0, hz, hm, hc⟩ := hR
  refine Cw.of ok7_add rfl (rfl : argL _ _ = [.ref b, .int so, .int wh, .int sk, .int hg]) ?_
  refine e_aload_n rfl rfl ?_
  refine e_getP rfl f7_14 (by assumption) rfl (by assumption) ?_
  refine e_callVp (kd := 4) (M2 := m4_isFull) rfl v7_24 ok4_isFull (c4_isFull r1 hm0 hz hm) rfl (by assumption) rfl rfl rfl rfl ?_
  first | refine e_if_eqB (tgt := 17) rfl rfl (fun z => ?_) (fun z => ?_) | refine e_if_eqN (tgt := 17) rfl rfl (by omega) (fun z => ?_) (fun z => ?_) | refine e_if_eq (tgt := 17) rfl rfl (fun z => ?_) (fun z => ?_)
  · have z := of_decide_eq_false z
    have h9 := c7_add4 (l := l) (G := G) (d := d) (J := J) hB hm0 hz (by omega) so wh sk hg hc
    rw [if_neg (by omega), if_neg (by omega)]
    have e : (fun j i => if i = m then (if j = 0 then so else if j = 1 then wh else if j = 2 then sk else hg) else if m = 20 then U j (i + 1) else U j i) = (fun j i => if i = m then (if j = 0 then so else if j = 1 then wh else if j = 2 then sk else hg) else U j i) := by
      funext j i
      rw [if_neg (c := m = 20) (by omega)]
    rw [e]
    exact h9
  · have z := of_decide_eq_true z
    obtain rfl : m = 20 := by omega
    refine e_aload_n rfl rfl ?_
    refine e_getP rfl f7_14 (by assumption) rfl (by assumption) ?_
    refine e_callV (kd := 4) (M2 := m4_dropFirst) rfl v7_28 ok4_dropFirst (c4_dropFirst r1 (s := 19) hz (by omega)) rfl (by assumption) rfl rfl rfl rfl (fun r1 h1 q1 => ?_)
    obtain ⟨rfl, I1, rfl, ea, ef, ec⟩ := q1
    have k0 : I1 (b + 1) 0 = nI 20 := by rw [ea, u2_nk _ _ (by omega)]; exact hm0
    have k2 : I1 (b + 1) 2 = nI 19 := by rw [ea, u2_at]
    obtain ⟨r9, h9, g9, e9, I2, e8, f8, u8⟩ := c7_add4 (l := l) (G := G) (d := d) (J := J) (U := fun j i => U j (i + 1)) hB k0 k2 (by omega) so wh sk hg (fun j hj i hi => by
      rw [show b + 3 + j = b + 1 + 2 + j by omega, ec j hj i hi, show b + 1 + 2 + j = b + 3 + j by omega]
      exact hc j hj (i + 1) (by omega))
    refine ⟨r9, h9, g9, e9, I2, e8, fun c hc2 => ?_, u8⟩
    rw [f8 c hc2, ef c (by omega)]
/-- the latest step taken back, in memory -/
def tbk (I : IM) (s : Nat) (so wh sk hg : Int32) (n : Nat) : IM :=
  if so = nI 3 then u2 I s 9 (I s 9 - wh)
  else if inN n wh = true then
    (if so = 0 then u2 (u2 (u2 I (s + 1) wh.toNatClampNeg (nI 0)) (s + 5) wh.toNatClampNeg (nI 0)) s 9 (I s 9 + nI 1)
    else if so = nI 1 then u2 (u2 I (s + 3) wh.toNatClampNeg sk) (s + 4) wh.toNatClampNeg hg
    else u2 I (s + 2) wh.toNatClampNeg (I (s + 2) wh.toNatClampNeg - nI 1))
  else I
theorem c7_takeBackOfTin {s n : Nat} (hB : isSteps K b) (hR : RU I b (m + 1) U) (hS : isState K s) (hd : s + 8 ≤ b) (h8n : n ≤ 8) {w : Nat} (hw : w < n) (so : Int32) : Cw l G (d + 2) m7_takeBackOfTin [.ref b, .ref s, .int so, .int (nI w)] (I, J, K) (fun r h' => r = none ∧ h' = (if so = 0 then u2 (u2 (u2 I (s + 1) w (nI 0)) (s + 5) w (nI 0)) s 9 (I s 9 + nI 1) else if so = nI 1 then u2 (u2 I (s + 3) w (U 2 m)) (s + 4) w (U 3 m) else u2 I (s + 2) w (I (s + 2) w - nI 1), J, K)) := by
  obtain ⟨h7, q0, r1⟩ := hB
  have q1 := r1.1
  obtain ⟨hm0, hz, hm, hc⟩ := hR
  obtain ⟨h6, p0, p1, p2, p3, p4, p5, p6, a1, a2, a3, a4, a5, a6, a7⟩ := hS
  have u2m : I (b + 1 + 2 + 2) m = U 2 m := hc 2 (by omega) m (by omega)
  have u3m : I (b + 1 + 2 + 3) m = U 3 m := hc 3 (by omega) m (by omega)
  refine Cw.of ok7_takeBackOfTin rfl (rfl : argL _ _ = [.ref b, .ref s, .int so, .int (nI w), .null]) ?_
  refine e_aload_n rfl rfl ?_
  refine e_getP rfl f7_14 (by assumption) rfl (by assumption) ?_
  refine e_getI rfl f7_20 (by assumption) rfl ?_
  rw [hz]
  refine e_iconst (v := nI 1) rfl ic_1N ?_
  first | refine e_isubN rfl (by omega) ?_ | refine e_isub rfl ?_
  rw [show m + 1 - 1 = m by omega]
  refine e_ist4 rfl rfl rfl ?_
  refine e_iload_n rfl rfl ?_
  first | refine e_if_neB (tgt := 42) rfl rfl (fun z => ?_) (fun z => ?_) | refine e_if_neN (tgt := 42) rfl rfl (by omega) (fun z => ?_) (fun z => ?_) | refine e_if_ne (tgt := 42) rfl rfl (fun z => ?_) (fun z => ?_)
  · have z0 : ¬ so = 0 := by assumption
    rw [if_neg z0]
    refine e_iload_n rfl rfl ?_
    refine e_iconst (v := nI 1) rfl ic_1N ?_
    first | refine e_icmp_neN (tgt := 82) rfl rfl (by omega) (by omega) (fun z => ?_) (fun z => ?_) | refine e_icmp_ne (tgt := 82) rfl rfl (fun z => ?_) (fun z => ?_)
    · have z1 : ¬ so = nI 1 := by assumption
      rw [if_neg z1]
      refine e_aload_n rfl rfl ?_
      refine e_getP rfl f7_72 (by assumption) rfl (by assumption) ?_
      refine e_iload_n rfl rfl ?_
      refine e_dup2 rfl rfl rfl ?_
      first | refine e_ialoadN rfl (by assumption) (by omega) (by omega) ?_ | (refine e_iaload rfl (by assumption) ?_ ?_; rotate_left)
      refine e_iconst (v := nI 1) rfl ic_1N ?_
      first | refine e_isubN rfl (by omega) ?_ | refine e_isub rfl ?_
      first | refine e_iastoreN rfl (by assumption) (by omega) (by omega) ?_ | (refine e_iastore rfl (by assumption) ?_ ?_; rotate_left)
      refine e_return rfl rfl ?_
      exact ⟨rfl, rfl⟩
    · have z1 : so = nI 1 := by assumption
      rw [if_pos z1]
      refine e_aload_n rfl rfl ?_
      refine e_getP rfl f7_66 (by assumption) rfl (by assumption) ?_
      refine e_iload_n rfl rfl ?_
      refine e_aload_n rfl rfl ?_
      refine e_getP rfl f7_14 (by assumption) rfl (by assumption) ?_
      refine e_iload rfl rfl ?_
      refine e_iconst (v := nI 2) rfl ic_2N ?_
      refine e_callVp (kd := 4) (M2 := m4_at) rfl v7_37 ok4_at (c4_at r1 hz hm (by omega) _) rfl (by assumption) rfl rfl rfl rfl ?_
      rw [rAt_nI (by omega) (by omega), u2m]
      first | refine e_iastoreN rfl (by assumption) (by omega) (by omega) ?_ | (refine e_iastore rfl (by assumption) ?_ ?_; rotate_left)
      refine e_aload_n rfl rfl ?_
      refine e_getP rfl f7_69 (by assumption) rfl (by assumption) ?_
      refine e_iload_n rfl rfl ?_
      refine e_aload_n rfl rfl ?_
      refine e_getP rfl f7_14 (by assumption) rfl (by assumption) ?_
      refine e_iload rfl rfl ?_
      refine e_iconst (v := nI 3) rfl ic_3N ?_
      refine e_callVp (kd := 4) (M2 := m4_at) rfl v7_37 ok4_at (c4_at r1 (by simp (disch := omega) only [u2_ne]; exact hz) hm (by omega) _) rfl (by assumption) rfl rfl rfl rfl ?_
      rw [rAt_nI (by omega) (by omega)]
      simp (disch := omega) only [u2_ne]
      rw [u3m]
      first | refine e_iastoreN rfl (by assumption) (by omega) (by omega) ?_ | (refine e_iastore rfl (by assumption) ?_ ?_; rotate_left)
      refine e_goto (tgt := 92) rfl rfl ?_
      refine e_return rfl rfl ?_
      exact ⟨rfl, rfl⟩
  · have z0 : so = 0 := by assumption
    rw [if_pos z0]
    refine e_aload_n rfl rfl ?_
    refine e_getP rfl f7_59 (by assumption) rfl (by assumption) ?_
    refine e_iload_n rfl rfl ?_
    refine e_iconst (v := nI 0) rfl ic_0N ?_
    first | refine e_iastoreN rfl (by assumption) (by omega) (by omega) ?_ | (refine e_iastore rfl (by assumption) ?_ ?_; rotate_left)
    refine e_aload_n rfl rfl ?_
    refine e_getP rfl f7_63 (by assumption) rfl (by assumption) ?_
    refine e_iload_n rfl rfl ?_
    refine e_iconst (v := nI 0) rfl ic_0N ?_
    first | refine e_iastoreN rfl (by assumption) (by omega) (by omega) ?_ | (refine e_iastore rfl (by assumption) ?_ ?_; rotate_left)
    refine e_aload_n rfl rfl ?_
    refine e_dup rfl rfl ?_
    refine e_getI rfl f7_41 (by assumption) rfl ?_
    simp (disch := omega) only [u2_ne]
    refine e_iconst (v := nI 1) rfl ic_1N ?_
    first | refine e_iaddN rfl ?_ | refine e_iadd rfl ?_
    refine e_putI rfl f7_41 (by assumption) rfl rfl ?_
    refine e_goto (tgt := 92) rfl rfl ?_
    refine e_return rfl rfl ?_
    exact ⟨rfl, rfl⟩
theorem c7_takeBack {s n : Nat} (hB : isSteps K b) (hR : RU I b (m + 1) U) (hS : isState K s) (hn : I s 7 = nI n) (h8n : n ≤ 8) (hd : s + 8 ≤ b) : Cw l G (d + 3) m7_takeBack [.ref b, .ref s] (I, J, K) (fun r h' => r = none ∧ h' = (u2 (tbk I s (U 0 m) (U 1 m) (U 2 m) (U 3 m) n) (b + 1) 2 (nI m), J, K)) := by
  have hB2 := hB
  obtain ⟨h7, q0, r1⟩ := hB2
  have q1 := r1.1
  have hR2 := hR
  obtain ⟨hm0, hz, hm, hc⟩ := hR2
  have hS2 := hS
  obtain ⟨h6, p0, p1, p2, p3, p4, p5, p6, a1, a2, a3, a4, a5, a6, a7⟩ := hS2
  have u0m : I (b + 1 + 2 + 0) m = U 0 m := hc 0 (by omega) m (by omega)
  have u1m : I (b + 1 + 2 + 1) m = U 1 m := hc 1 (by omega) m (by omega)
  have hmax : (if nI m < nI 0 then nI 0 else nI m) = nI m := if_neg (fun q => absurd ((nI_ltI (by omega) (by omega)).mp q) (by omega))
  refine Cw.of ok7_takeBack rfl (rfl : argL _ _ = [.ref b, .ref s, .null, .null, .null]) ?_
  refine e_aload_n rfl rfl ?_
  refine e_getP rfl f7_14 (by assumption) rfl (by assumption) ?_
  refine e_getI rfl f7_20 (by assumption) rfl ?_
  rw [hz]
  refine e_iconst (v := nI 1) rfl ic_1N ?_
  first | refine e_isubN rfl (by omega) ?_ | refine e_isub rfl ?_
  rw [show m + 1 - 1 = m by omega]
  refine e_ist2 rfl rfl rfl ?_
  refine e_aload_n rfl rfl ?_
  refine e_getP rfl f7_14 (by assumption) rfl (by assumption) ?_
  refine e_iload_n rfl rfl ?_
  refine e_iconst (v := nI 0) rfl ic_0N ?_
  refine e_callVp (kd := 4) (M2 := m4_at) rfl v7_37 ok4_at (c4_at r1 hz hm (by omega) _) rfl (by assumption) rfl rfl rfl rfl ?_
  rw [rAt_nI (by omega) (by omega), u0m]
  refine e_ist3 rfl rfl rfl ?_
  refine e_aload_n rfl rfl ?_
  refine e_getP rfl f7_14 (by assumption) rfl (by assumption) ?_
  refine e_iload_n rfl rfl ?_
  refine e_iconst (v := nI 1) rfl ic_1N ?_
  refine e_callVp (kd := 4) (M2 := m4_at) rfl v7_37 ok4_at (c4_at r1 hz hm (by omega) _) rfl (by assumption) rfl rfl rfl rfl ?_
  rw [rAt_nI (by omega) (by omega), u1m]
  refine e_ist4 rfl rfl rfl ?_
  refine e_iload_n rfl rfl ?_
  refine e_iconst (v := nI 3) rfl ic_3N ?_
  first | refine e_icmp_neN (tgt := 50) rfl rfl (by omega) (by omega) (fun z => ?_) (fun z => ?_) | refine e_icmp_ne (tgt := 50) rfl rfl (fun z => ?_) (fun z => ?_)
  · have z3 : ¬ U 0 m = nI 3 := by assumption
    refine e_aload_n rfl rfl ?_
    refine e_iload rfl rfl ?_
    refine e_callVp (kd := 6) (M2 := m6_has) rfl v7_46 ok6_has (c6_has h6 hn (U 1 m)) rfl (by assumption) rfl rfl rfl rfl ?_
    first | refine e_if_eqB (tgt := 67) rfl rfl (fun z => ?_) (fun z => ?_) | refine e_if_eqN (tgt := 67) rfl rfl (by omega) (fun z => ?_) (fun z => ?_) | refine e_if_eq (tgt := 67) rfl rfl (fun z => ?_) (fun z => ?_)
    · refine e_aload_n rfl rfl ?_
      refine e_getP rfl f7_14 (by assumption) rfl (by assumption) ?_
      refine e_iload_n rfl rfl ?_
      refine e_iconst (v := nI 0) rfl ic_0N ?_
      refine e_max rfl v7_54 rfl ?_
      rw [hmax]
      refine e_putI rfl f7_20 (by assumption) rfl rfl ?_
      refine e_return rfl rfl ?_
      rw [tbk, if_neg z3, if_neg (by rw [z]; decide)]
      exact ⟨rfl, rfl⟩
    · have hin : inN n (U 1 m) = true := by assumption
      obtain ⟨w, hw, ew⟩ := inN_of (by omega) hin
      rw [tbk, if_neg z3, if_pos hin]
      rw [ew, nI_clamp (by omega)]
      refine e_aload_n rfl rfl ?_
      refine e_aload_n rfl rfl ?_
      refine e_iload_n rfl rfl ?_
      refine e_iload rfl rfl ?_
      refine e_callV (kd := 7) (M2 := m7_takeBackOfTin) rfl v7_50 ok7_takeBackOfTin (c7_takeBackOfTin hB hR hS hd h8n hw _) rfl (by assumption) rfl rfl rfl rfl (fun r1 h1 q1 => ?_)
      obtain ⟨rfl, rfl⟩ := q1
      refine e_aload_n rfl rfl ?_
      refine e_getP rfl f7_14 (by assumption) rfl (by assumption) ?_
      refine e_iload_n rfl rfl ?_
      refine e_iconst (v := nI 0) rfl ic_0N ?_
      refine e_max rfl v7_54 rfl ?_
      rw [hmax]
      refine e_putI rfl f7_20 (by assumption) rfl rfl ?_
      refine e_return rfl rfl ?_
      exact ⟨rfl, rfl⟩
  · have z3 : U 0 m = nI 3 := by assumption
    refine e_aload_n rfl rfl ?_
    refine e_dup rfl rfl ?_
    refine e_getI rfl f7_41 (by assumption) rfl ?_
    refine e_iload rfl rfl ?_
    first | refine e_isubN rfl (by omega) ?_ | refine e_isub rfl ?_
    refine e_putI rfl f7_41 (by assumption) rfl rfl ?_
    refine e_goto (tgt := 67) rfl rfl ?_
    refine e_aload_n rfl rfl ?_
    refine e_getP rfl f7_14 (by assumption) rfl (by assumption) ?_
    refine e_iload_n rfl rfl ?_
    refine e_iconst (v := nI 0) rfl ic_0N ?_
    refine e_max rfl v7_54 rfl ?_
    rw [hmax]
    refine e_putI rfl f7_20 (by assumption) rfl rfl ?_
    refine e_return rfl rfl ?_
    rw [tbk, if_pos z3]
    exact ⟨rfl, rfl⟩
end MSteps
