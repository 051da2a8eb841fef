/-! ===== Rows: numbers in rows ===== -/
/-- a Rows at a: w columns of m places -/
def isRows (K : Kt) (a w m : Nat) : Prop := (K.2.1 a).1 = 4 ∧ K.1 a 1 = some (a + 1) ∧ K.2.1 (a + 1) = (24, w) ∧ (∀ j, j < w → K.1 (a + 1) j = some (a + 2 + j)) ∧ (∀ j, j < w → K.2.1 (a + 2 + j) = (20, m)) ∧ 0 < w ∧ w ≤ 8 ∧ m ≤ 64
/-- the row at t of column j, 0 if there is none -/
def rAt (I : IM) (a s j : Nat) (t : Int32) : Int32 := if 0 ≤ t ∧ t < nI s then I (a + 2 + j) t.toNatClampNeg else 0
/-- the first place of f that holds x, among n from i on -/
def fnd (f : Nat → Int32) (x : Int32) : Nat → Nat → Int32
  | 0, _ => -1
  | n + 1, i => if f i = x then nI i else fnd f x n (i + 1)
section MRows
variable {l : Launch} {G : GG} {d : Nat} {I : IM} {J : JM} {K : Kt} {Q : Option Value → Hp → Prop} {a w m s : Nat}
theorem c4_isFull (hR : isRows K a w m) (hm : I a 0 = nI m) (hz : I a 2 = nI s) (hs : s ≤ m) : Cp l G d m4_isFull [.ref a] (I, J, K) (.int (bI (decide (m ≤ s)))) := by
  obtain ⟨h4, hp, h24, hpj, h20, hw0, hw8, hm64⟩ := hR
  refine Cp.of ok4_isFull rfl (rfl : argL _ _ = [.ref a]) ?_
  refine e_aload_n rfl rfl ?_
  refine e_getI rfl f4_20 (by assumption) rfl ?_
  refine e_aload_n rfl rfl ?_
  refine e_getI rfl f4_9 (by assumption) rfl ?_
  rw [hm, hz]
  first | refine e_icmp_ltN (tgt := 15) rfl rfl (by omega) (by omega) (fun z => ?_) (fun z => ?_) | refine e_icmp_lt (tgt := 15) rfl rfl (fun z => ?_) (fun z => ?_)
  · refine e_iconst (v := nI 0) rfl ic_0N ?_
    refine e_zreturn rfl rfl ?_ ?_
    · exact Or.inl rfl
    · rw [decide_eq_false (by omega)]; exact ⟨rfl, rfl⟩
  · refine e_iconst (v := nI 1) rfl ic_1N ?_
    refine e_goto (tgt := 16) rfl rfl ?_
    refine e_zreturn rfl rfl ?_ ?_
    · exact Or.inr rfl
    · rw [decide_eq_true (by omega)]; exact ⟨rfl, rfl⟩
theorem c4_has (h4 : (K.2.1 a).1 = 4) (t : Int32) : Cp l G d m4_has [.ref a, .int t] (I, J, K) (.int (bI (decide (0 ≤ t ∧ t < I a 2)))) := by
  refine Cp.of ok4_has rfl (rfl : argL _ _ = [.ref a, .int t]) ?_
  refine e_iload_n rfl rfl ?_
  first | refine e_if_ltN (tgt := 16) rfl rfl (by omega) ?_ | refine e_if_lt (tgt := 16) rfl rfl (fun z => ?_) (fun z => ?_)
  · refine e_iconst (v := nI 0) rfl ic_0N ?_
    refine e_zreturn rfl rfl ?_ ?_
    · exact Or.inl rfl
    · rw [decide_eq_false (fun q => absurd z (Int32.not_lt.mpr q.1))]; exact ⟨rfl, rfl⟩
  · refine e_iload_n rfl rfl ?_
    refine e_aload_n rfl rfl ?_
    refine e_getI rfl f4_20 (by assumption) rfl ?_
    first | refine e_icmp_geN (tgt := 16) rfl rfl (by omega) (by omega) (fun z => ?_) (fun z => ?_) | refine e_icmp_ge (tgt := 16) rfl rfl (fun z => ?_) (fun z => ?_)
    · refine e_iconst (v := nI 0) rfl ic_0N ?_
      refine e_zreturn rfl rfl ?_ ?_
      · exact Or.inl rfl
      · rw [decide_eq_false (fun q => absurd q.2 (Int32.not_lt.mpr (by assumption)))]; exact ⟨rfl, rfl⟩
    · refine e_iconst (v := nI 1) rfl ic_1N ?_
      refine e_goto (tgt := 17) rfl rfl ?_
      refine e_zreturn rfl rfl ?_ ?_
      · exact Or.inr rfl
      · rw [decide_eq_true ⟨Int32.not_lt.mp (by assumption), Int32.not_le.mp (by assumption)⟩]; exact ⟨rfl, rfl⟩
theorem c4_column (hR : isRows K a w m) {j : Nat} (hj : j < w) : Cp l G d m4_column [.ref a, .int (nI j)] (I, J, K) (.ref (a + 2 + j)) := by
  obtain ⟨h4, hp, h24, hpj, h20, hw0, hw8, hm64⟩ := hR
  refine Cp.of ok4_column rfl (rfl : argL _ _ = [.ref a, .int (nI j)]) ?_
  refine e_aload_n rfl rfl ?_
  refine e_getP rfl f4_17 (by assumption) rfl (by assumption) ?_
  refine e_iload_n rfl rfl ?_
  first | refine e_if_ltN (tgt := 21) rfl rfl (by omega) ?_ | refine e_if_lt (tgt := 21) rfl rfl (fun z => ?_) (fun z => ?_)
  refine e_iload_n rfl rfl ?_
  refine e_aload_n rfl rfl ?_
  refine e_getP rfl f4_17 (by assumption) rfl (by assumption) ?_
  refine e_alen (v := nI _) rfl (by assumption) rfl rfl rfl ?_
  first | refine e_icmp_geN (tgt := 21) rfl rfl (by omega) (by omega) (fun z => ?_) (fun z => ?_) | refine e_icmp_ge (tgt := 21) rfl rfl (fun z => ?_) (fun z => ?_)
  · omega
  · have hq := hpj j hj
    refine e_iload_n rfl rfl ?_
    refine e_goto (tgt := 22) rfl rfl ?_
    first | refine e_aaloadN rfl (by assumption) (by omega) (by omega) (by first | assumption | apply_assumption) ?_ | (refine e_aaload rfl (by assumption) ?_ ?_ ?_; rotate_left 2)
    refine e_areturn rfl rfl (Or.inr ⟨_, rfl⟩) ?_
    exact ⟨rfl, rfl⟩
theorem c4_at (hR : isRows K a w m) (hz : I a 2 = nI s) (hs : s ≤ m) {j : Nat} (hj : j < w) (t : Int32) : Cp l G (d + 1) m4_at [.ref a, .int t, .int (nI j)] (I, J, K) (.int (rAt I a s j t)) := by
  have h4 := hR.1
  have h20 := hR.2.2.2.2.1 j hj
  refine Cp.of ok4_at rfl (rfl : argL _ _ = [.ref a, .int t, .int (nI j)]) ?_
  refine e_aload_n rfl rfl ?_
  refine e_iload_n rfl rfl ?_
  refine e_callVp (kd := 4) (M2 := m4_has) rfl v4_23 ok4_has (c4_has h4 t) rfl (by assumption) rfl rfl rfl rfl ?_
  first | refine e_if_eqB (tgt := 18) rfl rfl (fun z => ?_) (fun z => ?_) | refine e_if_eqN (tgt := 18) rfl rfl (by omega) (fun z => ?_) (fun z => ?_) | refine e_if_eq (tgt := 18) rfl rfl (fun z => ?_) (fun z => ?_)
  · refine e_iconst (v := nI 0) rfl ic_0N ?_
    refine e_ireturn rfl rfl ?_
    rw [hz] at z
    exact ⟨by rw [rAt, if_neg (of_decide_eq_false z)]; rfl, rfl⟩
  · rw [hz] at z
    have z := of_decide_eq_true z
    refine e_aload_n rfl rfl ?_
    refine e_iload_n rfl rfl ?_
    refine e_callVp (kd := 4) (M2 := m4_column) rfl v4_27 ok4_column (c4_column hR hj) rfl (by assumption) rfl rfl rfl rfl ?_
    refine e_iload_n rfl rfl ?_
    first | refine e_ialoadN rfl (by assumption) (by omega) (by omega) ?_ | (refine e_iaload rfl (by assumption) ?_ ?_; rotate_left)
    refine e_goto (tgt := 19) rfl rfl ?_
    refine e_ireturn rfl rfl ?_
    · exact ⟨by rw [rAt, if_pos z], rfl⟩
    · obtain ⟨i, hi, rfl⟩ := nI_of (Int32.not_lt.mpr z.1)
      have h64 := hR.2.2.2.2.2.2.2
      exact vp_in_nI (Nat.lt_of_lt_of_le ((nI_ltI hi (by omega)).mp z.2) hs) (by omega)
theorem c4_add (hR : isRows K a w m) (hm : I a 0 = nI m) (hz : I a 2 = nI s) (hs : s ≤ m) : Cw l G (d + 1) m4_add [.ref a] (I, J, K) (fun r h' => r = none ∧ h' = (if m ≤ s then I else u2 I a 2 (nI (s + 1)), J, K)) := by
  have h4 := hR.1
  refine Cw.of ok4_add rfl (rfl : argL _ _ = [.ref a]) ?_
  refine e_aload_n rfl rfl ?_
  refine e_callVp (kd := 4) (M2 := m4_isFull) rfl v4_31 ok4_isFull (c4_isFull hR hm hz hs) rfl (by assumption) rfl rfl rfl rfl ?_
  first | refine e_if_neB (tgt := 17) rfl rfl (fun z => ?_) (fun z => ?_) | refine e_if_neN (tgt := 17) rfl rfl (by omega) (fun z => ?_) (fun z => ?_) | refine e_if_ne (tgt := 17) rfl rfl (fun z => ?_) (fun z => ?_)
  · have z := of_decide_eq_true z
    refine e_return rfl rfl ?_
    rw [if_pos z]
    exact ⟨rfl, rfl⟩
  · have z := of_decide_eq_false z
    refine e_aload_n rfl rfl ?_
    refine e_dup rfl rfl ?_
    refine e_getI rfl f4_20 (by assumption) rfl ?_
    rw [hz]
    refine e_iconst (v := nI 1) rfl ic_1N ?_
    first | refine e_iaddN rfl ?_ | refine e_iadd rfl ?_
    refine e_putI rfl f4_20 (by assumption) rfl rfl ?_
    refine e_return rfl rfl ?_
    rw [if_neg z]
    exact ⟨rfl, rfl⟩
theorem c4_set (hR : isRows K a w m) (hz : I a 2 = nI s) (hs : s ≤ m) {j : Nat} (hj : j < w) (v : Int32) : Cw l G (d + 1) m4_set [.ref a, .int (nI j), .int v] (I, J, K) (fun r h' => r = none ∧ h' = (if s = 0 then I else u2 I (a + 2 + j) (s - 1) v, J, K)) := by
  have h4 := hR.1
  have h20 := hR.2.2.2.2.1 j hj
  have h64 := hR.2.2.2.2.2.2.2
  refine Cw.of ok4_set rfl (rfl : argL _ _ = [.ref a, .int (nI j), .int v]) ?_
  refine e_aload_n rfl rfl ?_
  refine e_getI rfl f4_20 (by assumption) rfl ?_
  rw [hz]
  first | refine e_if_leN (tgt := 20) rfl rfl (by omega) (fun z => ?_) (fun z => ?_) | refine e_if_le (tgt := 20) rfl rfl (fun z => ?_) (fun z => ?_)
  · refine e_return rfl rfl ?_
    rw [if_pos z]
    exact ⟨rfl, rfl⟩
  · refine e_aload_n rfl rfl ?_
    refine e_iload_n rfl rfl ?_
    refine e_callVp (kd := 4) (M2 := m4_column) rfl v4_27 ok4_column (c4_column hR hj) rfl (by assumption) rfl rfl rfl rfl ?_
    refine e_aload_n rfl rfl ?_
    refine e_getI rfl f4_20 (by assumption) rfl ?_
    rw [hz]
    refine e_iconst (v := nI 1) rfl ic_1N ?_
    first | refine e_isubN rfl (by omega) ?_ | refine e_isub rfl ?_
    refine e_iload_n rfl rfl ?_
    first | refine e_iastoreN rfl (by assumption) (by omega) (by omega) ?_ | (refine e_iastore rfl (by assumption) ?_ ?_; rotate_left)
    refine e_return rfl rfl ?_
    rw [if_neg (by omega)]
    exact ⟨rfl, rfl⟩
theorem rowOf_loop (h4 : (K.2.1 a).1 = 4) (h20 : K.2.1 (a + 2) = (20, m)) (hz : I a 2 = nI s) (hs : s ≤ m) (hm : m ≤ 64) (x : Int32) : ∀ k i, i + k = s → Q (some (.int (fnd (I (a + 2)) x k i))) (I, J, K) → Gw l G d m4_rowOf 8 [.ref a, .int x, .ref (a + 2), .int (nI i)] [] (I, J, K) Q := by
  intro k
  induction k with
  | zero =>
    intro i hi hq
    refine e_iload_n rfl rfl ?_
    refine e_aload_n rfl rfl ?_
    refine e_getI rfl f4_20 (by assumption) rfl ?_
    rw [hz]
    first | refine e_icmp_geN (tgt := 31) rfl rfl (by omega) (by omega) (fun z => ?_) (fun z => ?_) | refine e_icmp_ge (tgt := 31) rfl rfl (fun z => ?_) (fun z => ?_)
    · refine e_iconst rfl ic_m1 ?_
      refine e_ireturn rfl rfl ?_
      exact hq
    · omega
  | succ k ih =>
    intro i hi hq
    refine e_iload_n rfl rfl ?_
    refine e_aload_n rfl rfl ?_
    refine e_getI rfl f4_20 (by assumption) rfl ?_
    rw [hz]
    first | refine e_icmp_geN (tgt := 31) rfl rfl (by omega) (by omega) (fun z => ?_) (fun z => ?_) | refine e_icmp_ge (tgt := 31) rfl rfl (fun z => ?_) (fun z => ?_)
    · omega
    · refine e_aload_n rfl rfl ?_
      refine e_iload_n rfl rfl ?_
      first | refine e_ialoadN rfl (by assumption) (by omega) (by omega) ?_ | (refine e_iaload rfl (by assumption) ?_ ?_; rotate_left)
      refine e_iload_n rfl rfl ?_
      first | refine e_icmp_neN (tgt := 25) rfl rfl (by omega) (by omega) (fun z => ?_) (fun z => ?_) | refine e_icmp_ne (tgt := 25) rfl rfl (fun z => ?_) (fun z => ?_)
      · first | refine e_inc3 rfl rfl rfl (incN1 _) ?_ | refine e_inc3 rfl rfl rfl rfl ?_
        refine e_goto (tgt := 8) rfl rfl ?_
        refine ih (i + 1) (by omega) ?_
        rw [fnd, if_neg (by assumption)] at hq
        exact hq
      · refine e_iload_n rfl rfl ?_
        refine e_ireturn rfl rfl ?_
        rw [fnd, if_pos (by assumption)] at hq
        exact hq
theorem c4_rowOf (hR : isRows K a w m) (hz : I a 2 = nI s) (hs : s ≤ m) (x : Int32) : Cp l G (d + 1) m4_rowOf [.ref a, .int x] (I, J, K) (.int (fnd (I (a + 2)) x s 0)) := by
  have h4 := hR.1
  have h20 := hR.2.2.2.2.1 0 hR.2.2.2.2.2.1
  have h64 := hR.2.2.2.2.2.2.2
  refine Cp.of ok4_rowOf rfl (rfl : argL _ _ = [.ref a, .int x, .null, .null]) ?_
  refine e_aload_n rfl rfl ?_
  refine e_iconst (v := nI 0) rfl ic_0N ?_
  refine e_callVp (kd := 4) (M2 := m4_column) rfl v4_27 ok4_column (c4_column hR hR.2.2.2.2.2.1) rfl (by assumption) rfl rfl rfl rfl ?_
  refine e_ast2 rfl rfl rfl ?_
  refine e_iconst (v := nI 0) rfl ic_0N ?_
  refine e_ist3 rfl rfl rfl ?_
  exact rowOf_loop h4 h20 hz hs h64 x s 0 (by omega) ⟨rfl, rfl⟩
/-- the columns from j on move one row up -/
theorem dropFirst_loop (hR : isRows K a w m) (hs : s + 1 ≤ m) : ∀ k j I, j + k = w → I a 2 = nI s → (∀ I', (∀ b, (b < a + 2 + j ∨ a + 1 + w < b) → I' b = I b) → (∀ c, j ≤ c → c < w → ∀ i, i < s → I' (a + 2 + c) i = I (a + 2 + c) (i + 1)) → Q none (I', J, K)) → ∀ v, Gw l G (d + 1) m4_dropFirst 27 [.ref a, .ref (a + 1), .int (nI w), .int (nI j), v] [] (I, J, K) Q := by
  obtain ⟨h4, hp, h24, hpj, h20, hw0, hw8, hm64⟩ := hR
  intro k
  induction k with
  | zero =>
    intro j I hj hz hq v
    refine e_iload_n rfl rfl ?_
    refine e_iload_n rfl rfl ?_
    first | refine e_icmp_geN (tgt := 56) rfl rfl (by omega) (by omega) (fun z => ?_) (fun z => ?_) | refine e_icmp_ge (tgt := 56) rfl rfl (fun z => ?_) (fun z => ?_)
    · refine e_return rfl rfl ?_
      exact hq I (fun _ _ => rfl) (fun c h1 h2 => by omega)
    · omega
  | succ k ih =>
    intro j I hj hz hq v
    refine e_iload_n rfl rfl ?_
    refine e_iload_n rfl rfl ?_
    first | refine e_icmp_geN (tgt := 56) rfl rfl (by omega) (by omega) (fun z => ?_) (fun z => ?_) | refine e_icmp_ge (tgt := 56) rfl rfl (fun z => ?_) (fun z => ?_)
    · omega
    · have hq0 := hpj j (by omega)
      have h20j := h20 j (by omega)
      have c0 : (nI 0).toNatClampNeg = 0 := nI_clamp (by omega)
      have c1 : (nI 1).toNatClampNeg = 1 := nI_clamp (by omega)
      have cs : (nI s).toNatClampNeg = s := nI_clamp (by omega)
      refine e_aload_n rfl rfl ?_
      refine e_iload_n rfl rfl ?_
      first | refine e_aaloadN rfl (by assumption) (by omega) (by omega) (by first | assumption | apply_assumption) ?_ | (refine e_aaload rfl (by assumption) ?_ ?_ ?_; rotate_left 2)
      refine e_ast4 rfl rfl rfl ?_
      refine e_aload rfl rfl ?_
      refine e_iconst (v := nI 1) rfl ic_1N ?_
      refine e_aload rfl rfl ?_
      refine e_iconst (v := nI 0) rfl ic_0N ?_
      refine e_aload_n rfl rfl ?_
      refine e_getI rfl f4_20 (by assumption) rfl ?_
      rw [hz]
      refine e_copy rfl v4_35 (by assumption) (by assumption) (nI_pos (by omega)) (nI_pos (by omega)) (nI_pos (by omega)) (by rw [c1, cs]; omega) (by rw [c0, cs]; omega) rfl ?_
      first | refine e_inc3 rfl rfl rfl (incN1 _) ?_ | refine e_inc3 rfl rfl rfl rfl ?_
      refine e_goto (tgt := 27) rfl rfl ?_
      rw [c0, c1, cs]
      refine ih (j + 1) _ (by omega) ?_ ?_ _
      · rw [uR_ne _ _ (by omega)]
        exact hz
      · intro I' e1 e2
        refine hq I' (fun b hb => ?_) (fun c h1 h2 i hi => ?_)
        · rw [e1 b (by omega), uR_ne _ _ (by omega)]
        · by_cases hc : c = j
          · subst hc
            rw [e1 (a + 2 + c) (by omega), uR_at, pk_cpy_in (by omega) (by omega)]
            congr 1
            omega
          · rw [e2 c (by omega) h2 i hi, uR_ne _ _ (by omega)]
theorem c4_dropFirst (hR : isRows K a w m) (hz : I a 2 = nI (s + 1)) (hs : s + 1 ≤ m) : Cw l G (d + 1) m4_dropFirst [.ref a] (I, J, K) (fun r h' => r = none ∧ ∃ I', h' = (I', J, K) ∧ I' a = u2 I a 2 (nI s) a ∧ (∀ b, (b < a ∨ a + 1 + w < b) → I' b = I b) ∧ ∀ c, c < w → ∀ i, i < s → I' (a + 2 + c) i = I (a + 2 + c) (i + 1)) := by
  have h4 := hR.1
  have hp := hR.2.1
  have h24 := hR.2.2.1
  have h64 := hR.2.2.2.2.2.2.2
  refine Cw.of ok4_dropFirst rfl (rfl : argL _ _ = [.ref a, .null, .null, .null, .null]) ?_
  refine e_aload_n rfl rfl ?_
  refine e_getI rfl f4_20 (by assumption) rfl ?_
  rw [hz]
  first | refine e_if_leN (tgt := 56) rfl rfl (by omega) (fun z => ?_) (fun z => ?_) | refine e_if_le (tgt := 56) rfl rfl (fun z => ?_) (fun z => ?_)
  · omega
  · refine e_aload_n rfl rfl ?_
    refine e_dup rfl rfl ?_
    refine e_getI rfl f4_20 (by assumption) rfl ?_
    rw [hz]
    refine e_iconst (v := nI 1) rfl ic_1N ?_
    first | refine e_isubN rfl (by omega) ?_ | refine e_isub rfl ?_
    refine e_putI rfl f4_20 (by assumption) rfl rfl ?_
    refine e_aload_n rfl rfl ?_
    refine e_getP rfl f4_17 (by assumption) rfl (by assumption) ?_
    refine e_ast1 rfl rfl rfl ?_
    refine e_aload_n rfl rfl ?_
    refine e_alen (v := nI _) rfl (by assumption) rfl rfl rfl ?_
    refine e_ist2 rfl rfl rfl ?_
    refine e_iconst (v := nI 0) rfl ic_0N ?_
    refine e_ist3 rfl rfl rfl ?_
    refine dropFirst_loop hR hs w 0 _ (by omega) (u2_at _ _ _ _) ?_ _
    intro I' e1 e2
    refine ⟨rfl, I', rfl, e1 a (by omega), fun b hb => ?_, fun c hc i hi => ?_⟩
    · rw [e1 b (by omega), u2_row _ _ (by omega)]
    · rw [e2 c (by omega) hc i hi, u2_ne _ _ (by omega)]
theorem takeR_loop {o : Nat} (hR : isRows K a w m) (hO : isRows K o w m) (hd : a + 2 + w ≤ o ∨ o + 2 + w ≤ a) (hs : s ≤ m) : ∀ k j I, j + k = w → I a 2 = nI s → (∀ I', (∀ b, (b < a + 2 + j ∨ a + 1 + w < b) → I' b = I b) → (∀ c, j ≤ c → c < w → ∀ i, i < s → I' (a + 2 + c) i = I (o + 2 + c) i) → Q none (I', J, K)) → Gw l G (d + 1) m4_take 17 [.ref a, .ref o, .int (nI j)] [] (I, J, K) Q := by
  obtain ⟨h4, hp, h24, hpj, h20, hw0, hw8, hm64⟩ := hR
  intro k
  induction k with
  | zero =>
    intro j I hj hz hq
    refine e_iload_n rfl rfl ?_
    refine e_aload_n rfl rfl ?_
    refine e_getP rfl f4_17 (by assumption) rfl (by assumption) ?_
    refine e_alen (v := nI _) rfl (by assumption) rfl rfl rfl ?_
    first | refine e_icmp_geN (tgt := 52) rfl rfl (by omega) (by omega) (fun z => ?_) (fun z => ?_) | refine e_icmp_ge (tgt := 52) rfl rfl (fun z => ?_) (fun z => ?_)
    · refine e_return rfl rfl ?_
      exact hq I (fun _ _ => rfl) (fun c h1 h2 => by omega)
    · omega
  | succ k ih =>
    intro j I hj hz hq
    refine e_iload_n rfl rfl ?_
    refine e_aload_n rfl rfl ?_
    refine e_getP rfl f4_17 (by assumption) rfl (by assumption) ?_
    refine e_alen (v := nI _) rfl (by assumption) rfl rfl rfl ?_
    first | refine e_icmp_geN (tgt := 52) rfl rfl (by omega) (by omega) (fun z => ?_) (fun z => ?_) | refine e_icmp_ge (tgt := 52) rfl rfl (fun z => ?_) (fun z => ?_)
    · omega
    · have hq0 := hpj j (by omega)
      have h20j := h20 j (by omega)
      have h20o := hO.2.2.2.2.1 j (by omega)
      have h4o := hO.1
      have c0 : (nI 0).toNatClampNeg = 0 := nI_clamp (by omega)
      have cs : (nI s).toNatClampNeg = s := nI_clamp (by omega)
      refine e_aload_n rfl rfl ?_
      refine e_iload_n rfl rfl ?_
      refine e_callVp (kd := 4) (M2 := m4_column) rfl v4_27 ok4_column (c4_column hO (by omega)) rfl (by assumption) rfl rfl rfl rfl ?_
      refine e_iconst (v := nI 0) rfl ic_0N ?_
      refine e_aload_n rfl rfl ?_
      refine e_getP rfl f4_17 (by assumption) rfl (by assumption) ?_
      refine e_iload_n rfl rfl ?_
      first | refine e_aaloadN rfl (by assumption) (by omega) (by omega) (by first | assumption | apply_assumption) ?_ | (refine e_aaload rfl (by assumption) ?_ ?_ ?_; rotate_left 2)
      refine e_iconst (v := nI 0) rfl ic_0N ?_
      refine e_aload_n rfl rfl ?_
      refine e_getI rfl f4_20 (by assumption) rfl ?_
      rw [hz]
      refine e_copy rfl v4_35 (by assumption) (by assumption) (nI_pos (by omega)) (nI_pos (by omega)) (nI_pos (by omega)) (by rw [c0, cs]; omega) (by rw [c0, cs]; omega) rfl ?_
      first | refine e_inc2 rfl rfl rfl (incN1 _) ?_ | refine e_inc2 rfl rfl rfl rfl ?_
      refine e_goto (tgt := 17) rfl rfl ?_
      rw [c0, cs]
      refine ih (j + 1) _ (by omega) ?_ ?_
      · rw [uR_ne _ _ (by omega)]
        exact hz
      · intro I' e1 e2
        refine hq I' (fun b hb => ?_) (fun c h1 h2 i hi => ?_)
        · rw [e1 b (by omega), uR_ne _ _ (by omega)]
        · by_cases hc : c = j
          · subst hc
            rw [e1 (a + 2 + c) (by omega), uR_at, pk_cpy_in (by omega) (by omega)]
            congr 1
            omega
          · rw [e2 c (by omega) h2 i hi, uR_ne _ _ (by omega)]
theorem c4_take {o : Nat} (hR : isRows K a w m) (hO : isRows K o w m) (hd : a + 2 + w ≤ o ∨ o + 2 + w ≤ a) (hm : I a 0 = nI m) (hz : I o 2 = nI s) (hs : s ≤ m) : Cw l G (d + 1) m4_take [.ref a, .ref o] (I, J, K) (fun r h' => r = none ∧ ∃ I', h' = (I', J, K) ∧ I' a = u2 I a 2 (nI s) a ∧ (∀ b, (b < a ∨ a + 1 + w < b) → I' b = I b) ∧ ∀ c, c < w → ∀ i, i < s → I' (a + 2 + c) i = I (o + 2 + c) i) := by
  have h4 := hR.1
  have h4o := hO.1
  have h64 := hR.2.2.2.2.2.2.2
  refine Cw.of ok4_take rfl (rfl : argL _ _ = [.ref a, .ref o, .null]) ?_
  refine e_aload_n rfl rfl ?_
  refine e_aload_n rfl rfl ?_
  refine e_getI rfl f4_9 (by assumption) rfl ?_
  refine e_aload_n rfl rfl ?_
  refine e_getI rfl f4_20 (by assumption) rfl ?_
  refine e_min rfl v4_41 rfl ?_
  rw [hm, hz]
  have hmin : (if nI s < nI m then nI s else nI m) = nI s := by
    by_cases e : s < m
    · rw [if_pos ((nI_ltI (by omega) (by omega)).mpr e)]
    · rw [if_neg (fun q => e ((nI_ltI (by omega) (by omega)).mp q)), show m = s by omega]
  rw [hmin]
  refine e_putI rfl f4_20 (by assumption) rfl rfl ?_
  refine e_iconst (v := nI 0) rfl ic_0N ?_
  refine e_ist2 rfl rfl rfl ?_
  refine takeR_loop hR hO hd hs w 0 _ (by omega) (u2_at _ _ _ _) ?_
  intro I' e1 e2
  refine ⟨rfl, I', rfl, e1 a (by omega), fun b hb => ?_, fun c hc i hi => ?_⟩
  · rw [e1 b (by omega), u2_row _ _ (by omega)]
  · rw [e2 c (by omega) hc i hi, u2_ne _ _ (by omega)]
end MRows
