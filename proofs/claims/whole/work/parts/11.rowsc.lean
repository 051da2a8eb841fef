/-! ===== Rows: numbers in rows ===== -/
/-- a Rows at a: w columns of m places -/
def isRows (K : Kt) (a w m : Nat) : Prop := (K.2.1 a).1 = 4 ∧ K.1 a 1 = some (a + 1) ∧ K.2.1 (a + 1) = (24, w) ∧ (∀ j, j < w → K.1 (a + 1) j = some (a + 2 + j)) ∧ (∀ j, j < w → K.2.1 (a + 2 + j) = (20, m)) ∧ 0 < w ∧ w ≤ 8 ∧ m ≤ 64
/-- the row at t of column j, 0 if there is none -/
def rAt (I : IM) (a s j : Nat) (t : Int32) : Int32 := if 0 ≤ t ∧ t < nI s then I (a + 2 + j) t.toNatClampNeg else 0
/-- the first place of f that holds x, among n from i on -/
def fnd (f : Nat → Int32) (x : Int32) : Nat → Nat → Int32
  | 0, _ => -1
  | n + 1, i => if f i = x then nI i else fnd f x n (i + 1)
section MRows
variable {l : Launch} {G : GG} {d : Nat} {I : IM} {J : JM} {K : Kt} {Q : Option Value → Hp → Prop} {a w m s : Nat}
theorem c4_isFull (hR : isRows K a w m) (hm : I a 0 = nI m) (hz : I a 2 = nI s) (hs : s ≤ m) : Cp l G d m4_isFull [.ref a] (I, J, K) (.int (bI (decide (m ≤ s)))) := by
  obtain ⟨h4, hp, h24, hpj, h20, hw0, hw8, hm64⟩ := hR
  refine Cp.of ok4_isFull rfl (rfl : argL _ _ = [.ref a]) ?_
  refine e_aload_n rfl rfl ?_
  refine e_getI rfl f4_20 (by assumption) rfl ?_
  refine e_aload_n rfl rfl ?_
  refine e_getI rfl f4_9 (by assumption) rfl ?_
  rw [hm, hz]
  first | refine e_icmp_ltN (tgt := 15) rfl rfl (by omega) (by omega) (fun z => ?_) (fun z => ?_) | refine e_icmp_lt (tgt := 15) rfl rfl (fun z => ?_) (fun z => ?_)
  · refine e_iconst (v := nI 0) rfl ic_0N ?_
    refine e_zreturn rfl rfl ?_ ?_
    · exact Or.inl rfl
    · rw [decide_eq_false (by omega)]; exact ⟨rfl, rfl⟩
  · refine e_iconst (v := nI 1) rfl ic_1N ?_
    refine e_goto (tgt := 16) rfl rfl ?_
    refine e_zreturn rfl rfl ?_ ?_
    · exact Or.inr rfl
    · rw [decide_eq_true (by omega)]; exact ⟨rfl, rfl⟩
theorem c4_has (h4 : (K.2.1 a).1 = 4) (t : Int32) : Cp l G d m4_has [.ref a, .int t] (I, J, K) (.int (bI (decide (0 ≤ t ∧ t < I a 2)))) := by
  refine Cp.of ok4_has rfl (rfl : argL _ _ = [.ref a, .int t]) ?_
  refine e_iload_n rfl rfl ?_
  first | refine e_if_ltN (tgt := 16) rfl rfl (by omega) ?_ | refine e_if_lt (tgt := 16) rfl rfl (fun z => ?_) (fun z => ?_)
  · refine e_iconst (v := nI 0) rfl ic_0N ?_
    refine e_zreturn rfl rfl ?_ ?_
    · exact Or.inl rfl
    · rw [decide_eq_false (fun q => absurd z (Int32.not_lt.mpr q.1))]; exact ⟨rfl, rfl⟩
  · refine e_iload_n rfl rfl ?_
    refine e_aload_n rfl rfl ?_
    refine e_getI rfl f4_20 (by assumption) rfl ?_
    first | refine e_icmp_geN (tgt := 16) rfl rfl (by omega) (by omega) (fun z => ?_) (fun z => ?_) | refine e_icmp_ge (tgt := 16) rfl rfl (fun z => ?_) (fun z => ?_)
    · refine e_iconst (v := nI 0) rfl ic_0N ?_
      refine e_zreturn rfl rfl ?_ ?_
      · exact Or.inl rfl
      · rw [decide_eq_false (fun q => absurd q.2 (Int32.not_lt.mpr (by assumption)))]; exact ⟨rfl, rfl⟩
    · refine e_iconst (v := nI 1) rfl ic_1N ?_
      refine e_goto (tgt := 17) rfl rfl ?_
      refine e_zreturn rfl rfl ?_ ?_
      · exact Or.inr rfl
      · rw [decide_eq_true ⟨Int32.not_lt.mp (by assumption), Int32.not_le.mp (by assumption)⟩]; exact ⟨rfl, rfl⟩
theorem c4_column (hR : isRows K a w m) {j : Nat} (hj : j < w) : Cp l G d m4_column [.ref a, .int (nI j)] (I, J, K) (.ref (a + 2 + j)) := by
  obtain ⟨h4, hp, h24, hpj, h20, hw0, hw8, hm64⟩ := hR
  refine Cp.of ok4_column rfl (rfl : argL _ _ = [.ref a, .int (nI j)]) ?_
  refine e_aload_n rfl rfl ?_
  refine e_getP rfl f4_17 (by assumption) rfl (by assumption) ?_
  refine e_iload_n rfl rfl ?_
  first | refine e_if_ltN (tgt := 21) rfl rfl (by omega) ?_ | refine e_if_lt (tgt := 21) rfl rfl (fun z => ?_) (fun z => ?_)
  refine e_iload_n rfl rfl ?_
  refine e_aload_n rfl rfl ?_
  refine e_getP rfl f4_17 (by assumption) rfl (by assumption) ?_
  refine e_alen (v := nI _) rfl (by assumption) rfl rfl rfl ?_
  first | refine e_icmp_geN (tgt := 21) rfl rfl (by omega) (by omega) (fun z => ?_) (fun z => ?_) | refine e_icmp_ge (tgt := 21) rfl rfl (fun z => ?_) (fun z => ?_)
  · omega
  · have hq := hpj j hj
    refine e_iload_n rfl rfl ?_
    refine e_goto (tgt := 22) rfl rfl ?_
    first | refine e_aaloadN rfl (by assumption) (by omega) (by omega) (by first | assumption | apply_assumption) ?_ | (refine e_aaload rfl (by assumption) ?_ ?_ ?_; rotate_left 2)
    refine e_areturn rfl rfl (Or.inr ⟨_, rfl⟩) ?_
    exact ⟨rfl, rfl⟩
theorem c4_at (hR : isRows K a w m) (hz : I a 2 = nI s) (hs : s ≤ m) {j : Nat} (hj : j < w) (t : Int32) : Cp l G (d + 1) m4_at [.ref a, .int t, .int (nI j)] (I, J, K) (.int (rAt I a s j t)) := by
  have h4 := hR.1
  have h20 := hR.2.2.2.2.1 j hj
  refine Cp.of ok4_at rfl (rfl : argL _ _ = [.ref a, .int t, .int (nI j)]) ?_
  refine e_aload_n rfl rfl ?_
  refine e_iload_n rfl rfl ?_
  refine e_callVp (kd := 4) (M2 := m4_has) rfl v4_23 ok4_has (c4_has h4 t) rfl (by assumption) rfl rfl rfl rfl ?_
  first | refine e_if_eqB (tgt := 18) rfl rfl (fun z => ?_) (fun z => ?_) | refine e_if_eqN (tgt := 18) rfl rfl (by omega) (fun z => ?_) (fun z => ?_) | refine e_if_eq (tgt := 18) rfl rfl (fun z => ?_) (fun z => ?_)
  · refine e_iconst (v := nI 0) rfl ic_0N ?_
    refine e_ireturn rfl rfl ?_
    rw [hz] at z
    exact ⟨by rw [rAt, if_neg (of_decide_eq_false z)]; rfl, rfl⟩
  · rw [hz] at z
    have z := of_decide_eq_true z
    refine e_aload_n rfl rfl ?_
    refine e_iload_n rfl rfl ?_
    refine e_callVp (kd := 4) (M2 := m4_column) rfl v4_27 ok4_column (c4_column hR hj) rfl (by assumption) rfl rfl rfl rfl ?_
    refine e_iload_n rfl rfl ?_
    first | refine e_ialoadN rfl (by assumption) (by omega) (by omega) ?_ | (refine e_iaload rfl (by assumption) ?_ ?_; rotate_left)
    refine e_goto (tgt := 19) rfl rfl ?_
    refine e_ireturn rfl rfl ?_
    · exact ⟨by rw [rAt, if_pos z], rfl⟩
    · obtain ⟨i, hi, rfl⟩ := nI_of (Int32.not_lt.mpr z.1)
      have h64 := hR.2.2.2.2.2.2.2
      exact vp_in_nI (Nat.lt_of_lt_of_le ((nI_ltI hi (by omega)).mp z.2) hs) (by omega)
end MRows
