/-! ===== the reference: its reader ===== -/
/-- what lies here: a byte, or -1 at the end -/
def hrF (f : Nat → Nat) (n a : Nat) : Int32 := if a < n then nI (f a) else -1
section MTok
variable {l : Launch} {G : GG} {d : Nat} {I : IM} {J : JM} {K : Kt} {h : Hp} {Q : Option Value → Hp → Prop} {f : Nat → Nat} {n a : Nat}
theorem c10_here (hM : MK K) (hsz : I 102 23 = nI n) (hat : I 102 24 = nI a) (hn : n ≤ 700) (ha : a ≤ n) (hf : ∀ j, j < n → I 103 j = nI (f j)) : Cp l G d m10_here [.ref 102] (I, J, K) (.int (hrF f n a)) := by
  unfold hrF
  refine Cp.of ok10_here rfl (rfl : argL _ _ = [.ref 102]) ?_
  refine e_aload_n rfl rfl ?_
  refine e_getI rfl f10_157 hM.k rfl ?_
  rw [hat]
  refine e_aload_n rfl rfl ?_
  refine e_getI rfl f10_160 hM.k rfl ?_
  rw [hsz]
  first | refine e_icmp_geN (tgt := 23) rfl rfl (by omega) (by omega) (fun z => ?_) (fun z => ?_) | refine e_icmp_ge (tgt := 23) rfl rfl (fun z => ?_) (fun z => ?_)
  · rw [if_neg (by omega)]
    refine e_iconst rfl ic_m1 ?_
    refine e_ireturn rfl rfl ?_
    exact ⟨rfl, rfl⟩
  · have y : a < n := by assumption
    rw [if_pos y]
    refine e_aload_n rfl rfl ?_
    refine e_getP rfl f10_7 hM.k rfl hM.p1 ?_
    refine e_aload_n rfl rfl ?_
    refine e_getI rfl f10_157 hM.k rfl ?_
    rw [hat]
    first | refine e_ialoadN rfl hM.a1 (by omega) (by omega) ?_ | (refine e_iaload rfl hM.a1 ?_ ?_; rotate_left)
    rw [hf a y]
    refine e_goto (tgt := 24) rfl rfl ?_
    refine e_ireturn rfl rfl ?_
    exact ⟨rfl, rfl⟩
theorem c10_isSmall (c : Int32) : Cp l G d m10_isSmall [.int c] h (.int (bI (decide (nI 97 ≤ c ∧ c ≤ nI 122)))) := by
  refine Cp.of ok10_isSmall rfl (rfl : argL _ _ = [.int c]) ?_
  refine e_iload_n rfl rfl ?_
  refine e_bipush (v := nI 97) rfl bp_97N ?_
  refine e_icmp_lt (tgt := 16) rfl rfl (fun z => ?_) (fun z => ?_)
  · rw [decide_eq_false (fun q => absurd z (Int32.not_lt.mpr q.1))]
    refine e_iconst (v := nI 0) rfl ic_0N ?_
    refine e_zreturn rfl rfl ?_ ?_
    · exact Or.inl rfl
    · exact ⟨rfl, rfl⟩
  · refine e_iload_n rfl rfl ?_
    refine e_bipush (v := nI 122) rfl bp_122N ?_
    refine e_icmp_gt (tgt := 16) rfl rfl (fun y => ?_) (fun y => ?_)
    · rw [decide_eq_false (fun q => absurd y (Int32.not_lt.mpr q.2))]
      refine e_iconst (v := nI 0) rfl ic_0N ?_
      refine e_zreturn rfl rfl ?_ ?_
      · exact Or.inl rfl
      · exact ⟨rfl, rfl⟩
    · rw [decide_eq_true ⟨Int32.not_lt.mp z, Int32.not_lt.mp y⟩]
      refine e_iconst (v := nI 1) rfl ic_1N ?_
      refine e_goto (tgt := 17) rfl rfl ?_
      refine e_zreturn rfl rfl ?_ ?_
      · exact Or.inr rfl
      · exact ⟨rfl, rfl⟩
theorem c10_isDigit (c : Int32) : Cp l G d m10_isDigit [.int c] h (.int (bI (decide (nI 48 ≤ c ∧ c ≤ nI 57)))) := by
  refine Cp.of ok10_isDigit rfl (rfl : argL _ _ = [.int c]) ?_
  refine e_iload_n rfl rfl ?_
  refine e_bipush (v := nI 48) rfl bp_48N ?_
  refine e_icmp_lt (tgt := 16) rfl rfl (fun z => ?_) (fun z => ?_)
  · rw [decide_eq_false (fun q => absurd z (Int32.not_lt.mpr q.1))]
    refine e_iconst (v := nI 0) rfl ic_0N ?_
    refine e_zreturn rfl rfl ?_ ?_
    · exact Or.inl rfl
    · exact ⟨rfl, rfl⟩
  · refine e_iload_n rfl rfl ?_
    refine e_bipush (v := nI 57) rfl bp_57N ?_
    refine e_icmp_gt (tgt := 16) rfl rfl (fun y => ?_) (fun y => ?_)
    · rw [decide_eq_false (fun q => absurd y (Int32.not_lt.mpr q.2))]
      refine e_iconst (v := nI 0) rfl ic_0N ?_
      refine e_zreturn rfl rfl ?_ ?_
      · exact Or.inl rfl
      · exact ⟨rfl, rfl⟩
    · rw [decide_eq_true ⟨Int32.not_lt.mp z, Int32.not_lt.mp y⟩]
      refine e_iconst (v := nI 1) rfl ic_1N ?_
      refine e_goto (tgt := 17) rfl rfl ?_
      refine e_zreturn rfl rfl ?_ ?_
      · exact Or.inr rfl
      · exact ⟨rfl, rfl⟩
theorem hr_L {f : Nat → Nat} (h256 : ∀ j, f j < 256) : decide (nI 97 ≤ hrF f n a ∧ hrF f n a ≤ nI 122) = (decide (a < n) && isL (f a)) := by
  unfold hrF isL
  by_cases c : a < n
  · rw [if_pos c, decide_eq_true c, Bool.true_and]
    have := h256 a
    exact decide_eq_decide.mpr (by rw [nI_leI (by omega) (by omega), nI_leI (by omega) (by omega)])
  · rw [if_neg c, decide_eq_false c, Bool.false_and]
    decide
theorem hr_D {f : Nat → Nat} (h256 : ∀ j, f j < 256) : decide (nI 48 ≤ hrF f n a ∧ hrF f n a ≤ nI 57) = (decide (a < n) && isD (f a)) := by
  unfold hrF isD
  by_cases c : a < n
  · rw [if_pos c, decide_eq_true c, Bool.true_and]
    have := h256 a
    exact decide_eq_decide.mpr (by rw [nI_leI (by omega) (by omega), nI_leI (by omega) (by omega)])
  · rw [if_neg c, decide_eq_false c, Bool.false_and]
    decide
end MTok
