/-! ===== bits ===== -/
theorem sh_l : ∀ n, n < 32 → ((nI n &&& 31).toBitVec.smod 32).toNat = n := by decide
theorem bitOf_eq (b : Int32) {j : Nat} (hj : j < 32) : bitOf b (nI j) = b.toBitVec.getLsbD j := by
  unfold bitOf
  have e : ((b >>> (nI j &&& 31)) &&& nI 1).toBitVec = (b.toBitVec.sshiftRight j) &&& 1#32 := by
    rw [Int32.toBitVec_and, Int32.toBitVec_shiftRight, BitVec.sshiftRight', sh_l j hj]
    rfl
  have g0 : (b.toBitVec.sshiftRight j).getLsbD 0 = b.toBitVec.getLsbD j := by
    rw [BitVec.getLsbD_sshiftRight]
    simp [hj]
  rw [← g0]
  generalize b.toBitVec.sshiftRight j = x at e
  have h1 : ((b >>> (nI j &&& 31)) &&& nI 1 = 0) ↔ x.getLsbD 0 = false := by
    rw [← Int32.toBitVec_inj, e]
    constructor
    · intro h
      have := congrArg (fun v => BitVec.getLsbD v 0) h
      simpa using this
    · intro h
      apply BitVec.eq_of_getLsbD_eq
      intro i hi
      rw [BitVec.getLsbD_and]
      cases i with
      | zero => rw [h]; simp
      | succ i => simp
  cases hx : x.getLsbD 0 with
  | true => exact decide_eq_true (fun q => absurd (h1.mp q) (by rw [hx]; decide))
  | false => exact decide_eq_false (fun q => q (h1.mpr hx))
theorem bit_or (b : Int32) {i j : Nat} (hi : i < 32) (hj : j < 32) : bitOf (b ||| nI 1 <<< (nI i &&& 31)) (nI j) = (bitOf b (nI j) || decide (i = j)) := by
  rw [bitOf_eq _ hj, bitOf_eq _ hj, Int32.toBitVec_or, BitVec.getLsbD_or]
  congr 1
  rw [Int32.toBitVec_shiftLeft, BitVec.shiftLeft_eq', sh_l i hi, BitVec.getLsbD_shiftLeft]
  have e : (nI 1).toBitVec = 1#32 := rfl
  rw [e, BitVec.getLsbD_one]
  by_cases h : i = j
  · subst h; simp [hi]
  · simp only [h, decide_false]
    by_cases h2 : j < i
    · simp [h2]
    · have : j - i ≠ 0 := by omega
      simp [this]
theorem bit_0 {j : Nat} (hj : j < 32) : bitOf (nI 0) (nI j) = false := by
  rw [bitOf_eq _ hj]
  show (0#32).getLsbD j = false
  simp
theorem bitF_bit {f : Nat → Bool} : ∀ k i v j, i + k ≤ 32 → j < 32 → bitOf (bitF f i k v) (nI j) = (bitOf v (nI j) || (decide (i ≤ j ∧ j < i + k) && f j))
  | 0, i, v, j, _, _ => by
    rw [bitF, decide_eq_false (by omega), Bool.false_and, Bool.or_false]
  | k + 1, i, v, j, hi, hj => by
    rw [bitF, bitF_bit k (i + 1) _ j (by omega) hj]
    by_cases h : f i = true
    · rw [if_pos h, bit_or _ (by omega) hj]
      by_cases e : i = j
      · subst e
        simp [h]
      · have : (decide (i + 1 ≤ j ∧ j < i + 1 + k)) = decide (i ≤ j ∧ j < i + (k + 1)) := decide_eq_decide.mpr (by omega)
        simp [e, this]
    · rw [if_neg h]
      by_cases e : i = j
      · subst e
        simp [h]
      · have : (decide (i + 1 ≤ j ∧ j < i + 1 + k)) = decide (i ≤ j ∧ j < i + (k + 1)) := decide_eq_decide.mpr (by omega)
        simp [this]
theorem bitF_0 {f : Nat → Bool} {n j : Nat} (hn : n ≤ 32) (hj : j < n) : bitOf (bitF f 0 n (nI 0)) (nI j) = f j := by
  rw [bitF_bit n 0 _ j (by omega) (by omega), bit_0 (by omega), decide_eq_true (by omega)]
  simp
theorem bc_cnt {f : Nat → Bool} {n : Nat} (hn : n ≤ 6) : bcF (bitF f 0 n (nI 0)) = nI (cnt f n) := by
  unfold cnt
  rcases (by omega : n = 0 ∨ n = 1 ∨ n = 2 ∨ n = 3 ∨ n = 4 ∨ n = 5 ∨ n = 6) with h | h | h | h | h | h | h <;> subst h <;> simp only [bitF, cF] <;> generalize f 0 = b0 <;> generalize f 1 = b1 <;> generalize f 2 = b2 <;> generalize f 3 = b3 <;> generalize f 4 = b4 <;> generalize f 5 = b5 <;> revert b0 b1 b2 b3 b4 b5 <;> decide
