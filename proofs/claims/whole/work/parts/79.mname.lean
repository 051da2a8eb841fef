/-! ===== the reference: a NAME's number ===== -/
def mnV (f : Nat → Nat) (p len : Nat) : Nat → Nat
  | 0 => 0
  | k + 1 => mnV f p len k * 32 + (if k < len then f (p + k) - 96 else 0)
theorem mnV_lt {f : Nat → Nat} {p len : Nat} (hL : ∀ j, j < len → isL (f (p + j)) = true) : ∀ k, mnV f p len k < 32 ^ k
  | 0 => by rw [mnV]; decide
  | k + 1 => by
    have h1 := mnV_lt hL k
    have h2 : (if k < len then f (p + k) - 96 else 0) < 32 := by
      split
      · have := of_decide_eq_true (hL k (by assumption)); omega
      · omega
    rw [mnV, Nat.pow_succ]
    omega
theorem mnV_pk {f : Nat → Nat} {p len : Nat} (h : len ≤ 6) : mnV f p len 6 = pkV f p len := by
  rcases (by omega : len = 0 ∨ len = 1 ∨ len = 2 ∨ len = 3 ∨ len = 4 ∨ len = 5 ∨ len = 6) with e | e | e | e | e | e | e <;> subst e <;> simp only [mnV, pkV] <;> simp <;> omega
theorem sh5 {v : Nat} (h : v < 2 ^ 26) : nI v <<< (nI 5 &&& 31) = nI (v * 32) := by
  rw [← Int32.toBitVec_inj, Int32.toBitVec_shiftLeft]
  apply BitVec.eq_of_toNat_eq
  rw [BitVec.shiftLeft_eq', BitVec.toNat_shiftLeft, sh_l 5 (by omega)]
  show (v % 2 ^ 32) <<< 5 % 2 ^ 32 = v * 32 % 2 ^ 32
  rw [Nat.shiftLeft_eq]
  omega
theorem or5 {v x : Nat} (hx : x < 32) : nI (v * 32) ||| nI x = nI (v * 32 + x) := by
  rw [nI_or]
  congr 1
  have := Nat.two_pow_add_eq_or_of_lt (i := 5) (b := x) (by omega) v
  rw [show v * 32 = 2 ^ 5 * v by omega, ← this]
section MName
variable {l : Launch} {G : GG} {d : Nat} {I : IM} {J : JM} {K : Kt} {h : Hp} {Q : Option Value → Hp → Prop} {f : Nat → Nat} {n p e : Nat}
theorem mname_loop (hM : MK K) {I0 : IM} (hn : n ≤ 700) (hp : p ≤ e) (he : e ≤ n) (hf : ∀ j, j < n → I0 103 j = nI (f j)) (hL : ∀ j, j < e - p → isL (f (p + j)) = true) (hat : I0 102 24 = nI e) (hpl : I0 102 25 = nI p) : ∀ k i I, i + k = 6 → (∀ c x, ¬ (c = 102 ∧ x = 27) → I c x = I0 c x) → I 102 27 = nI (mnV f p (e - p) i) → (∀ I', (∀ c x, ¬ (c = 102 ∧ x = 27) → I' c x = I0 c x) → I' 102 27 = nI (mnV f p (e - p) 6) → Q none (I', J, K)) → Gw l G d m10_name 7 [.ref 102, .int (nI i)] [] (I, J, K) Q := by
  intro k
  induction k with
  | zero =>
    intro i I hi g h27 kk
    obtain rfl : i = 6 := by omega
    refine e_iload_n rfl rfl ?_
    refine e_bipush (v := nI 6) rfl bp_6N ?_
    first | refine e_icmp_geN (tgt := 63) rfl rfl (by omega) (by omega) (fun z => ?_) (fun z => ?_) | refine e_icmp_ge (tgt := 63) rfl rfl (fun z => ?_) (fun z => ?_)
    · refine e_return rfl rfl ?_
      exact kk I g h27
    · omega
  | succ k ih =>
    intro i I hi g h27 kk
    have lt := mnV_lt (f := f) (p := p) (len := e - p) hL i
    have lt2 : 32 ^ i ≤ 32 ^ 5 := Nat.pow_le_pow_right (by omega) (by omega)
    have e32 : (32 : Nat) ^ 5 = 33554432 := by decide
    have hat' : I 102 24 = nI e := by rw [g 102 24 (by omega)]; exact hat
    have hpl' : I 102 25 = nI p := by rw [g 102 25 (by omega)]; exact hpl
    have tail : ∀ x, x < 32 → (if i < e - p then f (p + i) - 96 else 0) = x → Gw l G d m10_name 53 [.ref 102, .int (nI i)] [.int (nI x), .int (nI (mnV f p (e - p) i * 32)), .ref 102] (I, J, K) Q := by
      intro x hx ex
      refine e_ior rfl ?_
      rw [or5 hx]
      refine e_putI rfl f10_180 hM.k rfl rfl ?_
      first | refine e_inc1 rfl rfl rfl (incN1 _) ?_ | refine e_inc1 rfl rfl rfl rfl ?_
      refine e_goto (tgt := 7) rfl rfl ?_
      exact ih (i + 1) _ (by omega) (fun c y q => (if_neg q).trans (g c y q)) (by rw [u2_at, mnV, ex]) kk
    refine e_iload_n rfl rfl ?_
    refine e_bipush (v := nI 6) rfl bp_6N ?_
    first | refine e_icmp_geN (tgt := 63) rfl rfl (by omega) (by omega) (fun z => ?_) (fun z => ?_) | refine e_icmp_ge (tgt := 63) rfl rfl (fun z => ?_) (fun z => ?_)
    · omega
    · refine e_aload_n rfl rfl ?_
      refine e_aload_n rfl rfl ?_
      refine e_getI rfl f10_180 hM.k rfl ?_
      rw [h27]
      refine e_iconst (v := nI 5) rfl ic_5N ?_
      refine e_ishl rfl ?_
      rw [sh5 (by omega)]
      refine e_aload_n rfl rfl ?_
      refine e_getI rfl f10_167 hM.k rfl ?_
      rw [hpl']
      refine e_iload_n rfl rfl ?_
      first | refine e_iaddN rfl ?_ | refine e_iadd rfl ?_
      refine e_aload_n rfl rfl ?_
      refine e_getI rfl f10_157 hM.k rfl ?_
      rw [hat']
      first | refine e_icmp_geN (tgt := 52) rfl rfl (by omega) (by omega) (fun z => ?_) (fun z => ?_) | refine e_icmp_ge (tgt := 52) rfl rfl (fun z => ?_) (fun z => ?_)
      · refine e_iconst (v := nI 0) rfl ic_0N ?_
        exact tail 0 (by omega) (if_neg (by omega))
      · have y : p + i < e := by omega
        have hl := of_decide_eq_true (hL i (by omega))
        refine e_aload_n rfl rfl ?_
        refine e_getP rfl f10_7 hM.k rfl hM.p1 ?_
        refine e_aload_n rfl rfl ?_
        refine e_getI rfl f10_167 hM.k rfl ?_
        rw [hpl']
        refine e_iload_n rfl rfl ?_
        first | refine e_iaddN rfl ?_ | refine e_iadd rfl ?_
        first | refine e_ialoadN rfl hM.a1 (by omega) (by omega) ?_ | (refine e_iaload rfl hM.a1 ?_ ?_; rotate_left)
        rw [g 103 _ (by omega), hf _ (by omega)]
        refine e_bipush (v := nI 97) rfl bp_97N ?_
        first | refine e_isubN rfl (by omega) ?_ | refine e_isub rfl ?_
        refine e_iconst (v := nI 1) rfl ic_1N ?_
        first | refine e_iaddN rfl ?_ | refine e_iadd rfl ?_
        refine e_goto (tgt := 53) rfl rfl ?_
        rw [show f (p + i) - 97 + 1 = f (p + i) - 96 by omega]
        exact tail _ (by omega) (if_pos (by omega))
theorem c10_name (hM : MK K) (hn : n ≤ 700) (hp : p ≤ e) (he : e ≤ n) (hf : ∀ j, j < n → I 103 j = nI (f j)) (hL : ∀ j, j < e - p → isL (f (p + j)) = true) (hat : I 102 24 = nI e) (hpl : I 102 25 = nI p) : Cw l G d m10_name [.ref 102] (I, J, K) (fun r h' => r = none ∧ ∃ I', h' = (I', J, K) ∧ (∀ c x, ¬ (c = 102 ∧ x = 27) → I' c x = I c x) ∧ I' 102 27 = nI (mnV f p (e - p) 6)) := by
  refine Cw.of ok10_name rfl (rfl : argL _ _ = [.ref 102, .null]) ?_
  refine e_aload_n rfl rfl ?_
  refine e_iconst (v := nI 0) rfl ic_0N ?_
  refine e_putI rfl f10_180 hM.k rfl rfl ?_
  refine e_iconst (v := nI 0) rfl ic_0N ?_
  refine e_ist1 rfl rfl rfl ?_
  exact mname_loop (I0 := I) hM hn hp he hf hL hat hpl 6 0 _ (by omega) (fun c y q => if_neg q) (u2_at _ _ _ _) (fun I1 g1 e1 => ⟨rfl, I1, rfl, g1, e1⟩)
end MName
