/-! ===== whole ===== -/
theorem gcd_step (a b : Nat) : Nat.gcd a b = Nat.gcd b (a % b) := by rw [Nat.gcd_comm a b, Nat.gcd_rec b a, Nat.gcd_comm]
section MGcd
variable {l : Launch} {G : GG} {d : Nat} {I : IM} {J : JM} {K : Kt} {h : Hp} {Q : Option Value → Hp → Prop} {P : Pl} {S : SM} {im : Bool} {SI : SM} {m : Nat} {T : SM} {kn : Int32} {u : Nat} {Hs : Nat → SM} {B n : Nat}
theorem cd_loop {x y : Int64} : ∀ k i a b v, i + k = 128 → b ≤ a → a < 2 ^ 62 → a * b < 2 ^ k → Q (some (.long (lN (Nat.gcd a b)))) h → Gw l G d m9_commonDivisor 9 [.long x, .null, .long y, .null, .long (lN a), .null, .long (lN b), .null, .int (nI i), v, .null] [] h Q := by
  have fin : ∀ i a b v, Q (some (.long (lN a))) h → Gw l G d m9_commonDivisor 45 [.long x, .null, .long y, .null, .long (lN a), .null, .long (lN b), .null, .int (nI i), v, .null] [] h Q := by
    intro i a b v hq
    refine e_lload rfl rfl ?_
    refine e_lreturn rfl rfl ?_
    exact hq
  intro k
  induction k with
  | zero =>
    intro i a b v hi hba ha hab hq
    have hb0 : b = 0 := by
      rcases Nat.eq_zero_or_pos b with hb | hb
      · exact hb
      · have : 0 < a * b := Nat.mul_pos (by omega) hb
        omega
    subst hb0
    rw [Nat.gcd_zero_right] at hq
    refine e_iload rfl rfl ?_
    refine e_sipush (v := nI 128) rfl sp_128N ?_
    first | refine e_icmp_geN (tgt := 45) rfl rfl (by omega) (by omega) (fun z => ?_) (fun z => ?_) | refine e_icmp_ge (tgt := 45) rfl rfl (fun z => ?_) (fun z => ?_)
    · exact fin i a 0 _ hq
    · omega
  | succ k ih =>
    intro i a b v hi hba ha hab hq
    refine e_iload rfl rfl ?_
    refine e_sipush (v := nI 128) rfl sp_128N ?_
    first | refine e_icmp_geN (tgt := 45) rfl rfl (by omega) (by omega) (fun z => ?_) (fun z => ?_) | refine e_icmp_ge (tgt := 45) rfl rfl (fun z => ?_) (fun z => ?_)
    · omega
    · refine e_lload rfl rfl ?_
      refine e_lconst (v := 0) rfl rfl ?_
      refine e_lcmp rfl ?_
      first | refine e_if_eqC (tgt := 45) rfl rfl (fun z => ?_) (fun z => ?_) | refine e_if_eqB (tgt := 45) rfl rfl (fun z => ?_) (fun z => ?_) | refine e_if_eqN (tgt := 45) rfl rfl (by omega) (fun z => ?_) (fun z => ?_) | refine e_if_eq (tgt := 45) rfl rfl (fun z => ?_) (fun z => ?_)
      · have y : lN b = 0 := by assumption
        have hb0 : b = 0 := (pk_lEQ (by omega) (by omega : (0 : Nat) < 2 ^ 63)).mp y
        subst hb0
        rw [Nat.gcd_zero_right] at hq
        exact fin i a 0 _ hq
      · have y : ¬ lN b = 0 := by assumption
        have hb0 : 0 < b := Nat.pos_of_ne_zero (fun q => y (by rw [q]; rfl))
        refine e_lload rfl rfl ?_
        refine e_lload rfl rfl ?_
        refine e_lrem rfl (by first | assumption | decide) ?_
        rw [pk_lRem (by omega) hb0 (by omega)]
        refine e_lst9 rfl rfl rfl ?_
        refine e_lload rfl rfl ?_
        refine e_lst4 rfl rfl rfl ?_
        refine e_lload rfl rfl ?_
        refine e_lst6 rfl rfl rfl ?_
        first | refine e_inc8 rfl rfl rfl (incN1 _) ?_ | refine e_inc8 rfl rfl rfl rfl ?_
        refine e_goto (tgt := 9) rfl rfl ?_
        have hlt := Nat.mod_lt a hb0
        refine ih (i + 1) b (a % b) _ (by omega) (by omega) (by omega) ?_ (by rw [← gcd_step]; exact hq)
        have h2 : 2 * (a % b) ≤ a := by
          have e := Nat.div_add_mod a b
          have q1 : 1 ≤ a / b := (Nat.one_le_div_iff hb0).mpr hba
          have q2 : b * 1 ≤ b * (a / b) := Nat.mul_le_mul_left b q1
          omega
        have h3 : b * (2 * (a % b)) ≤ b * a := Nat.mul_le_mul_left b h2
        have h4 : b * (2 * (a % b)) = 2 * (b * (a % b)) := by rw [Nat.mul_left_comm]
        have h5 : b * a = a * b := Nat.mul_comm b a
        rw [Nat.pow_succ] at hab
        omega
theorem c9_commonDivisor {a b : Nat} (ha : a < 2 ^ 62) (hb : b < 2 ^ 62) (hb0 : 0 < b) (hab : a * b < 2 ^ 100) (hbb : b * b < 2 ^ 100) : Cp l G d m9_commonDivisor [.long (lN a), .long (lN b)] h (.long (lN (Nat.gcd a b))) := by
  refine Cp.of ok9_commonDivisor rfl (rfl : argL _ _ = [.long (lN a), .null, .long (lN b), .null, .null, .null, .null, .null, .null, .null, .null]) ?_
  refine e_lload_n rfl rfl ?_
  refine e_lst4 rfl rfl rfl ?_
  refine e_lload_n rfl rfl ?_
  refine e_lst6 rfl rfl rfl ?_
  refine e_iconst (v := nI 0) rfl ic_0N ?_
  refine e_ist8 rfl rfl rfl ?_
  refine e_iload rfl rfl ?_
  refine e_sipush (v := nI 128) rfl sp_128N ?_
  first | refine e_icmp_geN (tgt := 45) rfl rfl (by omega) (by omega) (fun z => ?_) (fun z => ?_) | refine e_icmp_ge (tgt := 45) rfl rfl (fun z => ?_) (fun z => ?_)
  · omega
  · have y0 : ¬ lN b = 0 := fun q => absurd ((pk_lEQ (by omega) (by omega : (0 : Nat) < 2 ^ 63)).mp q) (by omega)
    refine e_lload rfl rfl ?_
    refine e_lconst (v := 0) rfl rfl ?_
    refine e_lcmp rfl ?_
    first | refine e_if_eqC (tgt := 45) rfl rfl (fun z => ?_) (fun z => ?_) | refine e_if_eqB (tgt := 45) rfl rfl (fun z => ?_) (fun z => ?_) | refine e_if_eqN (tgt := 45) rfl rfl (by omega) (fun z => ?_) (fun z => ?_) | refine e_if_eq (tgt := 45) rfl rfl (fun z => ?_) (fun z => ?_)
    · exact absurd z y0
    · refine e_lload rfl rfl ?_
      refine e_lload rfl rfl ?_
      refine e_lrem rfl (by first | assumption | decide) ?_
      rw [pk_lRem (by omega) hb0 (by omega)]
      refine e_lst9 rfl rfl rfl ?_
      refine e_lload rfl rfl ?_
      refine e_lst4 rfl rfl rfl ?_
      refine e_lload rfl rfl ?_
      refine e_lst6 rfl rfl rfl ?_
      first | refine e_inc8 rfl rfl rfl (incN1 _) ?_ | refine e_inc8 rfl rfl rfl rfl ?_
      refine e_goto (tgt := 9) rfl rfl ?_
      have hlt := Nat.mod_lt a hb0
      refine cd_loop 127 1 b (a % b) _ (by omega) (by omega) hb ?_ ⟨by rw [← gcd_step], rfl⟩
      have h3 : b * (a % b) ≤ b * b := Nat.mul_le_mul_left b (by omega)
      omega
def abF (r N : Nat) : Nat := (100 - r) ^ N
def a_whole (P : Pl) (x w : Int32) : Int64 := if inN 7 x = true ∧ inN 2 w = true then lN (if w = nI 0 then abF (P.2 20 1).toNatClampNeg x.toNatClampNeg / Nat.gcd (abF (P.2 20 1).toNatClampNeg x.toNatClampNeg) (100 ^ x.toNatClampNeg) else 100 ^ x.toNatClampNeg / Nat.gcd (abF (P.2 20 1).toNatClampNeg x.toNatClampNeg) (100 ^ x.toNatClampNeg)) else -1
theorem whole_loop (hG : GK K) {r N : Nat} {w : Int32} (hr : r ≤ 100) (hN : N ≤ 6) (er : I 33 6 = nI r) : ∀ k i, i + k = N → Gw l G (d + 1) m9_whole 65 [.ref 0, .int (nI N), .int w, .long (lN (abF r N)), .null, .long (lN (100 ^ N)), .null, .int (nI N), .null] [] (I, J, K) Q → Gw l G (d + 1) m9_whole 31 [.ref 0, .int (nI N), .int w, .long (lN (abF r i)), .null, .long (lN (100 ^ i)), .null, .int (nI i), .null] [] (I, J, K) Q := by
  obtain ⟨⟨k9, t0, t2, t3, t4, t5, t6, t7, t9, t10, t11, t12⟩, -, -, -, hP, -⟩ := hG
  have h3 := hP.1
  intro k
  induction k with
  | zero =>
    intro i hi kk
    obtain rfl : i = N := by omega
    refine e_iload rfl rfl ?_
    refine e_iload_n rfl rfl ?_
    first | refine e_icmp_geN (tgt := 65) rfl rfl (by omega) (by omega) (fun z => ?_) (fun z => ?_) | refine e_icmp_ge (tgt := 65) rfl rfl (fun z => ?_) (fun z => ?_)
    · exact kk
    · omega
  | succ k ih =>
    intro i hi kk
    refine e_iload rfl rfl ?_
    refine e_iload_n rfl rfl ?_
    first | refine e_icmp_geN (tgt := 65) rfl rfl (by omega) (by omega) (fun z => ?_) (fun z => ?_) | refine e_icmp_ge (tgt := 65) rfl rfl (fun z => ?_) (fun z => ?_)
    · omega
    · refine e_lload_n rfl rfl ?_
      refine e_bipush (v := nI 100) rfl bp_100N ?_
      refine e_aload_n rfl rfl ?_
      refine e_getP rfl f9_25 (by assumption) rfl (by assumption) ?_
      refine e_getI rfl f9_291 (by assumption) rfl ?_
      rw [er]
      first | refine e_isubN rfl (by omega) ?_ | refine e_isub rfl ?_
      refine e_i2l rfl ?_
      rw [nI_l (by omega)]
      refine e_lmul rfl ?_
      rw [lN_mul]
      refine e_lst3 rfl rfl rfl ?_
      refine e_lload rfl rfl ?_
      refine e_ldc2 rfl k9_294 ?_
      rw [show (100 : Int64) = lN 100 from rfl]
      refine e_lmul rfl ?_
      rw [lN_mul]
      refine e_lst5 rfl rfl rfl ?_
      first | refine e_inc7 rfl rfl rfl (incN1 _) ?_ | refine e_inc7 rfl rfl rfl rfl ?_
      refine e_goto (tgt := 31) rfl rfl ?_
      have e1 : abF r i * (100 - r) = abF r (i + 1) := by unfold abF; rw [Nat.pow_succ]
      have e2 : 100 ^ i * 100 = 100 ^ (i + 1) := by rw [Nat.pow_succ]
      rw [e1, e2]
      exact ih (i + 1) (by omega) kk
theorem abF_le {r N : Nat} (hN : N ≤ 6) : abF r N ≤ 1000000000000 ∧ 100 ^ N ≤ 1000000000000 := by
  have a : ∀ b : Nat, b ≤ 100 → b ^ N ≤ 1000000000000 := by
    intro b hb
    have h1 : b ^ N ≤ 100 ^ N := Nat.pow_le_pow_left hb N
    have h2 : 100 ^ N ≤ 100 ^ 6 := Nat.pow_le_pow_right (by omega) hN
    have h3 : (100 : Nat) ^ 6 = 1000000000000 := by decide
    omega
  exact ⟨a (100 - r) (by omega), a 100 (by omega)⟩
theorem c9_whole (hG : GK K) (hR : RP I 33 P) (hW : wfP P) (x w : Int32) : Cp l G (d + 1) m9_whole [.ref 0, .int x, .int w] (I, J, K) (.long (a_whole P x w)) := by
  have no : ¬ (inN 7 x = true ∧ inN 2 w = true) → ∀ v3 v4 v5 v6 v7 v8, Gw l G (d + 1) m9_whole 19 [.ref 0, .int x, .int w, v3, v4, v5, v6, v7, v8] [] (I, J, K) (fun r h' => r = some (.long (a_whole P x w)) ∧ h' = (I, J, K)) := by
    intro hno v3 v4 v5 v6 v7 v8
    rw [a_whole, if_neg hno]
    refine e_ldc2 rfl k9_289 ?_
    refine e_lreturn rfl rfl ?_
    exact ⟨rfl, rfl⟩
  obtain ⟨r, hr, er⟩ := hW.2.2.2.2.2.2
  have er2 : I 33 6 = nI r := hR.2.2.2.2.2.2.2.2.2.2.2.2.2.1.trans er
  refine Cp.of ok9_whole rfl (rfl : argL _ _ = [.ref 0, .int x, .int w, .null, .null, .null, .null, .null, .null]) ?_
  refine e_iload_n rfl rfl ?_
  first | refine e_if_ltN (tgt := 19) rfl rfl (by omega) ?_ | refine e_if_lt (tgt := 19) rfl rfl (fun z => ?_) (fun z => ?_)
  · have y : x < 0 := by assumption
    exact no (fun q => (inN_lo (k := 6) (by omega) q.1).1 y) _ _ _ _ _ _
  · have y0 : ¬ x < 0 := by assumption
    refine e_iload_n rfl rfl ?_
    refine e_bipush (v := nI 6) rfl bp_6N ?_
    first | refine e_icmp_gtN (tgt := 19) rfl rfl (by omega) (by omega) (fun z => ?_) (fun z => ?_) | refine e_icmp_gt (tgt := 19) rfl rfl (fun z => ?_) (fun z => ?_)
    · have y : nI 6 < x := by assumption
      exact no (fun q => absurd (inN_lo (k := 6) (by omega) q.1).2 (Int32.not_le.mpr y)) _ _ _ _ _ _
    · have y1 : ¬ nI 6 < x := by assumption
      have hx : inN 7 x = true := inN_hi (k := 6) (by omega) y0 (Int32.not_lt.mp y1)
      refine e_iload_n rfl rfl ?_
      first | refine e_if_ltN (tgt := 19) rfl rfl (by omega) ?_ | refine e_if_lt (tgt := 19) rfl rfl (fun z => ?_) (fun z => ?_)
      · have y : w < 0 := by assumption
        exact no (fun q => (inN_lo (k := 1) (by omega) q.2).1 y) _ _ _ _ _ _
      · have y2 : ¬ w < 0 := by assumption
        refine e_iload_n rfl rfl ?_
        refine e_iconst (v := nI 1) rfl ic_1N ?_
        first | refine e_icmp_leN (tgt := 23) rfl rfl (by omega) (by omega) (fun z => ?_) (fun z => ?_) | refine e_icmp_le (tgt := 23) rfl rfl (fun z => ?_) (fun z => ?_)
        · have y3 : w ≤ nI 1 := by assumption
          have hw : inN 2 w = true := inN_hi (k := 1) (by omega) y2 y3
          obtain ⟨N, hN, rfl⟩ := inN_of (by omega) hx
          obtain ⟨v, hv, rfl⟩ := inN_of (by omega) hw
          rw [a_whole, if_pos ⟨hx, hw⟩, er, nI_clamp (by omega), nI_clamp (by omega)]
          refine e_lconst (v := 1) rfl rfl ?_
          refine e_lst3 rfl rfl rfl ?_
          refine e_lconst (v := 1) rfl rfl ?_
          refine e_lst5 rfl rfl rfl ?_
          refine e_iconst (v := nI 0) rfl ic_0N ?_
          refine e_ist7 rfl rfl rfl ?_
          refine whole_loop (r := r) hG hr (by omega) er2 N 0 (by omega) ?_
          obtain ⟨h1, h2⟩ := abF_le (r := r) (N := N) (by omega)
          have p0 : 0 < 100 ^ N := Nat.pow_pos (by omega)
          have gp : 0 < Nat.gcd (abF r N) (100 ^ N) := Nat.gcd_pos_of_pos_right _ p0
          have gl : Nat.gcd (abF r N) (100 ^ N) ≤ 100 ^ N := Nat.le_of_dvd p0 (Nat.gcd_dvd_right _ _)
          have m1 : abF r N * 100 ^ N ≤ 1000000000000 * 1000000000000 := Nat.mul_le_mul h1 h2
          have m2 : 100 ^ N * 100 ^ N ≤ 1000000000000 * 1000000000000 := Nat.mul_le_mul h2 h2
          have g0 : ¬ lN (Nat.gcd (abF r N) (100 ^ N)) = 0 := fun q => absurd ((pk_lEQ (by omega) (by omega : (0 : Nat) < 2 ^ 63)).mp q) (by omega)
          refine e_lload_n rfl rfl ?_
          refine e_lload rfl rfl ?_
          refine e_callSp (M2 := m9_commonDivisor) rfl v9_296 ok9_commonDivisor (c9_commonDivisor (by omega) (by omega) p0 (by omega) (by omega)) rfl rfl rfl ?_
          refine e_lst7 rfl rfl rfl ?_
          refine e_lload rfl rfl ?_
          refine e_lconst (v := 0) rfl rfl ?_
          refine e_lcmp rfl ?_
          refine e_if_gtC (tgt := 84) rfl rfl (fun _ => ?_) (fun z => absurd ((pk_lLT (by omega : (0 : Nat) < 2 ^ 63) (by omega)).mpr gp) z)
          refine e_iload_n rfl rfl ?_
          first | refine e_if_neB (tgt := 95) rfl rfl (fun z => ?_) (fun z => ?_) | refine e_if_neN (tgt := 95) rfl rfl (by omega) (fun z => ?_) (fun z => ?_) | refine e_if_ne (tgt := 95) rfl rfl (fun z => ?_) (fun z => ?_)
          · have y : v ≠ 0 := by assumption
            refine e_lload rfl rfl ?_
            refine e_lload rfl rfl ?_
            refine e_ldiv rfl (by first | assumption | decide) ?_
            refine e_lreturn rfl rfl ?_
            rw [pk_lDiv (by omega) gp (by omega), if_neg (ne42 y (by omega) (by omega))]
            exact ⟨rfl, rfl⟩
          · have y : v = 0 := by assumption
            refine e_lload_n rfl rfl ?_
            refine e_lload rfl rfl ?_
            refine e_ldiv rfl (by first | assumption | decide) ?_
            refine e_goto (tgt := 100) rfl rfl ?_
            refine e_lreturn rfl rfl ?_
            rw [pk_lDiv (by omega) gp (by omega), if_pos (by rw [y])]
            exact ⟨rfl, rfl⟩
        · exact no (fun q => absurd (inN_lo (k := 1) (by omega) q.2).2 (by assumption)) _ _ _ _ _ _
end MGcd
