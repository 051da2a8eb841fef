/-! ===== takeSign, advance, start ===== -/
theorem ix_sign : ∀ t, t < 128 → (decide (fnd (fun q => (bytS.getD 1 []).getD q 0) (nI t) (lenS.getD 1 0) 0 < 0)) = !sgL.contains t := by decide +kernel
theorem i2c_sm : ∀ t, t < 128 → ((nI t).toUInt32 % 65536).toInt32 = nI t := by decide +kernel
section MScan2
variable {l : Launch} {G : GG} {d : Nat} {I : IM} {J : JM} {K : Kt} {Q : Option Value → Hp → Prop} {f : Nat → Nat} {n at_ pl : Nat} {tk va : Int32}
theorem c5_takeSign (hK : SK K) (hS : SC I f n at_ tk va pl) (hat : at_ < n) : Cw l G (d + 4) m5_takeSign [.ref 30] (I, J, K) (fun r h' => r = none ∧ ∃ I', h' = (I', J, K) ∧ (∀ c, c ≠ 30 → I' c = I c) ∧ SC I' f n (if nI 256 ≤ sgT (f at_) (if at_ + 1 < n then f (at_ + 1) else 0) then at_ + 2 else at_ + 1) (sgT (f at_) (if at_ + 1 < n then f (at_ + 1) else 0)) va pl) := by
  have hS2 := hS
  obtain ⟨s1, s2, s3, s4, s5, s6, s7, s8, s9, s10⟩ := hS2
  obtain ⟨h5, p0, a31, p1, a1⟩ := hK
  have eb := s1 at_ hat
  have hb := s9 at_
  generalize enx : (if at_ + 1 < n then f (at_ + 1) else 0) = nx
  have hnx : nx < 256 := by rw [← enx]; split; exact s9 _; omega
  generalize ec : f at_ = c at hb eb
  have fin : ∀ I2 tk2 v1 v2, SC I2 f n at_ tk2 va pl → (∀ q, q ≠ 30 → I2 q = I q) → tk2 = sgT c nx → Gw l G (d + 4) m5_takeSign 140 [.ref 30, v1, v2] [] (I2, J, K) (fun r h' => r = none ∧ ∃ I', h' = (I', J, K) ∧ (∀ c, c ≠ 30 → I' c = I c) ∧ SC I' f n (if nI 256 ≤ sgT c nx then at_ + 2 else at_ + 1) (sgT c nx) va pl) := by
    intro I2 tk2 v1 v2 S2 f2 e2
    have r3 := S2.2.2.1
    have r4 := S2.2.2.2.1
    refine e_aload_n rfl rfl ?_
    refine e_dup rfl rfl ?_
    refine e_getI rfl f5_37 (by assumption) rfl ?_
    refine e_aload_n rfl rfl ?_
    refine e_getI rfl f5_40 (by assumption) rfl ?_
    rw [r3, r4]
    refine e_sipush (v := nI 256) rfl sp_256N ?_
    refine e_icmp_lt (tgt := 159) rfl rfl (fun z => ?_) (fun z => ?_)
    · rw [if_neg (by rw [← e2]; exact Int32.not_le.mpr z)]
      refine e_iconst (v := nI 1) rfl ic_1N ?_
      first | refine e_iaddN rfl ?_ | refine e_iadd rfl ?_
      refine e_putI rfl f5_37 (by assumption) rfl rfl ?_
      refine e_return rfl rfl ?_
      exact ⟨rfl, _, rfl, fun q hq => by rw [u2_row _ _ hq, f2 q hq], by rw [← e2]; exact S2.up3 (by omega)⟩
    · have z2 := Int32.not_lt.mp z
      rw [if_pos (by rw [← e2]; exact z2)]
      have h1n : at_ + 1 < n := by
        by_cases q : at_ + 1 < n
        · exact q
        · rw [if_neg q] at enx
          rw [e2, ← enx] at z2
          unfold sgT at z2
          rw [if_neg (by omega), if_neg (by omega), if_neg (by omega)] at z2
          split at z2
          · next h9 =>
            by_cases hc8 : c < 128
            · exact absurd ((nI_leI (by omega) (by omega)).mp z2) (by omega)
            · exact absurd h9 (by
                have : ∀ t, t < 256 → ¬ t < 128 → ¬ sgL.contains t = true := by decide +kernel
                exact this c hb hc8)
          · exact absurd z2 (by decide)
      refine e_iconst (v := nI 2) rfl ic_2N ?_
      refine e_goto (tgt := 160) rfl rfl ?_
      first | refine e_iaddN rfl ?_ | refine e_iadd rfl ?_
      refine e_putI rfl f5_37 (by assumption) rfl rfl ?_
      refine e_return rfl rfl ?_
      exact ⟨rfl, _, rfl, fun q hq => by rw [u2_row _ _ hq, f2 q hq], by rw [← e2]; exact S2.up3 (by omega)⟩
  have mid : ∀ I2 tk2, SC I2 f n at_ tk2 va pl → (∀ q, q ≠ 30 → I2 q = I q) → tk2 = (if sgL.contains c = true then nI c else -1) → Gw l G (d + 4) m5_takeSign 77 [.ref 30, .int (sg c), .int (sg nx)] [] (I2, J, K) (fun r h' => r = none ∧ ∃ I', h' = (I', J, K) ∧ (∀ c, c ≠ 30 → I' c = I c) ∧ SC I' f n (if nI 256 ≤ sgT c nx then at_ + 2 else at_ + 1) (sgT c nx) va pl) := by
    intro I2 tk2 S2 f2 e2
    have c60 := sg_eq hb (by omega : 60 < 128)
    have c62 := sg_eq hb (by omega : 62 < 128)
    have n61 := sg_eq hnx (by omega : 61 < 128)
    have n62 := sg_eq hnx (by omega : 62 < 128)
    have third : ¬ (c = 60 ∧ nx = 61) → ¬ (c = 62 ∧ nx = 61) → Gw l G (d + 4) m5_takeSign 121 [.ref 30, .int (sg c), .int (sg nx)] [] (I2, J, K) (fun r h' => r = none ∧ ∃ I', h' = (I', J, K) ∧ (∀ c, c ≠ 30 → I' c = I c) ∧ SC I' f n (if nI 256 ≤ sgT c nx then at_ + 2 else at_ + 1) (sgT c nx) va pl) := by
      intro n1 n2
      refine e_iload_n rfl rfl ?_
      refine e_bipush (v := nI 60) rfl bp_60N ?_
      first | refine e_icmp_neN (tgt := 140) rfl rfl (by omega) (by omega) (fun z => ?_) (fun z => ?_) | refine e_icmp_ne (tgt := 140) rfl rfl (fun z => ?_) (fun z => ?_)
      · exact fin I2 tk2 _ _ S2 f2 (e2.trans (by rw [sgT, if_neg n1, if_neg n2, if_neg (show ¬ (c = 60 ∧ nx = 62) from fun q => z (c60.mpr q.1))]))
      · have y1 := c60.mp z
        refine e_iload_n rfl rfl ?_
        refine e_bipush (v := nI 62) rfl bp_62N ?_
        first | refine e_icmp_neN (tgt := 140) rfl rfl (by omega) (by omega) (fun z => ?_) (fun z => ?_) | refine e_icmp_ne (tgt := 140) rfl rfl (fun z => ?_) (fun z => ?_)
        · exact fin I2 tk2 _ _ S2 f2 (e2.trans (by rw [sgT, if_neg n1, if_neg n2, if_neg (show ¬ (c = 60 ∧ nx = 62) from fun q => z (n62.mpr q.2))]))
        · have y2 := n62.mp z
          refine e_aload_n rfl rfl ?_
          refine e_sipush (v := nI 258) rfl sp_258N ?_
          refine e_putI rfl f5_40 (by assumption) rfl rfl ?_
          exact fin _ _ _ _ (S2.up4 _) (fun q hq => by rw [u2_row _ _ hq, f2 q hq]) (by rw [sgT, if_neg n1, if_neg n2, if_pos ⟨y1, y2⟩])
    have second : ¬ (c = 60 ∧ nx = 61) → Gw l G (d + 4) m5_takeSign 99 [.ref 30, .int (sg c), .int (sg nx)] [] (I2, J, K) (fun r h' => r = none ∧ ∃ I', h' = (I', J, K) ∧ (∀ c, c ≠ 30 → I' c = I c) ∧ SC I' f n (if nI 256 ≤ sgT c nx then at_ + 2 else at_ + 1) (sgT c nx) va pl) := by
      intro n1
      refine e_iload_n rfl rfl ?_
      refine e_bipush (v := nI 62) rfl bp_62N ?_
      first | refine e_icmp_neN (tgt := 121) rfl rfl (by omega) (by omega) (fun z => ?_) (fun z => ?_) | refine e_icmp_ne (tgt := 121) rfl rfl (fun z => ?_) (fun z => ?_)
      · exact third n1 (fun q => z (c62.mpr q.1))
      · have y1 := c62.mp z
        refine e_iload_n rfl rfl ?_
        refine e_bipush (v := nI 61) rfl bp_61N ?_
        first | refine e_icmp_neN (tgt := 121) rfl rfl (by omega) (by omega) (fun z => ?_) (fun z => ?_) | refine e_icmp_ne (tgt := 121) rfl rfl (fun z => ?_) (fun z => ?_)
        · exact third n1 (fun q => z (n61.mpr q.2))
        · have y2 := n61.mp z
          refine e_aload_n rfl rfl ?_
          refine e_sipush (v := nI 257) rfl sp_257N ?_
          refine e_putI rfl f5_40 (by assumption) rfl rfl ?_
          refine e_goto (tgt := 140) rfl rfl ?_
          exact fin _ _ _ _ (S2.up4 _) (fun q hq => by rw [u2_row _ _ hq, f2 q hq]) (by rw [sgT, if_neg n1, if_pos ⟨y1, y2⟩])
    refine e_iload_n rfl rfl ?_
    refine e_bipush (v := nI 60) rfl bp_60N ?_
    first | refine e_icmp_neN (tgt := 99) rfl rfl (by omega) (by omega) (fun z => ?_) (fun z => ?_) | refine e_icmp_ne (tgt := 99) rfl rfl (fun z => ?_) (fun z => ?_)
    · exact second (fun q => z (c60.mpr q.1))
    · have y1 := c60.mp z
      refine e_iload_n rfl rfl ?_
      refine e_bipush (v := nI 61) rfl bp_61N ?_
      first | refine e_icmp_neN (tgt := 99) rfl rfl (by omega) (by omega) (fun z => ?_) (fun z => ?_) | refine e_icmp_ne (tgt := 99) rfl rfl (fun z => ?_) (fun z => ?_)
      · exact second (fun q => z (n61.mpr q.2))
      · have y2 := n61.mp z
        refine e_aload_n rfl rfl ?_
        refine e_sipush (v := nI 256) rfl sp_256N ?_
        refine e_putI rfl f5_40 (by assumption) rfl rfl ?_
        refine e_goto (tgt := 140) rfl rfl ?_
        exact fin _ _ _ _ (S2.up4 _) (fun q hq => by rw [u2_row _ _ hq, f2 q hq]) (by rw [sgT, if_pos ⟨y1, y2⟩])
  have kind : ∀ v2, v2 = Value.int (sg nx) → Gw l G (d + 4) m5_takeSign 53 [.ref 30, .int (sg c), .null] [v2] (I, J, K) (fun r h' => r = none ∧ ∃ I', h' = (I', J, K) ∧ (∀ c, c ≠ 30 → I' c = I c) ∧ SC I' f n (if nI 256 ≤ sgT c nx then at_ + 2 else at_ + 1) (sgT c nx) va pl) := by
    rintro v2 rfl
    have bad : sgL.contains c = false → Gw l G (d + 4) m5_takeSign 73 [.ref 30, .int (sg c), .int (sg nx)] [.ref 30] (I, J, K) (fun r h' => r = none ∧ ∃ I', h' = (I', J, K) ∧ (∀ c, c ≠ 30 → I' c = I c) ∧ SC I' f n (if nI 256 ≤ sgT c nx then at_ + 2 else at_ + 1) (sgT c nx) va pl) := by
      intro hno
      refine e_iconst rfl ic_m1 ?_
      refine e_putI rfl f5_40 (by assumption) rfl rfl ?_
      exact mid _ _ (hS.up4 _) (fun q hq => u2_row _ _ hq) (by rw [if_neg (by rw [hno]; decide)])
    refine e_ist2 rfl rfl rfl ?_
    refine e_aload_n rfl rfl ?_
    refine e_iload_n rfl rfl ?_
    refine e_if_le (tgt := 73) rfl rfl (fun z => ?_) (fun z => ?_)
    · refine bad ?_
      by_cases h8 : c < 128
      · rw [sg_sm h8] at z
        have : c = 0 := Nat.le_zero.mp ((nI_leI (by omega) (by omega : 0 < 2 ^ 31)).mp z)
        subst this
        decide
      · have : ∀ t, t < 256 → ¬ t < 128 → sgL.contains t = false := by decide +kernel
        exact this c hb h8
    · have z1 := Int32.not_le.mp z
      have h8 : c < 128 := Nat.not_le.mp (fun q => absurd (sg_neg c hb q) (fun q2 => Int32.lt_irrefl (Int32.lt_trans z1 q2)))
      refine e_ldcS (tx := "()*+-/;<=>") (j := 1) rfl (by decide) ?_
      refine e_iload_n rfl rfl ?_
      refine e_i2c rfl ?_
      rw [sg_sm h8, i2c_sm c h8]
      refine e_callVSp (M2 := mS_indexOf) (as := [.int (nI c)]) (by omega) rfl v5_61 okS_indexOf (cS_indexOf (by omega) h8) rfl rfl rfl rfl ?_
      have ix := ix_sign c h8
      rw [← sg_sm h8]
      refine e_if_lt (tgt := 73) rfl rfl (fun z => ?_) (fun z => ?_)
      · rw [sg_sm h8] at z
        rw [decide_eq_true z] at ix
        exact bad (by cases hh : sgL.contains c with
          | true => rw [hh] at ix; exact absurd ix (by decide)
          | false => rfl)
      · rw [sg_sm h8] at z
        rw [decide_eq_false z] at ix
        have yes : sgL.contains c = true := by cases hh : sgL.contains c with
          | true => rfl
          | false => rw [hh] at ix; exact absurd ix (by decide)
        refine e_iload_n rfl rfl ?_
        refine e_goto (tgt := 74) rfl rfl ?_
        refine e_putI rfl f5_40 (by assumption) rfl rfl ?_
        exact mid _ _ (hS.up4 _) (fun q hq => u2_row _ _ hq) (by rw [if_pos yes, sg_sm h8])
  refine Cw.of ok5_takeSign rfl (rfl : argL _ _ = [.ref 30, .null, .null]) ?_
  refine e_aload_n rfl rfl ?_
  refine e_getI rfl f5_37 (by assumption) rfl ?_
  refine e_aload_n rfl rfl ?_
  refine e_getI rfl f5_33 (by assumption) rfl ?_
  rw [s2, s3]
  first | refine e_icmp_geN (tgt := 23) rfl rfl (by omega) (by omega) (fun z => ?_) (fun z => ?_) | refine e_icmp_ge (tgt := 23) rfl rfl (fun z => ?_) (fun z => ?_)
  · omega
  · refine e_aload_n rfl rfl ?_
    refine e_getP rfl f5_15 (by assumption) rfl (by assumption) ?_
    refine e_aload_n rfl rfl ?_
    refine e_getI rfl f5_37 (by assumption) rfl ?_
    rw [s3]
    first | refine e_baloadN rfl (by assumption) (by omega) (by omega) ?_ | refine e_zaloadN rfl (by assumption) (by omega) (by omega) ?_ | (refine e_baload rfl (by assumption) ?_ ?_; rotate_left) | (refine e_zaload rfl (by assumption) ?_ ?_; rotate_left)
    rw [eb]
    refine e_goto (tgt := 24) rfl rfl ?_
    refine e_ist1 rfl rfl rfl ?_
    refine e_aload_n rfl rfl ?_
    refine e_getI rfl f5_37 (by assumption) rfl ?_
    rw [s3]
    refine e_iconst (v := nI 1) rfl ic_1N ?_
    first | refine e_iaddN rfl ?_ | refine e_iadd rfl ?_
    refine e_aload_n rfl rfl ?_
    refine e_getI rfl f5_33 (by assumption) rfl ?_
    rw [s2]
    first | refine e_icmp_geN (tgt := 52) rfl rfl (by omega) (by omega) (fun z => ?_) (fun z => ?_) | refine e_icmp_ge (tgt := 52) rfl rfl (fun z => ?_) (fun z => ?_)
    · rw [if_neg (by omega)] at enx
      refine e_iconst (v := nI 0) rfl ic_0N ?_
      exact kind _ (by rw [← enx]; rfl)
    · rw [if_pos (by omega)] at enx
      have eb2 := s1 (at_ + 1) (by omega)
      refine e_aload_n rfl rfl ?_
      refine e_getP rfl f5_15 (by assumption) rfl (by assumption) ?_
      refine e_aload_n rfl rfl ?_
      refine e_getI rfl f5_37 (by assumption) rfl ?_
      rw [s3]
      refine e_iconst (v := nI 1) rfl ic_1N ?_
      first | refine e_iaddN rfl ?_ | refine e_iadd rfl ?_
      first | refine e_baloadN rfl (by assumption) (by omega) (by omega) ?_ | refine e_zaloadN rfl (by assumption) (by omega) (by omega) ?_ | (refine e_baload rfl (by assumption) ?_ ?_; rotate_left) | (refine e_zaload rfl (by assumption) ?_ ?_; rotate_left)
      rw [eb2, enx]
      refine e_goto (tgt := 53) rfl rfl ?_
      exact kind _ rfl
theorem adv_loop (hK : SK K) : ∀ k i I v, i + k = n → SC I f n i tk va pl → (∀ I', (∀ c, c ≠ 30 → I' c = I c) → SC I' f n (enF isB f k i) tk va pl → Gw l G (d + 4) m5_advance 61 [.ref 30, v] [] (I', J, K) Q) → Gw l G (d + 4) m5_advance 9 [.ref 30, v] [] (I, J, K) Q := by
  obtain ⟨h5, p0, a31, p1, a1⟩ := hK
  intro k
  induction k with
  | zero =>
    intro i I v hi hS kk
    have hS2 := hS
    obtain ⟨s1, s2, s3, s4, s5, s6, s7, s8, s9, s10⟩ := hS2
    refine e_aload_n rfl rfl ?_
    refine e_getI rfl f5_37 (by assumption) rfl ?_
    refine e_aload_n rfl rfl ?_
    refine e_getI rfl f5_33 (by assumption) rfl ?_
    rw [s2, s3]
    first | refine e_icmp_geN (tgt := 61) rfl rfl (by omega) (by omega) (fun z => ?_) (fun z => ?_) | refine e_icmp_ge (tgt := 61) rfl rfl (fun z => ?_) (fun z => ?_)
    · exact kk I (fun _ _ => rfl) hS
    · omega
  | succ k ih =>
    intro i I v hi hS kk
    have hS2 := hS
    obtain ⟨s1, s2, s3, s4, s5, s6, s7, s8, s9, s10⟩ := hS2
    have eb := s1 i (by omega)
    have hb := s9 i
    have c10 := sg_eq hb (by omega : 10 < 128)
    have c32 := sg_eq hb (by omega : 32 < 128)
    rw [enF] at kk
    have go : isB (f i) = true → Gw l G (d + 4) m5_advance 48 [.ref 30, v] [] (I, J, K) Q := by
      intro yes
      rw [if_pos yes] at kk
      refine e_aload_n rfl rfl ?_
      refine e_dup rfl rfl ?_
      refine e_getI rfl f5_37 (by assumption) rfl ?_
      rw [s3]
      refine e_iconst (v := nI 1) rfl ic_1N ?_
      first | refine e_iaddN rfl ?_ | refine e_iadd rfl ?_
      refine e_putI rfl f5_37 (by assumption) rfl rfl ?_
      refine e_goto (tgt := 9) rfl rfl ?_
      exact ih (i + 1) _ _ (by omega) (hS.up3 (by omega)) (fun I' f' S' => kk I' (fun c hc => by rw [f' c hc, u2_row _ _ hc]) S')
    refine e_aload_n rfl rfl ?_
    refine e_getI rfl f5_37 (by assumption) rfl ?_
    refine e_aload_n rfl rfl ?_
    refine e_getI rfl f5_33 (by assumption) rfl ?_
    rw [s2, s3]
    first | refine e_icmp_geN (tgt := 61) rfl rfl (by omega) (by omega) (fun z => ?_) (fun z => ?_) | refine e_icmp_ge (tgt := 61) rfl rfl (fun z => ?_) (fun z => ?_)
    · omega
    · refine e_aload_n rfl rfl ?_
      refine e_getP rfl f5_15 (by assumption) rfl (by assumption) ?_
      refine e_aload_n rfl rfl ?_
      refine e_getI rfl f5_37 (by assumption) rfl ?_
      rw [s3]
      first | refine e_baloadN rfl (by assumption) (by omega) (by omega) ?_ | refine e_zaloadN rfl (by assumption) (by omega) (by omega) ?_ | (refine e_baload rfl (by assumption) ?_ ?_; rotate_left) | (refine e_zaload rfl (by assumption) ?_ ?_; rotate_left)
      rw [eb]
      refine e_bipush (v := nI 10) rfl bp_10N ?_
      first | refine e_icmp_eqN (tgt := 48) rfl rfl (by omega) (by omega) (fun z => ?_) (fun z => ?_) | refine e_icmp_eq (tgt := 48) rfl rfl (fun z => ?_) (fun z => ?_)
      · exact go (decide_eq_true (Or.inl (c10.mp z)))
      · have y1 := z
        refine e_aload_n rfl rfl ?_
        refine e_getP rfl f5_15 (by assumption) rfl (by assumption) ?_
        refine e_aload_n rfl rfl ?_
        refine e_getI rfl f5_37 (by assumption) rfl ?_
        rw [s3]
        first | refine e_baloadN rfl (by assumption) (by omega) (by omega) ?_ | refine e_zaloadN rfl (by assumption) (by omega) (by omega) ?_ | (refine e_baload rfl (by assumption) ?_ ?_; rotate_left) | (refine e_zaload rfl (by assumption) ?_ ?_; rotate_left)
        rw [eb]
        refine e_bipush (v := nI 32) rfl bp_32N ?_
        first | refine e_icmp_neN (tgt := 61) rfl rfl (by omega) (by omega) (fun z => ?_) (fun z => ?_) | refine e_icmp_ne (tgt := 61) rfl rfl (fun z => ?_) (fun z => ?_)
        · have y2 := z
          rw [if_neg (by rw [show isB (f i) = false from decide_eq_false (fun q => q.elim (fun q => y1 (c10.mpr q)) (fun q => y2 (c32.mpr q)))]; decide)] at kk
          exact kk I (fun _ _ => rfl) hS
        · exact go (decide_eq_true (Or.inr (c32.mp z)))
theorem c5_advance (hK : SK K) (hS : SC I f n at_ tk va pl) (ht : ¬ tk = -1) : Cw l G (d + 5) m5_advance [.ref 30] (I, J, K) (fun r h' => r = none ∧ ∃ I', h' = (I', J, K) ∧ (∀ c, c ≠ 30 → I' c = I c) ∧ SC I' f n (advA f n at_ va).1 (advA f n at_ va).2.1 (advA f n at_ va).2.2.1 (advA f n at_ va).2.2.2) := by
  have hK2 := hK
  obtain ⟨h5, p0, a31, p1, a1⟩ := hK2
  have s8 := hS.2.2.2.2.2.2.2.1
  refine Cw.of ok5_advance rfl (rfl : argL _ _ = [.ref 30, .null]) ?_
  refine e_aload_n rfl rfl ?_
  refine e_getI rfl f5_40 (by assumption) rfl ?_
  rw [hS.2.2.2.1]
  refine e_iconst rfl ic_m1 ?_
  first | refine e_icmp_neN (tgt := 9) rfl rfl (by omega) (by omega) (fun z => ?_) (fun z => ?_) | refine e_icmp_ne (tgt := 9) rfl rfl (fun z => ?_) (fun z => ?_)
  · refine adv_loop (d := d + 1) hK (n - at_) at_ I _ (by omega) hS (fun I1 f1 S1 => ?_)
    unfold advA
    generalize enF isB f (n - at_) at_ = p at S1
    have r3 := S1.2.2.1
    refine e_aload_n rfl rfl ?_
    refine e_aload_n rfl rfl ?_
    refine e_getI rfl f5_37 (by assumption) rfl ?_
    rw [r3]
    refine e_putI rfl f5_43 (by assumption) rfl rfl ?_
    have S2 := S1.up5 p
    have f2 : ∀ c, c ≠ 30 → u2 I1 30 5 (nI p) c = I c := fun c hc => by rw [u2_row _ _ hc, f1 c hc]
    generalize u2 I1 30 5 (nI p) = I2 at S2 f2
    have S2' := S2
    obtain ⟨s1, s2, s3, s4, s5, s6, s7, s8', s9, s10⟩ := S2'
    refine e_aload_n rfl rfl ?_
    refine e_getI rfl f5_37 (by assumption) rfl ?_
    refine e_aload_n rfl rfl ?_
    refine e_getI rfl f5_33 (by assumption) rfl ?_
    rw [s2, s3]
    first | refine e_icmp_geN (tgt := 92) rfl rfl (by omega) (by omega) (fun z => ?_) (fun z => ?_) | refine e_icmp_ge (tgt := 92) rfl rfl (fun z => ?_) (fun z => ?_)
    · have y : n ≤ p := by assumption
      refine e_iconst (v := nI 0) rfl ic_0N ?_
      refine e_ist1 rfl rfl rfl ?_
      refine e_aload_n rfl rfl ?_
      refine e_getI rfl f5_37 (by assumption) rfl ?_
      refine e_aload_n rfl rfl ?_
      refine e_getI rfl f5_33 (by assumption) rfl ?_
      rw [s2, s3]
      first | refine e_icmp_ltN (tgt := 113) rfl rfl (by omega) (by omega) (fun z => ?_) (fun z => ?_) | refine e_icmp_lt (tgt := 113) rfl rfl (fun z => ?_) (fun z => ?_)
      · omega
      · refine e_aload_n rfl rfl ?_
        refine e_iconst (v := nI 0) rfl ic_0N ?_
        refine e_putI rfl f5_40 (by assumption) rfl rfl ?_
        refine e_goto (tgt := 155) rfl rfl ?_
        refine e_return rfl rfl ?_
        rw [tokA, if_pos y]
        exact ⟨rfl, _, rfl, fun c hc => by rw [u2_row _ _ hc, f2 c hc], S2.up4 _⟩
    · have y : p < n := by assumption
      have eb := s1 p y
      have hb := s9 p
      have ny : ¬ n ≤ p := by omega
      refine e_aload_n rfl rfl ?_
      refine e_getP rfl f5_15 (by assumption) rfl (by assumption) ?_
      refine e_aload_n rfl rfl ?_
      refine e_getI rfl f5_37 (by assumption) rfl ?_
      rw [s3]
      first | refine e_baloadN rfl (by assumption) (by omega) (by omega) ?_ | refine e_zaloadN rfl (by assumption) (by omega) (by omega) ?_ | (refine e_baload rfl (by assumption) ?_ ?_; rotate_left) | (refine e_zaload rfl (by assumption) ?_ ?_; rotate_left)
      rw [eb]
      refine e_goto (tgt := 93) rfl rfl ?_
      refine e_ist1 rfl rfl rfl ?_
      refine e_aload_n rfl rfl ?_
      refine e_getI rfl f5_37 (by assumption) rfl ?_
      refine e_aload_n rfl rfl ?_
      refine e_getI rfl f5_33 (by assumption) rfl ?_
      rw [s2, s3]
      first | refine e_icmp_ltN (tgt := 113) rfl rfl (by omega) (by omega) (fun z => ?_) (fun z => ?_) | refine e_icmp_lt (tgt := 113) rfl rfl (fun z => ?_) (fun z => ?_)
      · have sign : isL (f p) = false → isD (f p) = false → Gw l G (d + 5) m5_advance 151 [.ref 30, .int (sg (f p))] [] (I2, J, K) (fun r h' => r = none ∧ ∃ I', h' = (I', J, K) ∧ (∀ c, c ≠ 30 → I' c = I c) ∧ SC I' f n (tokA f n p va).1 (tokA f n p va).2.1 (tokA f n p va).2.2.1 (tokA f n p va).2.2.2) := by
          intro n1 n2
          rw [tokA, if_neg ny, if_neg (by rw [n1]; decide), if_neg (by rw [n2]; decide)]
          refine e_aload_n rfl rfl ?_
          refine e_callV (kd := 5) (M2 := m5_takeSign) rfl v5_52 ok5_takeSign (c5_takeSign hK S2 y) rfl (by assumption) rfl rfl rfl rfl (fun r1 h1 q1 => ?_)
          obtain ⟨rfl, I3, rfl, f3, S3⟩ := q1
          refine e_return rfl rfl ?_
          exact ⟨rfl, I3, rfl, fun c hc => by rw [f3 c hc, f2 c hc], S3⟩
        have digit : isL (f p) = false → Gw l G (d + 5) m5_advance 132 [.ref 30, .int (sg (f p))] [] (I2, J, K) (fun r h' => r = none ∧ ∃ I', h' = (I', J, K) ∧ (∀ c, c ≠ 30 → I' c = I c) ∧ SC I' f n (tokA f n p va).1 (tokA f n p va).2.1 (tokA f n p va).2.2.1 (tokA f n p va).2.2.2) := fun n1 => by
          refine e_iload_n rfl rfl ?_
          refine e_bipush (v := nI 48) rfl bp_48N ?_
          first | refine e_icmp_ltN (tgt := 151) rfl rfl (by omega) (by omega) (fun z => ?_) (fun z => ?_) | refine e_icmp_lt (tgt := 151) rfl rfl (fun z => ?_) (fun z => ?_)
          · have yd := sg_lt' hb (by omega) z
            exact sign n1 (decide_eq_false (by omega))
          · have yd := sg_lt hb (by omega) z
            refine e_iload_n rfl rfl ?_
            refine e_bipush (v := nI 57) rfl bp_57N ?_
            first | refine e_icmp_gtN (tgt := 151) rfl rfl (by omega) (by omega) (fun z => ?_) (fun z => ?_) | refine e_icmp_gt (tgt := 151) rfl rfl (fun z => ?_) (fun z => ?_)
            · rw [sg_sm yd.2] at z
              have z9 := (nI_ltI (by omega) (by omega)).mp z
              exact sign n1 (decide_eq_false (by omega))
            · rw [sg_sm yd.2] at z
              have z9 : f p ≤ 57 := Nat.not_lt.mp (fun q => z ((nI_ltI (by omega) (by omega)).mpr q))
              rw [tokA, if_neg ny, if_neg (by rw [n1]; decide), if_pos (show isD (f p) = true from decide_eq_true (by omega))]
              refine e_aload_n rfl rfl ?_
              refine e_callV (kd := 5) (M2 := m5_takeNumber) rfl v5_49 ok5_takeNumber (c5_takeNumber hK S2) rfl (by assumption) rfl rfl rfl rfl (fun r1 h1 q1 => ?_)
              obtain ⟨rfl, I3, rfl, f3, S3⟩ := q1
              refine e_goto (tgt := 155) rfl rfl ?_
              refine e_return rfl rfl ?_
              exact ⟨rfl, I3, rfl, fun c hc => by rw [f3 c hc, f2 c hc], S3⟩
        refine e_iload_n rfl rfl ?_
        refine e_bipush (v := nI 97) rfl bp_97N ?_
        first | refine e_icmp_ltN (tgt := 132) rfl rfl (by omega) (by omega) (fun z => ?_) (fun z => ?_) | refine e_icmp_lt (tgt := 132) rfl rfl (fun z => ?_) (fun z => ?_)
        · have yd := sg_lt' hb (by omega) z
          exact digit (decide_eq_false (by omega))
        · have yd := sg_lt hb (by omega) z
          refine e_iload_n rfl rfl ?_
          refine e_bipush (v := nI 122) rfl bp_122N ?_
          first | refine e_icmp_gtN (tgt := 132) rfl rfl (by omega) (by omega) (fun z => ?_) (fun z => ?_) | refine e_icmp_gt (tgt := 132) rfl rfl (fun z => ?_) (fun z => ?_)
          · rw [sg_sm yd.2] at z
            have z9 := (nI_ltI (by omega) (by omega)).mp z
            exact digit (decide_eq_false (by omega))
          · rw [sg_sm yd.2] at z
            have z9 : f p ≤ 122 := Nat.not_lt.mp (fun q => z ((nI_ltI (by omega) (by omega)).mpr q))
            rw [tokA, if_neg ny, if_pos (show isL (f p) = true from decide_eq_true (by omega))]
            refine e_aload_n rfl rfl ?_
            refine e_callV (kd := 5) (M2 := m5_takeWord) rfl v5_46 ok5_takeWord (c5_takeWord hK S2) rfl (by assumption) rfl rfl rfl rfl (fun r1 h1 q1 => ?_)
            obtain ⟨rfl, I3, rfl, f3, S3⟩ := q1
            refine e_goto (tgt := 155) rfl rfl ?_
            refine e_return rfl rfl ?_
            exact ⟨rfl, I3, rfl, fun c hc => by rw [f3 c hc, f2 c hc], S3⟩
      · omega
  · exact absurd (by assumption) ht
theorem c5_advanceBad (h5 : (K.2.1 30).1 = 5) (ht : I 30 4 = -1) : Cw l G (d + 5) m5_advance [.ref 30] (I, J, K) (fun r h' => r = none ∧ h' = (I, J, K)) := by
  refine Cw.of ok5_advance rfl (rfl : argL _ _ = [.ref 30, .null]) ?_
  refine e_aload_n rfl rfl ?_
  refine e_getI rfl f5_40 (by assumption) rfl ?_
  rw [ht]
  refine e_iconst rfl ic_m1 ?_
  refine e_icmp_ne (tgt := 9) rfl rfl (fun z => absurd rfl z) (fun _ => ?_)
  refine e_return rfl rfl ?_
  exact ⟨rfl, rfl⟩
end MScan2
