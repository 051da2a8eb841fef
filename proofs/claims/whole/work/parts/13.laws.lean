/-! ===== isBit; Laws ===== -/
/-- the bit n of b, as the class has it -/
def bitOf (b n : Int32) : Bool := decide (¬ (b >>> (n &&& 31)) &&& nI 1 = 0)
def isLaws (K : Kt) (a : Nat) : Prop := (K.2.1 a).1 = 1 ∧ K.1 a 0 = some (a + 1) ∧ K.1 a 1 = some (a + 2) ∧ K.1 a 2 = some (a + 3) ∧ K.1 a 3 = some (a + 4) ∧ K.2.1 (a + 1) = (20, 64) ∧ K.2.1 (a + 2) = (20, 3) ∧ K.2.1 (a + 3) = (20, 3) ∧ K.2.1 (a + 4) = (23, 64)
abbrev MINL : Int64 := -9223372036854775808
abbrev MOSTL : Int64 := 1000000000000
/-- two values joined by a sign -/
def jn (t : Int32) (x y : Int64) : Int64 :=
  if t = nI 20 then (if x = 0 ∨ y = 0 then 0 else 1)
  else if t = nI 21 then (if x = 0 ∧ y = 0 then 0 else 1)
  else if t = nI 42 then (if (if x = 0 then MOSTL else MOSTL / (if x < 0 then -x else x)) < y ∨ y < -(if x = 0 then MOSTL else MOSTL / (if x < 0 then -x else x)) then MINL else x * y)
  else if t = nI 43 then x + y
  else if t = nI 45 then x - y
  else if t = nI 47 then (if y = 0 then MINL else x / y)
  else if t = nI 60 then (if x < y then 1 else 0)
  else if t = nI 61 then (if x = y then 1 else 0)
  else if t = nI 62 then (if y < x then 1 else 0)
  else if t = nI 256 then (if x ≤ y then 1 else 0)
  else if t = nI 257 then (if y ≤ x then 1 else 0)
  else if t = nI 258 then (if x = y then 0 else 1)
  else MINL
section MLaws
variable {l : Launch} {G : GG} {d : Nat} {I : IM} {J : JM} {K : Kt} {Q : Option Value → Hp → Prop} {a : Nat} {h : Hp}
theorem c9_isBit (b n : Int32) : Cp l G d m9_isBit [.int b, .int n] h (.int (bI (bitOf b n))) := by
  refine Cp.of ok9_isBit rfl (rfl : argL _ _ = [.int b, .int n]) ?_
  refine e_iload_n rfl rfl ?_
  refine e_iload_n rfl rfl ?_
  refine e_ishr rfl ?_
  refine e_iconst (v := nI 1) rfl ic_1N ?_
  refine e_iand rfl ?_
  first | refine e_if_eqB (tgt := 12) rfl rfl (fun z => ?_) (fun z => ?_) | refine e_if_eqN (tgt := 12) rfl rfl (by omega) (fun z => ?_) (fun z => ?_) | refine e_if_eq (tgt := 12) rfl rfl (fun z => ?_) (fun z => ?_)
  · refine e_iconst (v := nI 0) rfl ic_0N ?_
    refine e_zreturn rfl rfl ?_ ?_
    · exact Or.inl rfl
    · rw [bitOf, decide_eq_false (fun q => q z)]; exact ⟨rfl, rfl⟩
  · refine e_iconst (v := nI 1) rfl ic_1N ?_
    refine e_goto (tgt := 13) rfl rfl ?_
    refine e_zreturn rfl rfl ?_ ?_
    · exact Or.inr rfl
    · rw [bitOf, decide_eq_true z]; exact ⟨rfl, rfl⟩
theorem ne42 {a b : Nat} (h : a ≠ b) (ha : a < 2 ^ 31) (hb : b < 2 ^ 31) : ¬ nI a = nI b := fun q => h ((nI_eq ha hb).mp q)
set_option maxRecDepth 20000 in
theorem c1_joined (t : Int32) (x y : Int64) : Cp l G d m1_joined [.int t, .long x, .long y] h (.long (jn t x y)) := by
  refine Cp.of ok1_joined rfl (rfl : argL _ _ = [.int t, .long x, .null, .long y, .null, .null, .null]) ?_
  refine e_iload_n rfl rfl ?_
  refine sw1_joined_1 (fun z => ?_) (fun z => ?_) (fun z => ?_) (fun z => ?_) (fun z => ?_) (fun z => ?_) (fun z => ?_) (fun z => ?_) (fun z => ?_) (fun z => ?_) (fun z => ?_) (fun z => ?_) (fun z0 z1 z2 z3 z4 z5 z6 z7 z8 z9 z10 z11 => ?_)
  · subst z
    have e : jn (nI 20) x y = if x = 0 ∨ y = 0 then 0 else 1 := rfl
    rw [e]
    refine e_lload_n rfl rfl ?_
    refine e_lconst (v := 0) rfl rfl ?_
    refine e_lcmp rfl ?_
    first | refine e_if_eqC (tgt := 142) rfl rfl (fun z => ?_) (fun z => ?_) | refine e_if_eqB (tgt := 142) rfl rfl (fun z => ?_) (fun z => ?_) | refine e_if_eqN (tgt := 142) rfl rfl (by omega) (fun z => ?_) (fun z => ?_) | refine e_if_eq (tgt := 142) rfl rfl (fun z => ?_) (fun z => ?_)
    · refine e_lconst (v := 0) rfl rfl ?_
      refine e_lreturn rfl rfl ?_
      rw [if_pos (Or.inl (by assumption))]; exact ⟨rfl, rfl⟩
    · refine e_lload_n rfl rfl ?_
      refine e_lconst (v := 0) rfl rfl ?_
      refine e_lcmp rfl ?_
      first | refine e_if_eqC (tgt := 142) rfl rfl (fun z => ?_) (fun z => ?_) | refine e_if_eqB (tgt := 142) rfl rfl (fun z => ?_) (fun z => ?_) | refine e_if_eqN (tgt := 142) rfl rfl (by omega) (fun z => ?_) (fun z => ?_) | refine e_if_eq (tgt := 142) rfl rfl (fun z => ?_) (fun z => ?_)
      · refine e_lconst (v := 0) rfl rfl ?_
        refine e_lreturn rfl rfl ?_
        rw [if_pos (Or.inr (by assumption))]; exact ⟨rfl, rfl⟩
      · refine e_lconst (v := 1) rfl rfl ?_
        refine e_goto (tgt := 143) rfl rfl ?_
        refine e_lreturn rfl rfl ?_
        rw [if_neg (fun q => q.elim (by assumption) (by assumption))]; exact ⟨rfl, rfl⟩
  · subst z
    have e : jn (nI 21) x y = if x = 0 ∧ y = 0 then 0 else 1 := rfl
    rw [e]
    refine e_lload_n rfl rfl ?_
    refine e_lconst (v := 0) rfl rfl ?_
    refine e_lcmp rfl ?_
    first | refine e_if_neC (tgt := 120) rfl rfl (fun z => ?_) (fun z => ?_) | refine e_if_neB (tgt := 120) rfl rfl (fun z => ?_) (fun z => ?_) | refine e_if_neN (tgt := 120) rfl rfl (by omega) (fun z => ?_) (fun z => ?_) | refine e_if_ne (tgt := 120) rfl rfl (fun z => ?_) (fun z => ?_)
    · refine e_lconst (v := 1) rfl rfl ?_
      refine e_goto (tgt := 125) rfl rfl ?_
      refine e_lreturn rfl rfl ?_
      rw [if_neg (fun q => absurd q.1 (by assumption))]; exact ⟨rfl, rfl⟩
    · refine e_lload_n rfl rfl ?_
      refine e_lconst (v := 0) rfl rfl ?_
      refine e_lcmp rfl ?_
      first | refine e_if_eqC (tgt := 124) rfl rfl (fun z => ?_) (fun z => ?_) | refine e_if_eqB (tgt := 124) rfl rfl (fun z => ?_) (fun z => ?_) | refine e_if_eqN (tgt := 124) rfl rfl (by omega) (fun z => ?_) (fun z => ?_) | refine e_if_eq (tgt := 124) rfl rfl (fun z => ?_) (fun z => ?_)
      · refine e_lconst (v := 0) rfl rfl ?_
        refine e_lreturn rfl rfl ?_
        rw [if_pos ⟨by assumption, by assumption⟩]; exact ⟨rfl, rfl⟩
      · refine e_lconst (v := 1) rfl rfl ?_
        refine e_goto (tgt := 125) rfl rfl ?_
        refine e_lreturn rfl rfl ?_
        rw [if_neg (fun q => absurd q.2 (by assumption))]; exact ⟨rfl, rfl⟩
  · subst z
    have e : jn (nI 42) x y = if (if x = 0 then MOSTL else MOSTL / (if x < 0 then -x else x)) < y ∨ y < -(if x = 0 then MOSTL else MOSTL / (if x < 0 then -x else x)) then MINL else x * y := rfl
    rw [e]
    have tail : ∀ w : Int64, w = (if x = 0 then MOSTL else MOSTL / (if x < 0 then -x else x)) → Gw l G d m1_joined 252 [.int (nI 42), .long x, .null, .long y, .null, .null, .null] [.long w] h (fun r h' => r = some (.long (if (if x = 0 then MOSTL else MOSTL / (if x < 0 then -x else x)) < y ∨ y < -(if x = 0 then MOSTL else MOSTL / (if x < 0 then -x else x)) then MINL else x * y)) ∧ h' = h) := by
      intro w hw
      rw [← hw]
      refine e_lst5 rfl rfl rfl ?_
      refine e_lload_n rfl rfl ?_
      refine e_lload rfl rfl ?_
      refine e_lcmp rfl ?_
      first | refine e_if_gtC (tgt := 269) rfl rfl (fun z => ?_) (fun z => ?_) | refine e_if_gtN (tgt := 269) rfl rfl (by omega) (fun z => ?_) (fun z => ?_) | refine e_if_gt (tgt := 269) rfl rfl (fun z => ?_) (fun z => ?_)
      · refine e_ldc2 rfl k1_51 ?_
        refine e_goto (tgt := 278) rfl rfl ?_
        refine e_lreturn rfl rfl ?_
        rw [if_pos (Or.inl (by assumption))]; exact ⟨rfl, rfl⟩
      · refine e_lload_n rfl rfl ?_
        refine e_lload rfl rfl ?_
        refine e_lneg rfl ?_
        refine e_lcmp rfl ?_
        first | refine e_if_geC (tgt := 275) rfl rfl (fun z => ?_) (fun z => ?_) | refine e_if_geN (tgt := 275) rfl rfl (by omega) ?_ | refine e_if_ge (tgt := 275) rfl rfl (fun z => ?_) (fun z => ?_)
        · refine e_lload_n rfl rfl ?_
          refine e_lload_n rfl rfl ?_
          refine e_lmul rfl ?_
          refine e_lreturn rfl rfl ?_
          rw [if_neg (fun q => q.elim (by assumption) (fun q => absurd (Int64.not_lt.mpr (by assumption)) (fun p => p q)))]; exact ⟨rfl, rfl⟩
        · refine e_ldc2 rfl k1_51 ?_
          refine e_goto (tgt := 278) rfl rfl ?_
          refine e_lreturn rfl rfl ?_
          rw [if_pos (Or.inr (Int64.not_le.mp (by assumption)))]; exact ⟨rfl, rfl⟩
    refine e_lload_n rfl rfl ?_
    refine e_lconst (v := 0) rfl rfl ?_
    refine e_lcmp rfl ?_
    first | refine e_if_neC (tgt := 236) rfl rfl (fun z => ?_) (fun z => ?_) | refine e_if_neB (tgt := 236) rfl rfl (fun z => ?_) (fun z => ?_) | refine e_if_neN (tgt := 236) rfl rfl (by omega) (fun z => ?_) (fun z => ?_) | refine e_if_ne (tgt := 236) rfl rfl (fun z => ?_) (fun z => ?_)
    · refine e_ldc2 rfl k1_57 ?_
      refine e_lload_n rfl rfl ?_
      refine e_lconst (v := 0) rfl rfl ?_
      refine e_lcmp rfl ?_
      first | refine e_if_geC (tgt := 250) rfl rfl (fun z => ?_) (fun z => ?_) | refine e_if_geN (tgt := 250) rfl rfl (by omega) ?_ | refine e_if_ge (tgt := 250) rfl rfl (fun z => ?_) (fun z => ?_)
      · refine e_lload_n rfl rfl ?_
        have hx : ¬ x = 0 := by assumption
        refine e_ldiv rfl hx ?_
        refine tail _ ?_
        rw [if_neg hx, if_neg (Int64.not_lt.mpr (by assumption))]
      · refine e_lload_n rfl rfl ?_
        refine e_lneg rfl ?_
        refine e_goto (tgt := 251) rfl rfl ?_
        have hx : ¬ x = 0 := by assumption
        refine e_ldiv rfl (fun q => hx (by have e2 := Int64.neg_neg (a := x); rw [q] at e2; exact e2.symm.trans (by decide))) ?_
        refine tail _ ?_
        rw [if_neg hx, if_pos (Int64.not_le.mp (by assumption))]
    · refine e_ldc2 rfl k1_57 ?_
      refine e_goto (tgt := 252) rfl rfl ?_
      refine tail _ ?_
      rw [if_pos (by assumption)]
  · subst z
    refine e_lload_n rfl rfl ?_
    refine e_lload_n rfl rfl ?_
    refine e_ladd rfl ?_
    refine e_lreturn rfl rfl ?_
    exact ⟨rfl, rfl⟩
  · subst z
    refine e_lload_n rfl rfl ?_
    refine e_lload_n rfl rfl ?_
    refine e_lsub rfl ?_
    refine e_lreturn rfl rfl ?_
    exact ⟨rfl, rfl⟩
  · subst z
    have e : jn (nI 47) x y = if y = 0 then MINL else x / y := rfl
    rw [e]
    refine e_lload_n rfl rfl ?_
    refine e_lconst (v := 0) rfl rfl ?_
    refine e_lcmp rfl ?_
    first | refine e_if_neC (tgt := 291) rfl rfl (fun z => ?_) (fun z => ?_) | refine e_if_neB (tgt := 291) rfl rfl (fun z => ?_) (fun z => ?_) | refine e_if_neN (tgt := 291) rfl rfl (by omega) (fun z => ?_) (fun z => ?_) | refine e_if_ne (tgt := 291) rfl rfl (fun z => ?_) (fun z => ?_)
    · have hy : ¬ y = 0 := by assumption
      refine e_lload_n rfl rfl ?_
      refine e_lload_n rfl rfl ?_
      refine e_ldiv rfl (by first | assumption | decide) ?_
      refine e_lreturn rfl rfl ?_
      rw [if_neg hy]; exact ⟨rfl, rfl⟩
    · refine e_ldc2 rfl k1_51 ?_
      refine e_goto (tgt := 294) rfl rfl ?_
      refine e_lreturn rfl rfl ?_
      rw [if_pos (by assumption)]; exact ⟨rfl, rfl⟩
  · subst z
    have e : jn (nI 60) x y = if x < y then 1 else 0 := rfl
    rw [e]
    refine e_lload_n rfl rfl ?_
    refine e_lload_n rfl rfl ?_
    refine e_lcmp rfl ?_
    first | refine e_if_geC (tgt := 154) rfl rfl (fun z => ?_) (fun z => ?_) | refine e_if_geN (tgt := 154) rfl rfl (by omega) ?_ | refine e_if_ge (tgt := 154) rfl rfl (fun z => ?_) (fun z => ?_)
    · refine e_lconst (v := 0) rfl rfl ?_
      refine e_lreturn rfl rfl ?_
      rw [if_neg (Int64.not_lt.mpr (by assumption))]; exact ⟨rfl, rfl⟩
    · refine e_lconst (v := 1) rfl rfl ?_
      refine e_goto (tgt := 155) rfl rfl ?_
      refine e_lreturn rfl rfl ?_
      rw [if_pos (Int64.not_le.mp (by assumption))]; exact ⟨rfl, rfl⟩
  · subst z
    have e : jn (nI 61) x y = if x = y then 1 else 0 := rfl
    rw [e]
    refine e_lload_n rfl rfl ?_
    refine e_lload_n rfl rfl ?_
    refine e_lcmp rfl ?_
    first | refine e_if_neC (tgt := 178) rfl rfl (fun z => ?_) (fun z => ?_) | refine e_if_neB (tgt := 178) rfl rfl (fun z => ?_) (fun z => ?_) | refine e_if_neN (tgt := 178) rfl rfl (by omega) (fun z => ?_) (fun z => ?_) | refine e_if_ne (tgt := 178) rfl rfl (fun z => ?_) (fun z => ?_)
    · refine e_lconst (v := 0) rfl rfl ?_
      refine e_lreturn rfl rfl ?_
      rw [if_neg (by assumption)]; exact ⟨rfl, rfl⟩
    · refine e_lconst (v := 1) rfl rfl ?_
      refine e_goto (tgt := 179) rfl rfl ?_
      refine e_lreturn rfl rfl ?_
      rw [if_pos (by assumption)]; exact ⟨rfl, rfl⟩
  · subst z
    have e : jn (nI 62) x y = if y < x then 1 else 0 := rfl
    rw [e]
    refine e_lload_n rfl rfl ?_
    refine e_lload_n rfl rfl ?_
    refine e_lcmp rfl ?_
    first | refine e_if_leC (tgt := 214) rfl rfl (fun z => ?_) (fun z => ?_) | refine e_if_leN (tgt := 214) rfl rfl (by omega) (fun z => ?_) (fun z => ?_) | refine e_if_le (tgt := 214) rfl rfl (fun z => ?_) (fun z => ?_)
    · refine e_lconst (v := 0) rfl rfl ?_
      refine e_lreturn rfl rfl ?_
      rw [if_neg (Int64.not_lt.mpr (by assumption))]; exact ⟨rfl, rfl⟩
    · refine e_lconst (v := 1) rfl rfl ?_
      refine e_goto (tgt := 215) rfl rfl ?_
      refine e_lreturn rfl rfl ?_
      rw [if_pos (Int64.not_le.mp (by assumption))]; exact ⟨rfl, rfl⟩
  · subst z
    have e : jn (nI 256) x y = if x ≤ y then 1 else 0 := rfl
    rw [e]
    refine e_lload_n rfl rfl ?_
    refine e_lload_n rfl rfl ?_
    refine e_lcmp rfl ?_
    first | refine e_if_gtC (tgt := 166) rfl rfl (fun z => ?_) (fun z => ?_) | refine e_if_gtN (tgt := 166) rfl rfl (by omega) (fun z => ?_) (fun z => ?_) | refine e_if_gt (tgt := 166) rfl rfl (fun z => ?_) (fun z => ?_)
    · refine e_lconst (v := 0) rfl rfl ?_
      refine e_lreturn rfl rfl ?_
      rw [if_neg (Int64.not_le.mpr (by assumption))]; exact ⟨rfl, rfl⟩
    · refine e_lconst (v := 1) rfl rfl ?_
      refine e_goto (tgt := 167) rfl rfl ?_
      refine e_lreturn rfl rfl ?_
      rw [if_pos (Int64.not_lt.mp (by assumption))]; exact ⟨rfl, rfl⟩
  · subst z
    have e : jn (nI 257) x y = if y ≤ x then 1 else 0 := rfl
    rw [e]
    refine e_lload_n rfl rfl ?_
    refine e_lload_n rfl rfl ?_
    refine e_lcmp rfl ?_
    first | refine e_if_ltC (tgt := 202) rfl rfl (fun z => ?_) (fun z => ?_) | refine e_if_ltN (tgt := 202) rfl rfl (by omega) ?_ | refine e_if_lt (tgt := 202) rfl rfl (fun z => ?_) (fun z => ?_)
    · refine e_lconst (v := 0) rfl rfl ?_
      refine e_lreturn rfl rfl ?_
      rw [if_neg (Int64.not_le.mpr (by assumption))]; exact ⟨rfl, rfl⟩
    · refine e_lconst (v := 1) rfl rfl ?_
      refine e_goto (tgt := 203) rfl rfl ?_
      refine e_lreturn rfl rfl ?_
      rw [if_pos (Int64.not_lt.mp (by assumption))]; exact ⟨rfl, rfl⟩
  · subst z
    have e : jn (nI 258) x y = if x = y then 0 else 1 := rfl
    rw [e]
    refine e_lload_n rfl rfl ?_
    refine e_lload_n rfl rfl ?_
    refine e_lcmp rfl ?_
    first | refine e_if_eqC (tgt := 190) rfl rfl (fun z => ?_) (fun z => ?_) | refine e_if_eqB (tgt := 190) rfl rfl (fun z => ?_) (fun z => ?_) | refine e_if_eqN (tgt := 190) rfl rfl (by omega) (fun z => ?_) (fun z => ?_) | refine e_if_eq (tgt := 190) rfl rfl (fun z => ?_) (fun z => ?_)
    · refine e_lconst (v := 0) rfl rfl ?_
      refine e_lreturn rfl rfl ?_
      rw [if_pos (by assumption)]; exact ⟨rfl, rfl⟩
    · refine e_lconst (v := 1) rfl rfl ?_
      refine e_goto (tgt := 191) rfl rfl ?_
      refine e_lreturn rfl rfl ?_
      rw [if_neg (by assumption)]; exact ⟨rfl, rfl⟩
  · have e : jn t x y = MINL := by
      unfold jn
      rw [if_neg z0, if_neg z1, if_neg z2, if_neg z3, if_neg z4, if_neg z5, if_neg z6, if_neg z7, if_neg z8, if_neg z9, if_neg z10, if_neg z11]
    rw [e]
    refine e_ldc2 rfl k1_51 ?_
    refine e_lreturn rfl rfl ?_
    exact ⟨rfl, rfl⟩
theorem c1_has (h1 : (K.2.1 a).1 = 1) (t : Int32) : Cp l G (d + 1) m1_has [.ref a, .int t] (I, J, K) (.int (bI (inN 3 t && bitOf (I a 5) t))) := by
  refine Cp.of ok1_has rfl (rfl : argL _ _ = [.ref a, .int t]) ?_
  refine e_iload_n rfl rfl ?_
  first | refine e_if_ltN (tgt := 24) rfl rfl (by omega) ?_ | refine e_if_lt (tgt := 24) rfl rfl (fun z => ?_) (fun z => ?_)
  · refine e_iconst (v := nI 0) rfl ic_0N ?_
    refine e_zreturn rfl rfl ?_ ?_
    · exact Or.inl rfl
    · rw [inN, decide_eq_false (fun q => absurd z (Int32.not_lt.mpr q.1))]; exact ⟨rfl, rfl⟩
  · refine e_iload_n rfl rfl ?_
    refine e_iconst (v := nI 3) rfl ic_3N ?_
    first | refine e_icmp_geN (tgt := 24) rfl rfl (by omega) (by omega) (fun z => ?_) (fun z => ?_) | refine e_icmp_ge (tgt := 24) rfl rfl (fun z => ?_) (fun z => ?_)
    · refine e_iconst (v := nI 0) rfl ic_0N ?_
      refine e_zreturn rfl rfl ?_ ?_
      · exact Or.inl rfl
      · rw [inN, decide_eq_false (fun q => absurd q.2 (Int32.not_lt.mpr (by assumption)))]; exact ⟨rfl, rfl⟩
    · rw [inN, decide_eq_true ⟨Int32.not_lt.mp (by assumption), Int32.not_le.mp (by assumption)⟩, Bool.true_and]
      refine e_aload_n rfl rfl ?_
      refine e_getI rfl f1_32 (by assumption) rfl ?_
      refine e_iload_n rfl rfl ?_
      refine e_callSNp (M2 := m9_isBit) rfl v1_41 ok9_isBit (c9_isBit (I a 5) t) rfl rfl rfl ?_
      first | refine e_if_eqB (tgt := 24) rfl rfl (fun z => ?_) (fun z => ?_) | refine e_if_eqN (tgt := 24) rfl rfl (by omega) (fun z => ?_) (fun z => ?_) | refine e_if_eq (tgt := 24) rfl rfl (fun z => ?_) (fun z => ?_)
      · refine e_iconst (v := nI 0) rfl ic_0N ?_
        refine e_zreturn rfl rfl ?_ ?_
        · exact Or.inl rfl
        · rw [z]; exact ⟨rfl, rfl⟩
      · refine e_iconst (v := nI 1) rfl ic_1N ?_
        refine e_goto (tgt := 25) rfl rfl ?_
        refine e_zreturn rfl rfl ?_ ?_
        · exact Or.inr rfl
        · rw [z]; exact ⟨rfl, rfl⟩
/-- the pile's cells hold the values, the last one first -/
def pileIs (f : Nat → Int64) : List Int64 → Prop
  | [] => True
  | v :: r => f r.length = v ∧ pileIs f r
theorem pileIs_keep {f g : Nat → Int64} : ∀ {pl : List Int64}, pileIs f pl → (∀ j, j < pl.length → g j = f j) → pileIs g pl
  | [], _, _ => trivial
  | v :: r, h, e => ⟨(e r.length (by simp)).trans h.1, pileIs_keep h.2 (fun j hj => e j (by simp; omega))⟩
/-- a step of an E: none is an ERROR -/
def stW (c : Int32) (nm : Nat → Int32) (pl : List Int64) : Option (List Int64) :=
  if ¬ 0 < -c then some ((- -c).toInt64 :: pl)
  else if nI 12 ≤ -c ∧ -c ≤ nI 18 then some ((nm (-c - nI 12).toNatClampNeg).toInt64 :: pl)
  else match pl with
    | [] => some []
    | [y] => some (if -c = nI 19 then [if y = 0 then 1 else 0] else [y])
    | y :: x :: r => if -c = nI 19 then some ((if y = 0 then 1 else 0) :: x :: r)
      else if MOSTL < jn (-c) x y ∨ jn (-c) x y < -MOSTL then none else some (jn (-c) x y :: r)
def finW : List Int64 → Int64
  | [v] => v
  | _ => MINL
/-- an E worked out: code behind code, numbers as they are, all else below 0 -/
def evW (code : Nat → Int32) (nm : Nat → Int32) : Nat → Nat → List Int64 → Int64
  | 0, _, pl => finW pl
  | k + 1, i, pl => match stW (code i) nm pl with
    | none => MINL
    | some pl' => evW code nm k (i + 1) pl'
theorem evW_some {code nm : Nat → Int32} {k i : Nat} {pl pl' : List Int64} (h : stW (code i) nm pl = some pl') : evW code nm (k + 1) i pl = evW code nm k (i + 1) pl' := by rw [evW, h]
theorem evW_none {code nm : Nat → Int32} {k i : Nat} {pl : List Int64} (h : stW (code i) nm pl = none) : evW code nm (k + 1) i pl = MINL := by rw [evW, h]
theorem stW_num {c : Int32} {nm : Nat → Int32} {pl : List Int64} (h : ¬ 0 < -c) : stW c nm pl = some ((- -c).toInt64 :: pl) := by unfold stW; rw [if_pos h]
theorem stW_nam {c : Int32} {nm : Nat → Int32} {pl : List Int64} (h : 0 < -c) (h2 : nI 12 ≤ -c ∧ -c ≤ nI 18) : stW c nm pl = some ((nm (-c - nI 12).toNatClampNeg).toInt64 :: pl) := by unfold stW; rw [if_neg (fun q => q h), if_pos h2]
theorem stW_not {c : Int32} {nm : Nat → Int32} {y : Int64} {r : List Int64} (h : 0 < -c) (h2 : ¬ (nI 12 ≤ -c ∧ -c ≤ nI 18)) (h3 : -c = nI 19) : stW c nm (y :: r) = some ((if y = 0 then 1 else 0) :: r) := by
  unfold stW
  rw [if_neg (fun q => q h), if_neg h2]
  cases r with
  | nil => simp only [if_pos h3]
  | cons x r => simp only [if_pos h3]
theorem stW_nil {c : Int32} {nm : Nat → Int32} (h : 0 < -c) (h2 : ¬ (nI 12 ≤ -c ∧ -c ≤ nI 18)) : stW c nm [] = some [] := by
  unfold stW
  rw [if_neg (fun q => q h), if_neg h2]
theorem stW_one {c : Int32} {nm : Nat → Int32} {y : Int64} (h : 0 < -c) (h2 : ¬ (nI 12 ≤ -c ∧ -c ≤ nI 18)) (h3 : ¬ -c = nI 19) : stW c nm [y] = some [y] := by
  unfold stW
  rw [if_neg (fun q => q h), if_neg h2]
  simp only [if_neg h3]
theorem stW_bin {c : Int32} {nm : Nat → Int32} {x y : Int64} {r : List Int64} (h : 0 < -c) (h2 : ¬ (nI 12 ≤ -c ∧ -c ≤ nI 18)) (h3 : ¬ -c = nI 19) : stW c nm (y :: x :: r) = if MOSTL < jn (-c) x y ∨ jn (-c) x y < -MOSTL then none else some (jn (-c) x y :: r) := by
  unfold stW
  rw [if_neg (fun q => q h), if_neg h2]
  simp only [if_neg h3]
theorem nI12 {c : Int32} (h1 : nI 12 ≤ c) (h2 : c ≤ nI 18) : ∃ j, j < 7 ∧ c - nI 12 = nI j := by
  obtain ⟨j, hj, rfl⟩ := nI_of (Int32.not_lt.mpr (Int32.le_trans (nI_pos' (n := 12) (by omega)) h1))
  have a1 := (nI_leI (by omega) hj).mp h1
  have a2 := (nI_leI hj (by omega)).mp h2
  exact ⟨j - 12, by omega, pk_sub a1⟩
set_option maxRecDepth 20000 in
set_option maxHeartbeats 4000000 in
theorem work_loop (hS : isLaws K a) {b : Nat} (hb : K.2.1 b = (20, 7)) {w u : Nat} (hw : w < 3) (hu : I (a + 3) w = nI u) (hu64 : u ≤ 64) : ∀ k i pl J v5, i + k = u → pl.length ≤ i → pileIs (J (a + 4)) pl → (∀ J', (∀ c, c ≠ a + 4 → J' c = J c) → Q (some (.long (evW (I (a + 1)) (I b) k i pl))) (I, J', K)) → Gw l G (d + 1) m1_work 29 [.ref a, .int (nI w), .ref b, .int (nI pl.length), .int (nI i), v5] [] (I, J, K) Q := by
  obtain ⟨h1, p0, p1, p2, p3, a1, a2, a3, a4⟩ := hS
  intro k
  induction k with
  | zero =>
    intro i pl J v5 hi hl hp hq
    refine e_iload rfl rfl ?_
    refine e_aload_n rfl rfl ?_
    refine e_getP rfl f1_18 (by assumption) rfl (by assumption) ?_
    refine e_iload_n rfl rfl ?_
    first | refine e_ialoadN rfl (by assumption) (by omega) (by omega) ?_ | (refine e_iaload rfl (by assumption) ?_ ?_; rotate_left)
    rw [hu]
    first | refine e_icmp_geN (tgt := 234) rfl rfl (by omega) (by omega) (fun z => ?_) (fun z => ?_) | refine e_icmp_ge (tgt := 234) rfl rfl (fun z => ?_) (fun z => ?_)
    · refine e_iload_n rfl rfl ?_
      refine e_iconst (v := nI 1) rfl ic_1N ?_
      first | refine e_icmp_neN (tgt := 248) rfl rfl (by omega) (by omega) (fun z => ?_) (fun z => ?_) | refine e_icmp_ne (tgt := 248) rfl rfl (fun z => ?_) (fun z => ?_)
      · refine e_ldc2 rfl k1_51 ?_
        refine e_lreturn rfl rfl ?_
        have e : evW (I (a + 1)) (I b) 0 i pl = MINL := by
          show finW pl = MINL
          match pl with
          | [] => rfl
          | [x] => simp at z
          | x :: y :: r => rfl
        rw [e] at hq
        exact hq J (fun _ _ => rfl)
      · refine e_aload_n rfl rfl ?_
        refine e_getP rfl f1_21 (by assumption) rfl (by assumption) ?_
        refine e_iconst (v := nI 0) rfl ic_0N ?_
        first | refine e_laloadN rfl (by assumption) (by omega) (by omega) ?_ | (refine e_laload rfl (by assumption) ?_ ?_; rotate_left)
        refine e_goto (tgt := 251) rfl rfl ?_
        refine e_lreturn rfl rfl ?_
        match pl, hp, hq, z with
        | [x], hp, hq, _ =>
          have hp1 : J (a + 4) 0 = x := hp.1
          rw [hp1]
          exact hq J (fun _ _ => rfl)
    · omega
  | succ k ih =>
    intro i pl J v5 hi hl hp hq
    have put : ∀ (v : Int64) (r : List Int64) (v5' : Value), r.length ≤ i → pileIs (J (a + 4)) r → (∀ J', (∀ c, c ≠ a + 4 → J' c = J c) → Q (some (.long (evW (I (a + 1)) (I b) k (i + 1) (v :: r)))) (I, J', K)) → Gw l G (d + 1) m1_work 29 [.ref a, .int (nI w), .ref b, .int (nI (v :: r).length), .int (nI (i + 1)), v5'] [] (I, u2 J (a + 4) r.length v, K) Q := by
      intro v r v5' hr hpr hq2
      refine ih (i + 1) (v :: r) _ v5' (by omega) (by simp; omega) ⟨u2_at _ _ _ _, pileIs_keep hpr (fun j hj => u2_nk _ _ (by omega))⟩ ?_
      intro J' e
      exact hq2 J' (fun c hc => (e c hc).trans (u2_row _ _ hc))
    refine e_iload rfl rfl ?_
    refine e_aload_n rfl rfl ?_
    refine e_getP rfl f1_18 (by assumption) rfl (by assumption) ?_
    refine e_iload_n rfl rfl ?_
    first | refine e_ialoadN rfl (by assumption) (by omega) (by omega) ?_ | (refine e_iaload rfl (by assumption) ?_ ?_; rotate_left)
    rw [hu]
    first | refine e_icmp_geN (tgt := 234) rfl rfl (by omega) (by omega) (fun z => ?_) (fun z => ?_) | refine e_icmp_ge (tgt := 234) rfl rfl (fun z => ?_) (fun z => ?_)
    · omega
    refine e_iload rfl rfl ?_
    refine e_bipush (v := nI 64) rfl bp_64N ?_
    first | refine e_icmp_geN (tgt := 234) rfl rfl (by omega) (by omega) (fun z => ?_) (fun z => ?_) | refine e_icmp_ge (tgt := 234) rfl rfl (fun z => ?_) (fun z => ?_)
    · omega
    refine e_iload_n rfl rfl ?_
    refine e_bipush (v := nI 64) rfl bp_64N ?_
    first | refine e_icmp_geN (tgt := 234) rfl rfl (by omega) (by omega) (fun z => ?_) (fun z => ?_) | refine e_icmp_ge (tgt := 234) rfl rfl (fun z => ?_) (fun z => ?_)
    · omega
    · refine e_aload_n rfl rfl ?_
      refine e_getP rfl f1_9 (by assumption) rfl (by assumption) ?_
      refine e_iload rfl rfl ?_
      first | refine e_ialoadN rfl (by assumption) (by omega) (by omega) ?_ | (refine e_iaload rfl (by assumption) ?_ ?_; rotate_left)
      refine e_ineg rfl ?_
      refine e_ist5 rfl rfl rfl ?_
      refine e_iload rfl rfl ?_
      first | refine e_if_gtN (tgt := 84) rfl rfl (by omega) (fun z => ?_) (fun z => ?_) | refine e_if_gt (tgt := 84) rfl rfl (fun z => ?_) (fun z => ?_)
      · have zt : 0 < -(I (a + 1) i) := by assumption
        have notn : ¬ (nI 12 ≤ -(I (a + 1) i) ∧ -(I (a + 1) i) ≤ nI 18) → Gw l G (d + 1) m1_work 118 [.ref a, .int (nI w), .ref b, .int (nI pl.length), .int (nI i), .int (-(I (a + 1) i))] [] (I, J, K) Q := by
          intro hn
          refine e_iload rfl rfl ?_
          refine e_bipush (v := nI 19) rfl bp_19N ?_
          first | refine e_icmp_neN (tgt := 159) rfl rfl (by omega) (by omega) (fun z => ?_) (fun z => ?_) | refine e_icmp_ne (tgt := 159) rfl rfl (fun z => ?_) (fun z => ?_)
          · have z19 : ¬ -(I (a + 1) i) = nI 19 := by assumption
            refine e_iload_n rfl rfl ?_
            refine e_iconst (v := nI 2) rfl ic_2N ?_
            first | refine e_icmp_ltN (tgt := 228) rfl rfl (by omega) (by omega) (fun z => ?_) (fun z => ?_) | refine e_icmp_lt (tgt := 228) rfl rfl (fun z => ?_) (fun z => ?_)
            · first | refine e_inc4 rfl rfl rfl (incN1 _) ?_ | refine e_inc4 rfl rfl rfl rfl ?_
              refine e_goto (tgt := 29) rfl rfl ?_
              refine ih (i + 1) pl J _ (by omega) (by omega) hp ?_
              match pl, hq, z with
              | [], hq, _ => rw [evW_some (stW_nil zt hn)] at hq; exact hq
              | [y], hq, _ => rw [evW_some (stW_one zt hn z19)] at hq; exact hq
              | x :: y :: r, hq, z => simp at z; omega
            · match pl, hp, hl, hq, z with
              | y :: x :: r, hp, hl, hq, z =>
                have hbin := stW_bin (nm := I b) (x := x) (y := y) (r := r) zt hn z19
                have hp1 : J (a + 4) (r.length + 1) = y := hp.1
                have hp2 : J (a + 4) r.length = x := hp.2.1
                simp only [List.length_cons] at hl
                first | refine e_inc3 rfl rfl rfl (decN1 (by omega)) ?_ | refine e_inc3 rfl rfl rfl rfl ?_
                refine e_aload_n rfl rfl ?_
                refine e_getP rfl f1_21 (by assumption) rfl (by assumption) ?_
                simp only [List.length_cons, show r.length + 1 + 1 - 1 = r.length + 1 by omega]
                refine e_iload_n rfl rfl ?_
                refine e_iconst (v := nI 1) rfl ic_1N ?_
                first | refine e_isubN rfl (by omega) ?_ | refine e_isub rfl ?_
                refine e_iload rfl rfl ?_
                refine e_aload_n rfl rfl ?_
                refine e_getP rfl f1_21 (by assumption) rfl (by assumption) ?_
                refine e_iload_n rfl rfl ?_
                refine e_iconst (v := nI 1) rfl ic_1N ?_
                first | refine e_isubN rfl (by omega) ?_ | refine e_isub rfl ?_
                first | refine e_laloadN rfl (by assumption) (by omega) (by omega) ?_ | (refine e_laload rfl (by assumption) ?_ ?_; rotate_left)
                refine e_aload_n rfl rfl ?_
                refine e_getP rfl f1_21 (by assumption) rfl (by assumption) ?_
                refine e_iload_n rfl rfl ?_
                first | refine e_laloadN rfl (by assumption) (by omega) (by omega) ?_ | (refine e_laload rfl (by assumption) ?_ ?_; rotate_left)
                simp only [show r.length + 1 - 1 = r.length by omega, hp1, hp2]
                refine e_callSp (M2 := m1_joined) rfl v1_53 ok1_joined (c1_joined _ _ _) rfl rfl rfl ?_
                first | refine e_lastoreN rfl (by assumption) (by omega) (by omega) ?_ | (refine e_lastore rfl (by assumption) ?_ ?_; rotate_left)
                refine e_aload_n rfl rfl ?_
                refine e_getP rfl f1_21 (by assumption) rfl (by assumption) ?_
                refine e_iload_n rfl rfl ?_
                refine e_iconst (v := nI 1) rfl ic_1N ?_
                first | refine e_isubN rfl (by omega) ?_ | refine e_isub rfl ?_
                first | refine e_laloadN rfl (by assumption) (by omega) (by omega) ?_ | (refine e_laload rfl (by assumption) ?_ ?_; rotate_left)
                simp only [show r.length + 1 - 1 = r.length by omega, u2_at]
                refine e_ldc2 rfl k1_57 ?_
                refine e_lcmp rfl ?_
                first | refine e_if_gtC (tgt := 224) rfl rfl (fun z => ?_) (fun z => ?_) | refine e_if_gtN (tgt := 224) rfl rfl (by omega) (fun z => ?_) (fun z => ?_) | refine e_if_gt (tgt := 224) rfl rfl (fun z => ?_) (fun z => ?_)
                · refine e_ldc2 rfl k1_51 ?_
                  refine e_lreturn rfl rfl ?_
                  rw [if_pos (Or.inl (by assumption))] at hbin
                  rw [evW_none hbin] at hq
                  exact hq _ (fun c hc => u2_row _ _ hc)
                · refine e_aload_n rfl rfl ?_
                  refine e_getP rfl f1_21 (by assumption) rfl (by assumption) ?_
                  refine e_iload_n rfl rfl ?_
                  refine e_iconst (v := nI 1) rfl ic_1N ?_
                  first | refine e_isubN rfl (by omega) ?_ | refine e_isub rfl ?_
                  first | refine e_laloadN rfl (by assumption) (by omega) (by omega) ?_ | (refine e_laload rfl (by assumption) ?_ ?_; rotate_left)
                  simp only [show r.length + 1 - 1 = r.length by omega, u2_at]
                  refine e_ldc2 rfl k1_59 ?_
                  refine e_lcmp rfl ?_
                  first | refine e_if_geC (tgt := 228) rfl rfl (fun z => ?_) (fun z => ?_) | refine e_if_geN (tgt := 228) rfl rfl (by omega) ?_ | refine e_if_ge (tgt := 228) rfl rfl (fun z => ?_) (fun z => ?_)
                  · first | refine e_inc4 rfl rfl rfl (incN1 _) ?_ | refine e_inc4 rfl rfl rfl rfl ?_
                    refine e_goto (tgt := 29) rfl rfl ?_
                    rw [if_neg (fun q => q.elim (by assumption) (fun q => absurd (Int64.not_lt.mpr (by assumption)) (fun p => p q)))] at hbin
                    rw [evW_some hbin] at hq
                    exact put _ r _ (by omega) hp.2.2 hq
                  · refine e_ldc2 rfl k1_51 ?_
                    refine e_lreturn rfl rfl ?_
                    rw [if_pos (Or.inr (Int64.not_le.mp (by assumption)))] at hbin
                    rw [evW_none hbin] at hq
                    exact hq _ (fun c hc => u2_row _ _ hc)
              | [], _, _, _, z => simp at z
              | [y], _, _, _, z => simp at z
          · have z19 : -(I (a + 1) i) = nI 19 := by assumption
            refine e_iload_n rfl rfl ?_
            refine e_iconst (v := nI 1) rfl ic_1N ?_
            first | refine e_icmp_ltN (tgt := 159) rfl rfl (by omega) (by omega) (fun z => ?_) (fun z => ?_) | refine e_icmp_lt (tgt := 159) rfl rfl (fun z => ?_) (fun z => ?_)
            · refine e_iload_n rfl rfl ?_
              refine e_iconst (v := nI 2) rfl ic_2N ?_
              first | refine e_icmp_ltN (tgt := 228) rfl rfl (by omega) (by omega) (fun z => ?_) (fun z => ?_) | refine e_icmp_lt (tgt := 228) rfl rfl (fun z => ?_) (fun z => ?_)
              · first | refine e_inc4 rfl rfl rfl (incN1 _) ?_ | refine e_inc4 rfl rfl rfl rfl ?_
                refine e_goto (tgt := 29) rfl rfl ?_
                refine ih (i + 1) pl J _ (by omega) (by omega) hp ?_
                have z1 : pl.length < 1 := by assumption
                match pl, hq, z1 with
                | [], hq, _ => rw [evW_some (stW_nil zt hn)] at hq; exact hq
                | y :: r, _, z1 => simp at z1
              · omega
            · match pl, hp, hl, hq, z with
              | [], _, _, _, z => simp at z
              | y :: r, hp, hl, hq, z =>
                have hp1 : J (a + 4) r.length = y := hp.1
                simp only [List.length_cons] at hl
                have hq2 : ∀ J', (∀ c, c ≠ a + 4 → J' c = J c) → Q (some (.long (evW (I (a + 1)) (I b) k (i + 1) ((if y = 0 then 1 else 0) :: r)))) (I, J', K) := by
                  rw [evW_some (stW_not zt hn z19)] at hq
                  exact hq
                simp only [List.length_cons]
                refine e_aload_n rfl rfl ?_
                refine e_getP rfl f1_21 (by assumption) rfl (by assumption) ?_
                refine e_iload_n rfl rfl ?_
                refine e_iconst (v := nI 1) rfl ic_1N ?_
                first | refine e_isubN rfl (by omega) ?_ | refine e_isub rfl ?_
                refine e_aload_n rfl rfl ?_
                refine e_getP rfl f1_21 (by assumption) rfl (by assumption) ?_
                refine e_iload_n rfl rfl ?_
                refine e_iconst (v := nI 1) rfl ic_1N ?_
                first | refine e_isubN rfl (by omega) ?_ | refine e_isub rfl ?_
                first | refine e_laloadN rfl (by assumption) (by omega) (by omega) ?_ | (refine e_laload rfl (by assumption) ?_ ?_; rotate_left)
                simp only [show r.length + 1 - 1 = r.length by omega, hp1]
                refine e_lconst (v := 0) rfl rfl ?_
                refine e_lcmp rfl ?_
                first | refine e_if_neC (tgt := 154) rfl rfl (fun z => ?_) (fun z => ?_) | refine e_if_neB (tgt := 154) rfl rfl (fun z => ?_) (fun z => ?_) | refine e_if_neN (tgt := 154) rfl rfl (by omega) (fun z => ?_) (fun z => ?_) | refine e_if_ne (tgt := 154) rfl rfl (fun z => ?_) (fun z => ?_)
                · refine e_lconst (v := 0) rfl rfl ?_
                  first | refine e_lastoreN rfl (by assumption) (by omega) (by omega) ?_ | (refine e_lastore rfl (by assumption) ?_ ?_; rotate_left)
                  refine e_goto (tgt := 228) rfl rfl ?_
                  first | refine e_inc4 rfl rfl rfl (incN1 _) ?_ | refine e_inc4 rfl rfl rfl rfl ?_
                  refine e_goto (tgt := 29) rfl rfl ?_
                  rw [if_neg (by assumption)] at hq2
                  exact put _ r _ (by omega) hp.2 hq2
                · refine e_lconst (v := 1) rfl rfl ?_
                  refine e_goto (tgt := 155) rfl rfl ?_
                  first | refine e_lastoreN rfl (by assumption) (by omega) (by omega) ?_ | (refine e_lastore rfl (by assumption) ?_ ?_; rotate_left)
                  refine e_goto (tgt := 228) rfl rfl ?_
                  first | refine e_inc4 rfl rfl rfl (incN1 _) ?_ | refine e_inc4 rfl rfl rfl rfl ?_
                  refine e_goto (tgt := 29) rfl rfl ?_
                  rw [if_pos (by assumption)] at hq2
                  exact put _ r _ (by omega) hp.2 hq2
        refine e_iload rfl rfl ?_
        refine e_bipush (v := nI 12) rfl bp_12N ?_
        first | refine e_icmp_ltN (tgt := 118) rfl rfl (by omega) (by omega) (fun z => ?_) (fun z => ?_) | refine e_icmp_lt (tgt := 118) rfl rfl (fun z => ?_) (fun z => ?_)
        · exact notn (fun q => absurd q.1 (Int32.not_le.mpr (by assumption)))
        · refine e_iload rfl rfl ?_
          refine e_bipush (v := nI 18) rfl bp_18N ?_
          first | refine e_icmp_gtN (tgt := 118) rfl rfl (by omega) (by omega) (fun z => ?_) (fun z => ?_) | refine e_icmp_gt (tgt := 118) rfl rfl (fun z => ?_) (fun z => ?_)
          · exact notn (fun q => absurd q.2 (Int32.not_le.mpr (by assumption)))
          · have hr : nI 12 ≤ -(I (a + 1) i) ∧ -(I (a + 1) i) ≤ nI 18 := ⟨Int32.not_lt.mp (by assumption), Int32.not_lt.mp (by assumption)⟩
            obtain ⟨j, hj, ej⟩ := nI12 hr.1 hr.2
            rw [evW_some (stW_nam zt hr), ej, nI_clamp (by omega)] at hq
            refine e_aload_n rfl rfl ?_
            refine e_getP rfl f1_21 (by assumption) rfl (by assumption) ?_
            refine e_iload_n rfl rfl ?_
            refine e_aload_n rfl rfl ?_
            refine e_iload rfl rfl ?_
            refine e_bipush (v := nI 12) rfl bp_12N ?_
            first | refine e_isubN rfl (by omega) ?_ | refine e_isub rfl ?_
            rw [ej]
            first | refine e_ialoadN rfl (by assumption) (by omega) (by omega) ?_ | (refine e_iaload rfl (by assumption) ?_ ?_; rotate_left)
            refine e_i2l rfl ?_
            first | refine e_lastoreN rfl (by assumption) (by omega) (by omega) ?_ | (refine e_lastore rfl (by assumption) ?_ ?_; rotate_left)
            first | refine e_inc3 rfl rfl rfl (incN1 _) ?_ | refine e_inc3 rfl rfl rfl rfl ?_
            refine e_goto (tgt := 228) rfl rfl ?_
            first | refine e_inc4 rfl rfl rfl (incN1 _) ?_ | refine e_inc4 rfl rfl rfl rfl ?_
            refine e_goto (tgt := 29) rfl rfl ?_
            exact put _ pl _ (by omega) hp hq
      · rw [evW_some (stW_num (by assumption))] at hq
        refine e_aload_n rfl rfl ?_
        refine e_getP rfl f1_21 (by assumption) rfl (by assumption) ?_
        refine e_iload_n rfl rfl ?_
        refine e_iload rfl rfl ?_
        refine e_ineg rfl ?_
        refine e_i2l rfl ?_
        first | refine e_lastoreN rfl (by assumption) (by omega) (by omega) ?_ | (refine e_lastore rfl (by assumption) ?_ ?_; rotate_left)
        first | refine e_inc3 rfl rfl rfl (incN1 _) ?_ | refine e_inc3 rfl rfl rfl rfl ?_
        refine e_goto (tgt := 228) rfl rfl ?_
        first | refine e_inc4 rfl rfl rfl (incN1 _) ?_ | refine e_inc4 rfl rfl rfl rfl ?_
        refine e_goto (tgt := 29) rfl rfl ?_
        exact put _ pl _ (by omega) hp hq
/-- what an E answers: MINL without the law -/
def lawV (told : Int32) (code from_ upTo nm : Nat → Int32) (w : Nat) : Int64 := if bitOf told (nI w) = true then evW code nm ((upTo w).toNatClampNeg - (from_ w).toNatClampNeg) (from_ w).toNatClampNeg [] else MINL
theorem c1_work (hS : isLaws K a) {b : Nat} (hb : K.2.1 b = (20, 7)) {w f u : Nat} (hw : w < 3) (hf : I (a + 2) w = nI f) (hu : I (a + 3) w = nI u) (hfu : f ≤ u) (hu64 : u ≤ 64) : Cw l G (d + 2) m1_work [.ref a, .int (nI w), .ref b] (I, J, K) (fun r h' => r = some (.long (lawV (I a 5) (I (a + 1)) (I (a + 2)) (I (a + 3)) (I b) w)) ∧ ∃ J', h' = (I, J', K) ∧ ∀ c, c ≠ a + 4 → J' c = J c) := by
  have hS2 := hS
  obtain ⟨h1, p0, p1, p2, p3, a1, a2, a3, a4⟩ := hS2
  refine Cw.of ok1_work rfl (rfl : argL _ _ = [.ref a, .int (nI w), .ref b, .null, .null, .null]) ?_
  refine e_aload_n rfl rfl ?_
  refine e_iload_n rfl rfl ?_
  refine e_callVp (kd := 1) (M2 := m1_has) rfl v1_45 ok1_has (c1_has h1 (nI w)) rfl (by assumption) rfl rfl rfl rfl ?_
  first | refine e_if_eqB (tgt := 15) rfl rfl (fun z => ?_) (fun z => ?_) | refine e_if_eqN (tgt := 15) rfl rfl (by omega) (fun z => ?_) (fun z => ?_) | refine e_if_eq (tgt := 15) rfl rfl (fun z => ?_) (fun z => ?_)
  · rw [inN_nI (by omega) (by omega), decide_eq_true hw, Bool.true_and] at z
    refine e_ldc2 rfl k1_51 ?_
    refine e_lreturn rfl rfl ?_
    refine ⟨?_, J, rfl, fun _ _ => rfl⟩
    rw [lawV, if_neg (by rw [z]; decide)]
  · rw [inN_nI (by omega) (by omega), decide_eq_true hw, Bool.true_and] at z
    have z1 := z
    clear z
    refine e_aload_n rfl rfl ?_
    refine e_alen (v := nI _) rfl (by assumption) rfl rfl rfl ?_
    refine e_bipush (v := nI 6) rfl bp_6N ?_
    first | refine e_icmp_gtN (tgt := 19) rfl rfl (by omega) (by omega) (fun z => ?_) (fun z => ?_) | refine e_icmp_gt (tgt := 19) rfl rfl (fun z => ?_) (fun z => ?_)
    · refine e_iconst (v := nI 0) rfl ic_0N ?_
      refine e_ist3 rfl rfl rfl ?_
      refine e_aload_n rfl rfl ?_
      refine e_getP rfl f1_15 (by assumption) rfl (by assumption) ?_
      refine e_iload_n rfl rfl ?_
      first | refine e_ialoadN rfl (by assumption) (by omega) (by omega) ?_ | (refine e_iaload rfl (by assumption) ?_ ?_; rotate_left)
      rw [hf]
      refine e_ist4 rfl rfl rfl ?_
      have e : (0 : Nat) = ([] : List Int64).length := rfl
      rw [e]
      refine work_loop hS hb hw hu hu64 (u - f) f [] J _ (by omega) (by simp) trivial ?_
      intro J' hJ
      refine ⟨?_, J', rfl, hJ⟩
      rw [lawV, if_pos z1, hf, hu, nI_clamp (by omega), nI_clamp (by omega)]
    · omega
theorem c1_clear (h1 : (K.2.1 a).1 = 1) : Cw l G d m1_clear [.ref a] (I, J, K) (fun r h' => r = none ∧ h' = (u2 (u2 (u2 I a 4 (nI 0)) a 6 (nI 0)) a 5 (nI 0), J, K)) := by
  refine Cw.of ok1_clear rfl (rfl : argL _ _ = [.ref a]) ?_
  refine e_aload_n rfl rfl ?_
  refine e_iconst (v := nI 0) rfl ic_0N ?_
  refine e_putI rfl f1_25 (by assumption) rfl rfl ?_
  refine e_aload_n rfl rfl ?_
  refine e_iconst (v := nI 0) rfl ic_0N ?_
  refine e_putI rfl f1_29 (by assumption) rfl rfl ?_
  refine e_aload_n rfl rfl ?_
  refine e_iconst (v := nI 0) rfl ic_0N ?_
  refine e_putI rfl f1_32 (by assumption) rfl rfl ?_
  refine e_return rfl rfl ?_
  exact ⟨rfl, rfl⟩
theorem c1_take {o : Nat} (hS : isLaws K a) (hO : isLaws K o) (hd : a + 5 ≤ o ∨ o + 5 ≤ a) : Cw l G (d + 1) m1_take [.ref a, .ref o] (I, J, K) (fun r h' => r = none ∧ ∃ I', h' = (I', J, K) ∧ (∀ c, (c < a ∨ a + 3 < c) → I' c = I c) ∧ (∀ i, i < 64 → I' (a + 1) i = I (o + 1) i) ∧ (∀ i, i < 3 → I' (a + 2) i = I (o + 2) i ∧ I' (a + 3) i = I (o + 3) i) ∧ I' a 4 = I o 4 ∧ I' a 5 = I o 5 ∧ I' a 6 = I o 6) := by
  obtain ⟨h1, p0, p1, p2, p3, a1, a2, a3, a4⟩ := hS
  obtain ⟨h1o, p0o, p1o, p2o, p3o, a1o, a2o, a3o, a4o⟩ := hO
  have cl0 : (nI 0).toNatClampNeg = 0 := nI_clamp (by omega)
  have cl3 : (nI 3).toNatClampNeg = 3 := nI_clamp (by omega)
  have cl64 : (nI 64).toNatClampNeg = 64 := nI_clamp (by omega)
  refine Cw.of ok1_take rfl (rfl : argL _ _ = [.ref a, .ref o]) ?_
  refine e_aload_n rfl rfl ?_
  refine e_getP rfl f1_9 (by assumption) rfl (by assumption) ?_
  refine e_iconst (v := nI 0) rfl ic_0N ?_
  refine e_aload_n rfl rfl ?_
  refine e_getP rfl f1_9 (by assumption) rfl (by assumption) ?_
  refine e_iconst (v := nI 0) rfl ic_0N ?_
  refine e_bipush (v := nI 64) rfl bp_64N ?_
  refine e_copy rfl v1_35 (by assumption) (by assumption) (nI_pos (by omega)) (nI_pos (by omega)) (nI_pos (by omega)) (by rw [cl0, cl64]; omega) (by rw [cl0, cl64]; omega) rfl ?_
  refine e_aload_n rfl rfl ?_
  refine e_getP rfl f1_15 (by assumption) rfl (by assumption) ?_
  refine e_iconst (v := nI 0) rfl ic_0N ?_
  refine e_aload_n rfl rfl ?_
  refine e_getP rfl f1_15 (by assumption) rfl (by assumption) ?_
  refine e_iconst (v := nI 0) rfl ic_0N ?_
  refine e_iconst (v := nI 3) rfl ic_3N ?_
  refine e_copy rfl v1_35 (by assumption) (by assumption) (nI_pos (by omega)) (nI_pos (by omega)) (nI_pos (by omega)) (by rw [cl0, cl3]; omega) (by rw [cl0, cl3]; omega) rfl ?_
  refine e_aload_n rfl rfl ?_
  refine e_getP rfl f1_18 (by assumption) rfl (by assumption) ?_
  refine e_iconst (v := nI 0) rfl ic_0N ?_
  refine e_aload_n rfl rfl ?_
  refine e_getP rfl f1_18 (by assumption) rfl (by assumption) ?_
  refine e_iconst (v := nI 0) rfl ic_0N ?_
  refine e_iconst (v := nI 3) rfl ic_3N ?_
  refine e_copy rfl v1_35 (by assumption) (by assumption) (nI_pos (by omega)) (nI_pos (by omega)) (nI_pos (by omega)) (by rw [cl0, cl3]; omega) (by rw [cl0, cl3]; omega) rfl ?_
  refine e_aload_n rfl rfl ?_
  refine e_aload_n rfl rfl ?_
  refine e_getI rfl f1_25 (by assumption) rfl ?_
  refine e_putI rfl f1_25 (by assumption) rfl rfl ?_
  refine e_aload_n rfl rfl ?_
  refine e_aload_n rfl rfl ?_
  refine e_getI rfl f1_32 (by assumption) rfl ?_
  refine e_putI rfl f1_32 (by assumption) rfl rfl ?_
  refine e_aload_n rfl rfl ?_
  refine e_aload_n rfl rfl ?_
  refine e_getI rfl f1_29 (by assumption) rfl ?_
  refine e_putI rfl f1_29 (by assumption) rfl rfl ?_
  refine e_return rfl rfl ?_
  rw [cl0, cl3, cl64]
  refine ⟨rfl, _, rfl, ?_, ?_, ?_, ?_, ?_, ?_⟩
  · intro c hc
    funext k
    simp (disch := omega) only [u2_ne, uR_ne]
  · intro i hi
    simp (disch := omega) only [u2_ne, uR_ne, uR_at, pk_cpy_in]
    congr 1
    omega
  · intro i hi
    constructor
    · simp (disch := omega) only [u2_ne, uR_ne, uR_at, pk_cpy_in]
      congr 1
      omega
    · simp (disch := omega) only [u2_ne, uR_ne, uR_at, pk_cpy_in]
      congr 1
      omega
  · simp (disch := omega) only [u2_at, u2_nk, u2_ne, uR_ne]
  · simp (disch := omega) only [u2_at, u2_nk, u2_ne, uR_ne]
  · simp (disch := omega) only [u2_at, u2_nk, u2_ne, uR_ne]
theorem c1_begin (hS : isLaws K a) {w : Nat} (hw : w < 3) : Cw l G d m1_begin [.ref a, .int (nI w)] (I, J, K) (fun r h' => r = none ∧ h' = (u2 (u2 (u2 I a 5 (I a 5 ||| nI 1 <<< (nI w &&& 31))) (a + 2) w (I a 4)) (a + 3) w (I a 4), J, K)) := by
  obtain ⟨h1, p0, p1, p2, p3, a1, a2, a3, a4⟩ := hS
  refine Cw.of ok1_begin rfl (rfl : argL _ _ = [.ref a, .int (nI w)]) ?_
  refine e_iload_n rfl rfl ?_
  first | refine e_if_ltN (tgt := 41) rfl rfl (by omega) ?_ | refine e_if_lt (tgt := 41) rfl rfl (fun z => ?_) (fun z => ?_)
  refine e_iload_n rfl rfl ?_
  refine e_iconst (v := nI 3) rfl ic_3N ?_
  first | refine e_icmp_geN (tgt := 41) rfl rfl (by omega) (by omega) (fun z => ?_) (fun z => ?_) | refine e_icmp_ge (tgt := 41) rfl rfl (fun z => ?_) (fun z => ?_)
  · omega
  · refine e_aload_n rfl rfl ?_
    refine e_dup rfl rfl ?_
    refine e_getI rfl f1_32 (by assumption) rfl ?_
    refine e_iconst (v := nI 1) rfl ic_1N ?_
    refine e_iload_n rfl rfl ?_
    refine e_ishl rfl ?_
    refine e_ior rfl ?_
    refine e_putI rfl f1_32 (by assumption) rfl rfl ?_
    refine e_aload_n rfl rfl ?_
    refine e_getP rfl f1_15 (by assumption) rfl (by assumption) ?_
    refine e_iload_n rfl rfl ?_
    refine e_aload_n rfl rfl ?_
    refine e_getI rfl f1_25 (by assumption) rfl ?_
    first | refine e_iastoreN rfl (by assumption) (by omega) (by omega) ?_ | (refine e_iastore rfl (by assumption) ?_ ?_; rotate_left)
    refine e_aload_n rfl rfl ?_
    refine e_getP rfl f1_18 (by assumption) rfl (by assumption) ?_
    refine e_iload_n rfl rfl ?_
    refine e_aload_n rfl rfl ?_
    refine e_getI rfl f1_25 (by assumption) rfl ?_
    first | refine e_iastoreN rfl (by assumption) (by omega) (by omega) ?_ | (refine e_iastore rfl (by assumption) ?_ ?_; rotate_left)
    refine e_return rfl rfl ?_
    simp (disch := omega) only [u2_nk, u2_ne]
    exact ⟨trivial, trivial⟩
theorem c1_end (hS : isLaws K a) {w : Nat} (hw : w < 3) : Cw l G d m1_end [.ref a, .int (nI w)] (I, J, K) (fun r h' => r = none ∧ h' = (u2 I (a + 3) w (I a 4), J, K)) := by
  obtain ⟨h1, p0, p1, p2, p3, a1, a2, a3, a4⟩ := hS
  refine Cw.of ok1_end rfl (rfl : argL _ _ = [.ref a, .int (nI w)]) ?_
  refine e_iload_n rfl rfl ?_
  first | refine e_if_ltN (tgt := 19) rfl rfl (by omega) ?_ | refine e_if_lt (tgt := 19) rfl rfl (fun z => ?_) (fun z => ?_)
  refine e_iload_n rfl rfl ?_
  refine e_iconst (v := nI 3) rfl ic_3N ?_
  first | refine e_icmp_geN (tgt := 19) rfl rfl (by omega) (by omega) (fun z => ?_) (fun z => ?_) | refine e_icmp_ge (tgt := 19) rfl rfl (fun z => ?_) (fun z => ?_)
  · omega
  · refine e_aload_n rfl rfl ?_
    refine e_getP rfl f1_18 (by assumption) rfl (by assumption) ?_
    refine e_iload_n rfl rfl ?_
    refine e_aload_n rfl rfl ?_
    refine e_getI rfl f1_25 (by assumption) rfl ?_
    first | refine e_iastoreN rfl (by assumption) (by omega) (by omega) ?_ | (refine e_iastore rfl (by assumption) ?_ ?_; rotate_left)
    refine e_return rfl rfl ?_
    exact ⟨rfl, rfl⟩
theorem c1_emit (hS : isLaws K a) {z : Nat} (hz : I a 4 = nI z) (hz64 : z ≤ 64) (v : Int32) : Cw l G d m1_emit [.ref a, .int v] (I, J, K) (fun r h' => r = none ∧ h' = (if z < 64 then u2 (u2 I (a + 1) z v) a 4 (nI (z + 1)) else I, J, K)) := by
  obtain ⟨h1, p0, p1, p2, p3, a1, a2, a3, a4⟩ := hS
  refine Cw.of ok1_emit rfl (rfl : argL _ _ = [.ref a, .int v]) ?_
  refine e_aload_n rfl rfl ?_
  refine e_getI rfl f1_25 (by assumption) rfl ?_
  rw [hz]
  refine e_bipush (v := nI 64) rfl bp_64N ?_
  first | refine e_icmp_geN (tgt := 29) rfl rfl (by omega) (by omega) (fun z => ?_) (fun z => ?_) | refine e_icmp_ge (tgt := 29) rfl rfl (fun z => ?_) (fun z => ?_)
  · refine e_return rfl rfl ?_
    rw [if_neg (by omega)]
    exact ⟨rfl, rfl⟩
  · refine e_aload_n rfl rfl ?_
    refine e_getP rfl f1_9 (by assumption) rfl (by assumption) ?_
    refine e_aload_n rfl rfl ?_
    refine e_getI rfl f1_25 (by assumption) rfl ?_
    rw [hz]
    refine e_iload_n rfl rfl ?_
    first | refine e_iastoreN rfl (by assumption) (by omega) (by omega) ?_ | (refine e_iastore rfl (by assumption) ?_ ?_; rotate_left)
    refine e_aload_n rfl rfl ?_
    refine e_dup rfl rfl ?_
    refine e_getI rfl f1_25 (by assumption) rfl ?_
    rw [u2_ne _ _ (by omega), hz]
    refine e_iconst (v := nI 1) rfl ic_1N ?_
    first | refine e_iaddN rfl ?_ | refine e_iadd rfl ?_
    refine e_putI rfl f1_25 (by assumption) rfl rfl ?_
    refine e_return rfl rfl ?_
    rw [if_pos (by omega)]
    exact ⟨rfl, rfl⟩
end MLaws
