/-! ===== feed, text ===== -/
def by8 (y : Int32) : Nat := y.toBitVec.toNat % 256
theorem by8_lt (y : Int32) : by8 y < 256 := Nat.mod_lt _ (by omega)
theorem by8_and (y : Int32) : y &&& nI 255 = nI (by8 y) := by
  rw [← Int32.toBitVec_inj, Int32.toBitVec_and]
  apply BitVec.eq_of_toNat_eq
  rw [BitVec.toNat_and]
  have e1 : (nI 255).toBitVec.toNat = 2 ^ 8 - 1 := rfl
  have e2 : (nI (by8 y)).toBitVec.toNat = by8 y % 2 ^ 32 := rfl
  rw [e1, e2, Nat.and_two_pow_sub_one_eq_mod]
  unfold by8
  omega
theorem by8_sg (y : Int32) : y.toInt8.toInt32 = sg (by8 y) := by
  rw [← Int32.toInt_inj, Int8.toInt_toInt32, Int32.toInt_toInt8]
  have h1 : y.toInt = Int.bmod (y.toBitVec.toNat : Int) (2 ^ 32) := by
    rw [← Int32.toInt_toBitVec, BitVec.toInt_eq_toNat_bmod]
  rw [h1, Int.bmod_bmod_of_dvd (by decide : (2 ^ 8 : Nat) ∣ 2 ^ 32)]
  have h2 : (y.toBitVec.toNat : Int) % ((2 ^ 8 : Nat) : Int) = (by8 y : Int) := by
    unfold by8
    omega
  have hb := by8_lt y
  rw [Int.bmod_def, h2]
  have h3 : ∀ b, b < 256 → (sg b).toInt = if b < 128 then (b : Int) else (b : Int) - 256 := by decide +kernel
  rw [h3 _ hb]
  by_cases c : by8 y < 128
  · rw [if_pos (by omega), if_pos c]
  · rw [if_neg (by omega), if_neg c]
    rfl
/-- bytes of numbers, four each -/
def fdB (v : Nat → Int32) (j : Nat) : Nat := by8 (v (j / 4) >>> (nI (24 - 8 * (j % 4)) &&& 31))
def fdF (v : Nat → Int32) (t m : Nat) (f : Nat → Nat) : Nat → Nat := fun j => if t ≤ j ∧ j < t + m then fdB v (j - t) else f j
/-- the tape holds t bytes f; words; the parser's room; the last FAULT -/
def TP (I : IM) (t : Nat) (f : Nat → Nat) (fk : Nat) (fp : Int32) : Prop := I 0 1 = nI t ∧ t ≤ 700 ∧ (∀ j, j < t → I 1 j = sg (f j)) ∧ (∀ j, f j < 256) ∧ (∀ k, k < 21 → I 31 k = nI (wd k)) ∧ RPm I 3 ∧ I 2 3 = nI fk ∧ I 2 4 = fp
theorem TP.fx {I I' : IM} {J J' : JM} {t : Nat} {f : Nat → Nat} {fk : Nat} {fp : Int32} (h : TP I t f fk fp) (g : FX I J I' J') : TP I' t f fk fp := by
  obtain ⟨h1, h2, h3, h4, h5, ⟨m1, m2, m3, m4⟩, h7, h8⟩ := h
  obtain ⟨g1, -, g3⟩ := g
  refine ⟨by rw [g3 1 (by omega)]; exact h1, h2, fun j hj => by rw [g1 1 (by omega)]; exact h3 j hj, h4, fun k hk => by rw [g1 31 (by omega)]; exact h5 k hk, ⟨?_, ?_, ?_, ?_⟩, by rw [g1 2 (by omega)]; exact h7, by rw [g1 2 (by omega)]; exact h8⟩
  · rw [g1 _ (by omega)]; exact m1
  · rw [g1 _ (by omega)]; exact m2
  · rw [g1 _ (by omega)]; exact m3
  · rw [g1 _ (by omega)]; exact m4
theorem CI.fr0 {I I' : IM} {J : JM} {P : Pl} {S : SM} {im : Bool} {SI : SM} {m : Nat} {T : SM} {kn : Int32} {u : Nat} {Hs : Nat → SM} {B : Nat} (h : CI I J P S im SI m T kn u Hs B) (f : ∀ c, 33 ≤ c → I' c = I c) (e8 : I' 0 8 = I 0 8) : CI I' J P S im SI m T kn u Hs B := by
  obtain ⟨h1, h2, h3, h4, h5, h6, h7, h8⟩ := h
  refine ⟨h1.frame (fun c a b => f c (by omega)), h2, h3.frame (fun c a b => f c (by omega)) rfl, h4.frame (f _ (by omega)) (f _ (by omega)), by rw [e8]; exact h5, fun hi => ?_, h7.frame (fun c a b => f c (by omega)), (by
    obtain ⟨U, u1, u2⟩ := h8
    refine ⟨U, u1.frame (fun c a b => f c (by omega)), u2.sm (by have := h3.2.1; omega) rfl (Nat.le_refl _) ⟨fun r r1 r2 t ht => ?_, fun w hw => ?_, fun k a b => ?_⟩⟩ <;> rw [f _ (by omega)])⟩
  obtain ⟨a1, a2⟩ := h6 hi
  exact ⟨a1.frame (fun c a b => f c (by omega)) rfl, a2.frame (f _ (by omega)) (f _ (by omega))⟩
section MText
variable {l : Launch} {G : GG} {d : Nat} {I : IM} {J : JM} {K : Kt} {Q : Option Value → Hp → Prop} {f : Nat → Nat} {n t : Nat}
theorem tape_step (hG : GK K) {x sh : Int32} (hs : ¬ sh < 0) (ht : t < 700) (h1 : I 0 1 = nI t) (kk : Gw l G d m9_tapeNumber 3 [.ref 0, .int x, .int (sh + Int32.ofInt (-8))] [] (u2 (u2 I 1 t (sg (by8 (x >>> (sh &&& 31))))) 0 1 (nI (t + 1)), J, K) Q) : Gw l G d m9_tapeNumber 3 [.ref 0, .int x, .int sh] [] (I, J, K) Q := by
  obtain ⟨⟨k9, t0, t2, t3, t4, t5, t6, t7, t9, t10, t11, t12⟩, ⟨a1, -⟩, -⟩ := hG
  refine e_iload_n rfl rfl ?_
  refine e_if_lt (tgt := 46) rfl rfl (fun z => absurd z hs) (fun _ => ?_)
  refine e_aload_n rfl rfl ?_
  refine e_getI rfl f9_75 (by assumption) rfl ?_
  rw [h1]
  refine e_sipush (v := nI 700) rfl sp_700N ?_
  first | refine e_icmp_geN (tgt := 46) rfl rfl (by omega) (by omega) (fun z => ?_) (fun z => ?_) | refine e_icmp_ge (tgt := 46) rfl rfl (fun z => ?_) (fun z => ?_)
  · omega
  · refine e_aload_n rfl rfl ?_
    refine e_getP rfl f9_11 (by assumption) rfl (by assumption) ?_
    refine e_aload_n rfl rfl ?_
    refine e_getI rfl f9_75 (by assumption) rfl ?_
    rw [h1]
    refine e_iload_n rfl rfl ?_
    refine e_iload_n rfl rfl ?_
    refine e_ishr rfl ?_
    refine e_i2b rfl ?_
    first | refine e_bastoreN rfl (by assumption) (by omega) (by omega) ?_ | refine e_zastoreN rfl (by assumption) (by omega) (by omega) ?_ | (refine e_bastore rfl (by assumption) ?_ ?_; rotate_left) | (refine e_zastore rfl (by assumption) ?_ ?_; rotate_left)
    rw [pk_vb, by8_sg]
    refine e_aload_n rfl rfl ?_
    refine e_dup rfl rfl ?_
    refine e_getI rfl f9_75 (by assumption) rfl ?_
    rw [u2_ne _ _ (by omega), h1]
    refine e_iconst (v := nI 1) rfl ic_1N ?_
    first | refine e_iaddN rfl ?_ | refine e_iadd rfl ?_
    refine e_putI rfl f9_75 (by assumption) rfl rfl ?_
    refine e_inc2 rfl rfl rfl rfl ?_
    refine e_goto (tgt := 3) rfl rfl ?_
    exact kk
theorem c9_tapeNumber (hG : GK K) {x : Int32} (ht : t + 4 ≤ 700) (h1 : I 0 1 = nI t) : Cw l G d m9_tapeNumber [.ref 0, .int x] (I, J, K) (fun r h' => r = none ∧ ∃ I', h' = (I', J, K) ∧ I' 0 1 = nI (t + 4) ∧ (∀ q, q < 4 → I' 1 (t + q) = sg (by8 (x >>> (nI (24 - 8 * q) &&& 31)))) ∧ (∀ j, (j < t ∨ t + 4 ≤ j) → I' 1 j = I 1 j) ∧ (∀ c, c ≠ 0 → c ≠ 1 → I' c = I c) ∧ ∀ k, k ≠ 1 → I' 0 k = I 0 k) := by
  refine Cw.of ok9_tapeNumber rfl (rfl : argL _ _ = [.ref 0, .int x, .null]) ?_
  refine e_bipush (v := nI 24) rfl bp_24N ?_
  refine e_ist2 rfl rfl rfl ?_
  refine tape_step (t := t) hG (by decide) (by omega) h1 ?_
  rw [show nI 24 + Int32.ofInt (-8) = nI 16 by decide]
  refine tape_step (t := t + 1) hG (by decide) (by omega) (u2_at _ _ _ _) ?_
  rw [show nI 16 + Int32.ofInt (-8) = nI 8 by decide]
  refine tape_step (t := t + 2) hG (by decide) (by omega) (u2_at _ _ _ _) ?_
  rw [show nI 8 + Int32.ofInt (-8) = nI 0 by decide]
  refine tape_step (t := t + 3) hG (by decide) (by omega) (u2_at _ _ _ _) ?_
  refine e_iload_n rfl rfl ?_
  refine e_if_lt (tgt := 46) rfl rfl (fun _ => ?_) (fun z => absurd (by decide) z)
  refine e_return rfl rfl ?_
  refine ⟨rfl, _, rfl, u2_at _ _ _ _, fun q hq => ?_, fun j hj => ?_, fun c a b => ?_, fun k hk => ?_⟩
  · obtain rfl | rfl | rfl | rfl : q = 0 ∨ q = 1 ∨ q = 2 ∨ q = 3 := by omega
    · simp (disch := omega) only [u2_ne, u2_nk]
      exact u2_at _ _ _ _
    · simp (disch := omega) only [u2_ne, u2_nk, u2_at]
    · simp (disch := omega) only [u2_ne, u2_nk, u2_at]
    · simp (disch := omega) only [u2_ne, u2_nk, u2_at]
  · simp (disch := omega) only [u2_ne, u2_nk, u2_at]
  · simp (disch := omega) only [u2_row]
  · simp (disch := omega) only [u2_ne, u2_nk, u2_at]
/-- i numbers of the five are on the tape -/
def TF (I I' : IM) (t i : Nat) (v : Nat → Int32) (f : Nat → Nat) : Prop := I' 0 1 = nI (t + 4 * i) ∧ (∀ j, j < t + 4 * i → I' 1 j = sg (fdF v t (4 * i) f j)) ∧ (∀ c, c ≠ 0 → c ≠ 1 → I' c = I c) ∧ ∀ k, k ≠ 1 → I' 0 k = I 0 k
theorem tape_next (hG : GK K) {v : Nat → Int32} {i : Nat} {x : Int32} {I1 : IM} (hi : i < 5) (ht : t + 20 ≤ 700) (hx : v i = x) (h : TF I I1 t i v f) : Cw l G d m9_tapeNumber [.ref 0, .int x] (I1, J, K) (fun r h' => r = none ∧ ∃ I', h' = (I', J, K) ∧ TF I I' t (i + 1) v f) := by
  obtain ⟨h1, h2, h3, h4⟩ := h
  refine Cw.mono (c9_tapeNumber (t := t + 4 * i) hG (by omega) h1) (fun r h' q => ?_)
  obtain ⟨q1, I', q2, q3, q4, q5, q6, q7⟩ := q
  refine ⟨q1, I', q2, by rw [q3]; rfl, fun j hj => ?_, fun c a b => (q6 c a b).trans (h3 c a b), fun k hk => (q7 k hk).trans (h4 k hk)⟩
  by_cases c : j < t + 4 * i
  · rw [q5 j (Or.inl c), h2 j c]
    unfold fdF
    by_cases e : t ≤ j
    · rw [if_pos ⟨e, c⟩, if_pos ⟨e, hj⟩]
    · rw [if_neg (by omega), if_neg (by omega)]
  · obtain ⟨q, rfl⟩ : ∃ q, j = t + 4 * i + q := ⟨j - (t + 4 * i), by omega⟩
    rw [q4 q (by omega)]
    unfold fdF fdB
    rw [if_pos ⟨by omega, hj⟩, show t + 4 * i + q - t = 4 * i + q by omega, show (4 * i + q) / 4 = i by omega, show (4 * i + q) % 4 = q by omega, hx]
def v5F (a b c e g : Int32) : Nat → Int32 := fun q => if q = 0 then a else if q = 1 then b else if q = 2 then c else if q = 3 then e else g
theorem c9_feed (hG : GK K) {fk : Nat} {fp : Int32} (hT : TP I t f fk fp) (a b c e g : Int32) : Cw l G (d + 1) m9_feed [.ref 0, .int a, .int b, .int c, .int e, .int g] (I, J, K) (fun r h' => r = some (.int (if t + 20 ≤ 700 then nI (t + 20) else -1)) ∧ ∃ I', h' = (I', J, K) ∧ (∀ c, c ≠ 0 → c ≠ 1 → I' c = I c) ∧ (∀ k, k ≠ 1 → I' 0 k = I 0 k) ∧ TP I' (if t + 20 ≤ 700 then t + 20 else t) (if t + 20 ≤ 700 then fdF (v5F a b c e g) t 20 f else f) fk fp) := by
  have hG2 := hG
  obtain ⟨⟨k9, t0, t2, t3, t4, t5, t6, t7, t9, t10, t11, t12⟩, ⟨a1, -⟩, -⟩ := hG2
  have hT2 := hT
  obtain ⟨h1, h2, h3, h4, h5, ⟨m1, m2, m3, m4⟩, h7, h8⟩ := hT2
  refine Cw.of ok9_feed rfl (rfl : argL _ _ = [.ref 0, .int a, .int b, .int c, .int e, .int g]) ?_
  refine e_aload_n rfl rfl ?_
  refine e_getI rfl f9_75 (by assumption) rfl ?_
  rw [h1]
  refine e_bipush (v := nI 20) rfl bp_20N ?_
  first | refine e_iaddN rfl ?_ | refine e_iadd rfl ?_
  refine e_sipush (v := nI 700) rfl sp_700N ?_
  first | refine e_icmp_leN (tgt := 15) rfl rfl (by omega) (by omega) (fun z => ?_) (fun z => ?_) | refine e_icmp_le (tgt := 15) rfl rfl (fun z => ?_) (fun z => ?_)
  · have y : t + 20 ≤ 700 := by assumption
    rw [if_pos y, if_pos y, if_pos y]
    have f0 : TF I I t 0 (v5F a b c e g) f := ⟨h1, fun j hj => by rw [h3 j (by omega)]; unfold fdF; rw [if_neg (by omega)], fun _ _ _ => rfl, fun _ _ => rfl⟩
    refine e_aload_n rfl rfl ?_
    refine e_iload_n rfl rfl ?_
    refine e_callV (kd := 9) (M2 := m9_tapeNumber) rfl v9_79 ok9_tapeNumber (tape_next (i := 0) hG (by omega) y rfl f0) rfl (by assumption) rfl rfl rfl rfl (fun r1 h1 q1 => ?_)
    obtain ⟨rfl, I1, rfl, f1⟩ := q1
    refine e_aload_n rfl rfl ?_
    refine e_iload_n rfl rfl ?_
    refine e_callV (kd := 9) (M2 := m9_tapeNumber) rfl v9_79 ok9_tapeNumber (tape_next (i := 1) hG (by omega) y rfl f1) rfl (by assumption) rfl rfl rfl rfl (fun r1 h1 q1 => ?_)
    obtain ⟨rfl, I2, rfl, f2⟩ := q1
    refine e_aload_n rfl rfl ?_
    refine e_iload_n rfl rfl ?_
    refine e_callV (kd := 9) (M2 := m9_tapeNumber) rfl v9_79 ok9_tapeNumber (tape_next (i := 2) hG (by omega) y rfl f2) rfl (by assumption) rfl rfl rfl rfl (fun r1 h1 q1 => ?_)
    obtain ⟨rfl, I3, rfl, f3⟩ := q1
    refine e_aload_n rfl rfl ?_
    refine e_iload rfl rfl ?_
    refine e_callV (kd := 9) (M2 := m9_tapeNumber) rfl v9_79 ok9_tapeNumber (tape_next (i := 3) hG (by omega) y rfl f3) rfl (by assumption) rfl rfl rfl rfl (fun r1 h1 q1 => ?_)
    obtain ⟨rfl, I4, rfl, f4⟩ := q1
    refine e_aload_n rfl rfl ?_
    refine e_iload rfl rfl ?_
    refine e_callV (kd := 9) (M2 := m9_tapeNumber) rfl v9_79 ok9_tapeNumber (tape_next (i := 4) hG (by omega) y rfl f4) rfl (by assumption) rfl rfl rfl rfl (fun r1 h1 q1 => ?_)
    obtain ⟨rfl, I5, rfl, f5⟩ := q1
    obtain ⟨f5, e1, e2, e3⟩ := f5
    refine e_aload_n rfl rfl ?_
    refine e_getI rfl f9_75 (by assumption) rfl ?_
    rw [f5]
    refine e_ireturn rfl rfl ?_
    refine ⟨rfl, I5, rfl, e2, e3, f5, y, e1, fun j => ?_, fun k hk => by rw [e2 31 (by omega) (by omega)]; exact h5 k hk, ⟨?_, ?_, ?_, ?_⟩, by rw [e2 2 (by omega) (by omega)]; exact h7, by rw [e2 2 (by omega) (by omega)]; exact h8⟩
    · unfold fdF
      split
      · exact by8_lt _
      · exact h4 j
    · rw [e2 _ (by omega) (by omega)]; exact m1
    · rw [e2 _ (by omega) (by omega)]; exact m2
    · rw [e2 _ (by omega) (by omega)]; exact m3
    · rw [e2 _ (by omega) (by omega)]; exact m4
  · have y : ¬ t + 20 ≤ 700 := by omega
    rw [if_neg y, if_neg y, if_neg y]
    refine e_iconst rfl ic_m1 ?_
    refine e_ireturn rfl rfl ?_
    exact ⟨rfl, I, rfl, fun _ _ _ => rfl, fun _ _ => rfl, hT⟩
end MText
