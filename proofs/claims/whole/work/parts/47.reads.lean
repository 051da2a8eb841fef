/-! ===== Parser: onceLine, lawLine, line, read ===== -/
theorem and_bit (b : Int32) {t : Nat} (ht : t < 32) : (b &&& nI 1 <<< (nI t &&& 31) = 0) ↔ bitOf b (nI t) = false := by
  rw [bitOf_eq _ ht, ← Int32.toBitVec_inj, Int32.toBitVec_and, Int32.toBitVec_shiftLeft, BitVec.shiftLeft_eq', sh_l t ht]
  have e : (nI 1).toBitVec = 1#32 := rfl
  rw [e]
  constructor
  · intro h
    have := congrArg (fun v => BitVec.getLsbD v t) h
    simpa [ht] using this
  · intro h
    apply BitVec.eq_of_getLsbD_eq
    intro i hi
    rw [BitVec.getLsbD_and, BitVec.getLsbD_shiftLeft, BitVec.getLsbD_one]
    by_cases c : i = t
    · subst c; rw [h]; simp
    · by_cases c2 : i < t
      · simp [c2]
      · have : i - t ≠ 0 := by omega
        simp [this]
/-- with token t told -/
def sT (s : PSt) (t : Nat) : PSt := (s.1, s.2.1, fun k => s.2.2.1 k || decide (t = k), s.2.2.2)
def onZ (f : Nat → Nat) (n t : Nat) (hi : Int32) (s : PSt) : PR := if s.2.2.1 t = true then flS 3 s else bnd (avS f n (sT s t)) (nuS f n (nI 0) hi)
theorem onS_eq {f : Nat → Nat} {n t q : Nat} {hi v : Int32} {s : PSt} (h : ∀ s1, s.2.2.1 t = false → avS f n (sT s t) = .inr s1 → v = pVa s1) : bnd (onZ f n t hi s) (fun s2 => .inr (stP s2 ((pP s2).1, u2 (pP s2).2 20 q v))) = onS f n t q hi s := by
  unfold onZ onS
  split
  · rfl
  · next c =>
    have c : s.2.2.1 t = false := by cases hh : s.2.2.1 t with
      | true => exact absurd hh c
      | false => rfl
    show bnd (bnd (avS f n (sT s t)) _) _ = bnd (avS f n (sT s t)) _
    cases e1 : avS f n (sT s t) with
    | inl e => rfl
    | inr s1 => rw [h s1 c e1]; rfl
theorem avS_inr (f : Nat → Nat) (n : Nat) (s : PSt) : ∃ s', avS f n s = .inr s' := by
  unfold avS
  split <;> exact ⟨_, rfl⟩
theorem wdT_tk {v : Nat} : ∀ k i, i + k ≤ 21 → ∃ j, j ≤ 22 ∧ wdT v k i = nI j
  | 0, _, _ => ⟨22, by omega, rfl⟩
  | k + 1, i, h => by
    rw [wdT]
    split
    · exact ⟨i + 1, by omega, rfl⟩
    · exact wdT_tk k (i + 1) (by omega)
theorem sgT_tk {c x : Nat} (hc : c < 256) : sgT c x = -1 ∨ ∃ j, j ≤ 258 ∧ sgT c x = nI j := by
  unfold sgT
  split
  · exact Or.inr ⟨256, by omega, rfl⟩
  · split
    · exact Or.inr ⟨257, by omega, rfl⟩
    · split
      · exact Or.inr ⟨258, by omega, rfl⟩
      · split
        · exact Or.inr ⟨c, by omega, rfl⟩
        · exact Or.inl rfl
theorem advA_tk {f : Nat → Nat} {n a : Nat} {va : Int32} (hf : ∀ j, f j < 256) : (advA f n a va).2.1 = -1 ∨ ∃ j, j ≤ 258 ∧ (advA f n a va).2.1 = nI j := by
  unfold advA tokA
  split
  · exact Or.inr ⟨0, by omega, rfl⟩
  · split
    · dsimp only
      split
      · exact Or.inl rfl
      · obtain ⟨j, h1, h2⟩ := wdT_tk (v := pkV f (enF isB f (n - a) a) (min 6 (enF isL f (n - enF isB f (n - a) a) (enF isB f (n - a) a) - enF isB f (n - a) a))) 21 0 (by omega)
        exact Or.inr ⟨j, by omega, h2⟩
    · split
      · exact Or.inr ⟨23, by omega, rfl⟩
      · exact sgT_tk (hf _)
theorem avS_tk {f : Nat → Nat} {n : Nat} {s s' : PSt} (hf : ∀ j, f j < 256) (h : avS f n s = .inr s') : pTk s' = -1 ∨ ∃ j, j ≤ 258 ∧ pTk s' = nI j := by
  unfold avS at h
  split at h
  · next c => obtain rfl := Sum.inr.inj h; exact Or.inl c
  · obtain rfl := Sum.inr.inj h
    exact advA_tk hf
theorem sub9 : ∀ j, j < 9 → nI j - nI 9 < 0 := by decide
section MRead
variable {l : Launch} {G : GG} {d : Nat} {I : IM} {J : JM} {K : Kt} {Q : Option Value → Hp → Prop} {f : Nat → Nat} {n : Nat} {zz : PR}
theorem Lz.st {q : Nat} (hq : q < 3) (hz : Lz I f n zz) (v : Int32) : Lz (u2 I 3 (5 + q) v) f n (bnd zz (fun s => .inr (stP s ((pP s).1, u2 (pP s).2 20 q v)))) := by
  have fr : ∀ c, c ≠ 3 → u2 I 3 (5 + q) v c = I c := fun c hc => u2_row _ _ hc
  cases zz with
  | inl e =>
    obtain ⟨h1, h2, h3, h4, ⟨a, va, pl, h5⟩, h6⟩ := hz
    exact ⟨h1, h2, by rw [fr _ (by omega)]; exact h3, by rw [fr _ (by omega)]; exact h4, ⟨a, va, pl, h5.frame (fr _ (by omega)) (fr _ (by omega)) (fr _ (by omega))⟩, h6.frame (fr _ (by omega)) (fr _ (by omega)) (fr _ (by omega)) (fr _ (by omega)) (by rw [fr _ (by omega)]) (by rw [fr _ (by omega)])⟩
  | inr s =>
    obtain ⟨h1, h2, h3, h4, h5, h6, h7⟩ := hz
    refine ⟨by rw [fr _ (by omega)]; exact h1, by rw [fr _ (by omega)]; exact h2, h3.frame (fr _ (by omega)) (fr _ (by omega)) (fr _ (by omega)), ?_, h5, by rw [fr _ (by omega)]; exact h6, by rw [fr _ (by omega)]; exact h7⟩
    obtain rfl | rfl | rfl : q = 0 ∨ q = 1 ∨ q = 2 := by omega
    · exact h4.st0 _
    · exact h4.st1 _
    · exact h4.st2 _
theorem Lz.bg {w : Nat} (hw : w < 3) (hz : Lz I f n zz) : Lz (u2 (u2 (u2 I (3 + 22) 5 (I (3 + 22) 5 ||| nI 1 <<< (nI w &&& 31))) (3 + 22 + 2) w (I (3 + 22) 4)) (3 + 22 + 3) w (I (3 + 22) 4)) f n (bnd zz (fun s => .inr (stP s (bgP (pP s) w)))) := by
  have fr : ∀ x y z c, c ≠ 25 → c ≠ 27 → c ≠ 28 → u2 (u2 (u2 I (3 + 22) 5 x) (3 + 22 + 2) w y) (3 + 22 + 3) w z c = I c := fun x y z c a b e => by rw [u2_row _ _ e, u2_row _ _ b, u2_row _ _ a]
  cases zz with
  | inl e =>
    obtain ⟨h1, h2, h3, h4, ⟨a, va, pl, h5⟩, h6⟩ := hz
    exact ⟨h1, h2, by rw [fr _ _ _ _ (by omega) (by omega) (by omega)]; exact h3, by rw [fr _ _ _ _ (by omega) (by omega) (by omega)]; exact h4, ⟨a, va, pl, h5.frame (fr _ _ _ _ (by omega) (by omega) (by omega)) (fr _ _ _ _ (by omega) (by omega) (by omega)) (fr _ _ _ _ (by omega) (by omega) (by omega))⟩, h6.frame (fr _ _ _ _ (by omega) (by omega) (by omega)) (fr _ _ _ _ (by omega) (by omega) (by omega)) (fr _ _ _ _ (by omega) (by omega) (by omega)) (fr _ _ _ _ (by omega) (by omega) (by omega)) (by rw [u2_ne _ _ (by omega), u2_ne _ _ (by omega), u2_nk _ _ (by omega)]) (by rw [u2_ne _ _ (by omega), u2_ne _ _ (by omega), u2_nk _ _ (by omega)])⟩
  | inr s =>
    obtain ⟨h1, h2, h3, h4, h5, h6, h7⟩ := hz
    exact ⟨by rw [fr _ _ _ _ (by omega) (by omega) (by omega)]; exact h1, by rw [fr _ _ _ _ (by omega) (by omega) (by omega)]; exact h2, h3.frame (fr _ _ _ _ (by omega) (by omega) (by omega)) (fr _ _ _ _ (by omega) (by omega) (by omega)) (fr _ _ _ _ (by omega) (by omega) (by omega)), h4.bg hw, h5, by rw [fr _ _ _ _ (by omega) (by omega) (by omega)]; exact h6, by rw [fr _ _ _ _ (by omega) (by omega) (by omega)]; exact h7⟩
theorem Lz.ed {w : Nat} (hw : w < 3) (hz : Lz I f n zz) : Lz (u2 I (3 + 22 + 3) w (I (3 + 22) 4)) f n (bnd zz (fun s => .inr (stP s (edP (pP s) w)))) := by
  have fr : ∀ z c, c ≠ 28 → u2 I (3 + 22 + 3) w z c = I c := fun z c e => by rw [u2_row _ _ e]
  cases zz with
  | inl e =>
    obtain ⟨h1, h2, h3, h4, ⟨a, va, pl, h5⟩, h6⟩ := hz
    exact ⟨h1, h2, by rw [fr _ _ (by omega)]; exact h3, by rw [fr _ _ (by omega)]; exact h4, ⟨a, va, pl, h5.frame (fr _ _ (by omega)) (fr _ _ (by omega)) (fr _ _ (by omega))⟩, h6.frame (fr _ _ (by omega)) (fr _ _ (by omega)) (fr _ _ (by omega)) (fr _ _ (by omega)) (by rw [fr _ _ (by omega)]) (by rw [fr _ _ (by omega)])⟩
  | inr s =>
    obtain ⟨h1, h2, h3, h4, h5, h6, h7⟩ := hz
    exact ⟨by rw [fr _ _ (by omega)]; exact h1, by rw [fr _ _ (by omega)]; exact h2, h3.frame (fr _ _ (by omega)) (fr _ _ (by omega)) (fr _ _ (by omega)), h4.ed hw, h5, by rw [fr _ _ (by omega)]; exact h6, by rw [fr _ _ (by omega)]; exact h7⟩
theorem Lz.ln (hz : Lz I f n zz) : Lz (u2 I 2 5 (I 2 5 + nI 1)) f n (bnd zz (fun s => .inr (s.1, s.2.1, s.2.2.1, s.2.2.2 + 1))) := by
  have fr : ∀ z c, c ≠ 2 → u2 I 2 5 z c = I c := fun z c e => by rw [u2_row _ _ e]
  cases zz with
  | inl e =>
    obtain ⟨h1, h2, h3, h4, ⟨a, va, pl, h5⟩, h6⟩ := hz
    exact ⟨h1, h2, by rw [u2_nk _ _ (by omega)]; exact h3, by rw [u2_nk _ _ (by omega)]; exact h4, ⟨a, va, pl, h5.frame (fr _ _ (by omega)) (fr _ _ (by omega)) (fr _ _ (by omega))⟩, h6.frame (fr _ _ (by omega)) (fr _ _ (by omega)) (fr _ _ (by omega)) (fr _ _ (by omega)) (by rw [fr _ _ (by omega)]) (by rw [fr _ _ (by omega)])⟩
  | inr s =>
    obtain ⟨h1, h2, h3, h4, h5, h6, h7⟩ := hz
    exact ⟨by rw [u2_nk _ _ (by omega)]; exact h1, by rw [u2_nk _ _ (by omega)]; exact h2, h3.frame (fr _ _ (by omega)) (fr _ _ (by omega)) (fr _ _ (by omega)), h4.frame (fun c a b => fr _ _ (by omega)), h5, by rw [u2_nk _ _ (by omega)]; exact h6, by rw [u2_at, h7, nI_add]⟩
/-- toldOnce written -/
theorem Lz.to (hz : Lz I f n zz) {t : Nat} (ht : t < 32) : Lz (u2 I 2 2 (I 2 2 ||| nI 1 <<< (nI t &&& 31))) f n (bnd zz (fun s => .inr (sT s t))) := by
  have fr : ∀ z c, c ≠ 2 → u2 I 2 2 z c = I c := fun z c e => by rw [u2_row _ _ e]
  cases zz with
  | inl e =>
    obtain ⟨h1, h2, h3, h4, ⟨a, va, pl, h5⟩, h6⟩ := hz
    exact ⟨h1, h2, by rw [u2_nk _ _ (by omega)]; exact h3, by rw [u2_nk _ _ (by omega)]; exact h4, ⟨a, va, pl, h5.frame (fr _ _ (by omega)) (fr _ _ (by omega)) (fr _ _ (by omega))⟩, h6.frame (fr _ _ (by omega)) (fr _ _ (by omega)) (fr _ _ (by omega)) (fr _ _ (by omega)) (by rw [fr _ _ (by omega)]) (by rw [fr _ _ (by omega)])⟩
  | inr s =>
    obtain ⟨h1, h2, h3, h4, h5, h6, h7⟩ := hz
    exact ⟨by rw [u2_nk _ _ (by omega)]; exact h1, by rw [u2_nk _ _ (by omega)]; exact h2, h3.frame (fr _ _ (by omega)) (fr _ _ (by omega)) (fr _ _ (by omega)), h4.frame (fun c a b => fr _ _ (by omega)), h5, fun j hj => by rw [u2_at, bit_or _ ht hj, h6 j hj]; rfl, by rw [u2_nk _ _ (by omega)]; exact h7⟩
theorem c2_onceLine (hK : PK K) {s : PSt} (hz : Lz I f n (.inr s)) {t : Nat} (ht : t < 32) (et : pTk s = nI t) (hi : Int32) : Cw l G (d + 7) m2_onceLine [.ref 2, .int hi] (I, J, K) (fun r h' => ∃ v, r = some (.int v) ∧ ∃ I', h' = (I', J, K) ∧ FP I I' ∧ Lz I' f n (onZ f n t hi s) ∧ ∀ s1, s.2.2.1 t = false → avS f n (sT s t) = .inr s1 → v = pVa s1) := by
  have hK2 := hK
  obtain ⟨k2, p20, p21, hP3, k5, p0, a31, p1, a1⟩ := hK2
  have tail : ∀ I1 zz, Lz I1 f n zz → FP I I1 → Gw l G (d + 7) m2_onceLine 24 [.ref 2, .int hi, .int (nI 1 <<< (nI t &&& 31))] [] (I1, J, K) (fun r h' => ∃ I2 I3, r = some (.int (I2 30 6)) ∧ h' = (I3, J, K) ∧ FP I I3 ∧ Lz I2 f n (bnd (bnd zz (fun s => .inr (sT s t))) (avS f n)) ∧ Lz I3 f n (bnd (bnd (bnd zz (fun s => .inr (sT s t))) (avS f n)) (nuS f n (nI 0) hi))) := by
    intro I1 zz L1 g1
    refine e_aload_n rfl rfl ?_
    refine e_dup rfl rfl ?_
    refine e_getI rfl f2_32 (by assumption) rfl ?_
    refine e_iload_n rfl rfl ?_
    refine e_ior rfl ?_
    refine e_putI rfl f2_32 (by assumption) rfl rfl ?_
    refine e_aload_n rfl rfl ?_
    refine e_getP rfl f2_21 (by assumption) rfl (by assumption) ?_
    refine e_callV (kd := 5) (M2 := m5_advance) rfl v2_45 ok5_advance (c5_adv (d := d + 1) hK (L1.to ht)) rfl (by assumption) rfl rfl rfl rfl (fun r1 h1 q1 => ?_)
    obtain ⟨rfl, I2, rfl, g2, L2⟩ := q1
    refine e_aload_n rfl rfl ?_
    refine e_iconst (v := nI 0) rfl ic_0N ?_
    refine e_iload_n rfl rfl ?_
    refine e_callV (kd := 2) (M2 := m2_number) rfl v2_103 ok2_number (c2_number (d := d) hK L2 (nI 0) hi) rfl (by assumption) rfl rfl rfl rfl (fun r1 h1 q1 => ?_)
    obtain ⟨rfl, I3, rfl, g3, L3⟩ := q1
    refine e_ireturn rfl rfl ?_
    exact ⟨I2, I3, rfl, rfl, (g1.tr (fun c hc => by rw [g2 c hc, u2_row _ _ (by omega)])).tr g3, L2, L3⟩
  have told := hz.2.2.2.2.2.1 t ht
  refine Cw.of ok2_onceLine rfl (rfl : argL _ _ = [.ref 2, .int hi, .null]) ?_
  refine e_iconst (v := nI 1) rfl ic_1N ?_
  refine e_aload_n rfl rfl ?_
  refine e_getP rfl f2_21 (by assumption) rfl (by assumption) ?_
  refine e_getI rfl f2_48 (by assumption) rfl ?_
  rw [hz.tk, et]
  refine e_ishl rfl ?_
  refine e_ist2 rfl rfl rfl ?_
  refine e_aload_n rfl rfl ?_
  refine e_getI rfl f2_32 (by assumption) rfl ?_
  refine e_iload_n rfl rfl ?_
  refine e_iand rfl ?_
  refine e_if_eq (tgt := 24) rfl rfl (fun z => ?_) (fun z => ?_)
  · have no : s.2.2.1 t = false := told.symm.trans ((and_bit _ ht).mp z)
    refine Gw.mono (tail I _ hz FP.rf) (fun r h' q => ?_)
    obtain ⟨I2, I3, q1, q2, q3, q4, q5⟩ := q
    refine ⟨_, q1, I3, q2, q3, ?_, fun s1 _ e1 => ?_⟩
    · rw [onZ, if_neg (by rw [no]; decide)]
      exact q5
    · have q4 : Lz I2 f n (avS f n (sT s t)) := q4
      rw [e1] at q4
      exact q4.va
  · have yes : s.2.2.1 t = true := by
      cases hh : s.2.2.1 t with
      | true => rfl
      | false => exact absurd ((and_bit _ ht).mpr (told.trans hh)) z
    refine e_aload_n rfl rfl ?_
    refine e_iconst (v := nI 3) rfl ic_3N ?_
    refine e_callV (kd := 2) (M2 := m2_fail) rfl v2_59 ok2_fail (c2_fail hK hz (by omega) (by omega)) rfl (by assumption) rfl rfl rfl rfl (fun r1 h1 q1 => ?_)
    obtain ⟨rfl, I1, rfl, g1, L1⟩ := q1
    refine Gw.mono (tail I1 _ L1 g1) (fun r h' q => ?_)
    obtain ⟨I2, I3, q1, q2, q3, q4, q5⟩ := q
    refine ⟨_, q1, I3, q2, q3, ?_, fun s1 no e1 => absurd (no.symm.trans yes) (by decide)⟩
    rw [onZ, if_pos yes]
    exact q5
theorem c2_lawLine (hK : PK K) {s : PSt} (hz : Lz I f n (.inr s)) : CV l G (d + 80) m2_lawLine [.ref 2] I J K f n (lwS f n s) := by
  have hK2 := hK
  obtain ⟨k2, p20, p21, hP3, k5, p0, a31, p1, a1⟩ := hK2
  obtain ⟨h3, q0, q1, q2, q3, q4, r1, r2, r3, r4, r5⟩ := hP3
  have r51 := r5.1
  have hf := hz.hf
  obtain ⟨s1, e1⟩ := avS_inr f n s
  unfold lwS
  rw [e1]
  show CV l G (d + 80) m2_lawLine [.ref 2] I J K f n (if nI 9 ≤ pTk s1 ∧ pTk s1 ≤ nI 11 then (if bitOf ((pP s1).2 16 0) (nI (lwN s1)) = true then flS 3 s1 else bnd (avS f n s1) fun s2 => bnd (exT f n (stP s2 (bgP (pP s2) (lwN s1)))) fun s3 => .inr (stP s3 (edP (pP s3) (lwN s1)))) else flS 1 s1)
  refine Cw.of ok2_lawLine rfl (rfl : argL _ _ = [.ref 2, .null]) ?_
  refine e_aload_n rfl rfl ?_
  refine e_getP rfl f2_21 (by assumption) rfl (by assumption) ?_
  refine e_callV (kd := 5) (M2 := m5_advance) rfl v2_45 ok5_advance (c5_adv (d := d + 74) hK hz) rfl (by assumption) rfl rfl rfl rfl (fun r1 h1 q1 => ?_)
  obtain ⟨rfl, I1, rfl, g1, L1⟩ := q1
  refine e_aload_n rfl rfl ?_
  refine e_getP rfl f2_21 (by assumption) rfl (by assumption) ?_
  refine e_getI rfl f2_48 (by assumption) rfl ?_
  have L1 : Lz I1 f n (avS f n s) := L1
  rw [e1] at L1
  have bad : ¬ (nI 9 ≤ pTk s1 ∧ pTk s1 ≤ nI 11) → ∀ x, Gw l G (d + 80) m2_lawLine 27 [.ref 2, .int x] [] (I1, J, K) (fun r h' => r = none ∧ ∃ I', h' = (I', J, K) ∧ FP I I' ∧ Lz I' f n (if nI 9 ≤ pTk s1 ∧ pTk s1 ≤ nI 11 then (if bitOf ((pP s1).2 16 0) (nI (lwN s1)) = true then flS 3 s1 else bnd (avS f n s1) fun s2 => bnd (exT f n (stP s2 (bgP (pP s2) (lwN s1)))) fun s3 => .inr (stP s3 (edP (pP s3) (lwN s1)))) else flS 1 s1)) := by
    intro hb x
    rw [if_neg hb]
    refine e_aload_n rfl rfl ?_
    refine e_iconst (v := nI 1) rfl ic_1N ?_
    refine e_callV (kd := 2) (M2 := m2_fail) rfl v2_59 ok2_fail (c2_fail hK L1 (by omega) (by omega)) rfl (by assumption) rfl rfl rfl rfl (fun r1 h1 q1 => ?_)
    obtain ⟨rfl, I2, rfl, g2, L2⟩ := q1
    refine e_return rfl rfl ?_
    exact ⟨rfl, I2, rfl, g1.tr g2, L2⟩
  rw [L1.tk]
  rcases avS_tk hf e1 with et | ⟨j, hj, et⟩
  · rw [et]
    refine e_bipush (v := nI 9) rfl bp_9N ?_
    refine e_isub rfl ?_
    refine e_ist1 rfl rfl rfl ?_
    refine e_iload_n rfl rfl ?_
    refine e_if_lt (tgt := 27) rfl rfl (fun _ => ?_) (fun z => absurd (by decide : (-1 : Int32) - nI 9 < 0) z)
    have b := bad (by rw [et]; decide) (-1 - nI 9)
    rw [et] at b
    exact b
  · rw [et]
    by_cases c9 : j < 9
    · refine e_bipush (v := nI 9) rfl bp_9N ?_
      refine e_isub rfl ?_
      refine e_ist1 rfl rfl rfl ?_
      refine e_iload_n rfl rfl ?_
      refine e_if_lt (tgt := 27) rfl rfl (fun _ => ?_) (fun z => absurd (sub9 j c9) z)
      have b := bad (by rw [et]; exact fun q => absurd ((nI_leI (by omega) (by omega)).mp q.1) (by omega)) (nI j - nI 9)
      rw [et] at b
      exact b
    · refine e_bipush (v := nI 9) rfl bp_9N ?_
      first | refine e_isubN rfl (by omega) ?_ | refine e_isub rfl ?_
      refine e_ist1 rfl rfl rfl ?_
      refine e_iload_n rfl rfl ?_
      refine e_if_ltN (tgt := 27) rfl rfl (by omega) ?_
      refine e_iload_n rfl rfl ?_
      refine e_iconst (v := nI 3) rfl ic_3N ?_
      refine e_icmp_ltN (tgt := 33) rfl rfl (by omega) (by omega) (fun y => ?_) (fun y => ?_)
      · have ew : lwN s1 = j - 9 := by unfold lwN; rw [et, pk_sub (by omega), nI_clamp (by omega)]
        rw [if_pos (by exact ⟨(nI_leI (by omega) (by omega)).mpr (by omega), (nI_leI (by omega) (by omega)).mpr (by omega)⟩), ew]
        have e16 : I1 (3 + 22) 5 = (pP s1).2 16 0 := L1.2.2.2.1.2.2.2.2.2.2.2.2.2.1.2.2.2.2
        have ein : inN 3 (nI (j - 9)) = true := decide_eq_true ⟨nI_pos' (by omega), (nI_ltI (by omega) (by omega)).mpr y⟩
        refine e_aload_n rfl rfl ?_
        refine e_getP rfl f2_12 (by assumption) rfl (by assumption) ?_
        refine e_getP rfl f2_149 (by assumption) rfl (by assumption) ?_
        refine e_iload_n rfl rfl ?_
        refine e_callVp (kd := 1) (M2 := m1_has) rfl v2_153 ok1_has (c1_has (d := d + 78) r51 (nI (j - 9))) rfl (by assumption) rfl rfl rfl rfl ?_
        rw [ein, Bool.true_and, e16]
        refine e_if_eqB (tgt := 52) rfl rfl (fun y2 => ?_) (fun y2 => ?_)
        · rw [if_neg (by rw [y2]; decide)]
          obtain ⟨s2, e2⟩ := avS_inr f n s1
          rw [e2]
          refine e_aload_n rfl rfl ?_
          refine e_getP rfl f2_21 (by assumption) rfl (by assumption) ?_
          refine e_callV (kd := 5) (M2 := m5_advance) rfl v2_45 ok5_advance (c5_adv (d := d + 74) hK L1) rfl (by assumption) rfl rfl rfl rfl (fun r1 h1 q1 => ?_)
          obtain ⟨rfl, I2, rfl, g2, L2⟩ := q1
          refine e_aload_n rfl rfl ?_
          refine e_getP rfl f2_12 (by assumption) rfl (by assumption) ?_
          refine e_getP rfl f2_149 (by assumption) rfl (by assumption) ?_
          refine e_iload_n rfl rfl ?_
          refine e_callV (kd := 1) (M2 := m1_begin) rfl v2_159 ok1_begin (c1_begin (d := d + 79) r5 y) rfl (by assumption) rfl rfl rfl rfl (fun r1 h1 q1 => ?_)
          obtain ⟨rfl, rfl⟩ := q1
          have L2 : Lz I2 f n (avS f n s1) := L2
          rw [e2] at L2
          have L3 := L2.bg y
          have L3 : Lz _ f n (.inr (stP s2 (bgP (pP s2) (j - 9)))) := L3
          have hx := exT_eq hf L3.2.2.2.2.1
          refine e_aload_n rfl rfl ?_
          refine e_iconst (v := nI 0) rfl ic_0N ?_
          refine e_callV (kd := 2) (M2 := m2_either) rfl v2_162 ok2_either ((ex_all hK 6500).1 6 (by omega) 0 (by omega) (d + 79) (by omega) _ _ _ L3 hx) rfl (by assumption) rfl rfl rfl rfl (fun r1 h1 q1 => ?_)
          obtain ⟨rfl, I4, rfl, g4, L4⟩ := q1
          refine e_aload_n rfl rfl ?_
          refine e_getP rfl f2_12 (by assumption) rfl (by assumption) ?_
          refine e_getP rfl f2_149 (by assumption) rfl (by assumption) ?_
          refine e_iload_n rfl rfl ?_
          refine e_callV (kd := 1) (M2 := m1_end) rfl v2_165 ok1_end (c1_end (d := d + 79) r5 y) rfl (by assumption) rfl rfl rfl rfl (fun r1 h1 q1 => ?_)
          obtain ⟨rfl, rfl⟩ := q1
          refine e_return rfl rfl ?_
          refine ⟨rfl, _, rfl, fun c hc => ?_, L4.ed y⟩
          rw [u2_row _ _ (by omega), g4 c hc, u2_row _ _ (by omega), u2_row _ _ (by omega), u2_row _ _ (by omega), g2 c hc, g1 c hc]
        · rw [if_pos y2]
          refine e_aload_n rfl rfl ?_
          refine e_iconst (v := nI 3) rfl ic_3N ?_
          refine e_callV (kd := 2) (M2 := m2_fail) rfl v2_59 ok2_fail (c2_fail hK L1 (by omega) (by omega)) rfl (by assumption) rfl rfl rfl rfl (fun r1 h1 q1 => ?_)
          obtain ⟨rfl, I2, rfl, g2, L2⟩ := q1
          refine e_aload_n rfl rfl ?_
          refine e_getP rfl f2_21 (by assumption) rfl (by assumption) ?_
          refine e_callV (kd := 5) (M2 := m5_advance) rfl v2_45 ok5_advance (c5_adv (d := d + 74) hK L2) rfl (by assumption) rfl rfl rfl rfl (fun r1 h1 q1 => ?_)
          obtain ⟨rfl, I3, rfl, g3, L3⟩ := q1
          refine e_aload_n rfl rfl ?_
          refine e_getP rfl f2_12 (by assumption) rfl (by assumption) ?_
          refine e_getP rfl f2_149 (by assumption) rfl (by assumption) ?_
          refine e_iload_n rfl rfl ?_
          refine e_callV (kd := 1) (M2 := m1_begin) rfl v2_159 ok1_begin (c1_begin (d := d + 79) r5 y) rfl (by assumption) rfl rfl rfl rfl (fun r1 h1 q1 => ?_)
          obtain ⟨rfl, rfl⟩ := q1
          have L3 : Lz I3 f n (.inl (3, pPl s1)) := L3
          have L4 := L3.bg y
          refine e_aload_n rfl rfl ?_
          refine e_iconst (v := nI 0) rfl ic_0N ?_
          refine e_callV (kd := 2) (M2 := m2_either) rfl v2_162 ok2_either (either_dead (dp := 0) (d := d + 72) hK L4) rfl (by assumption) rfl rfl rfl rfl (fun r1 h1 q1 => ?_)
          obtain ⟨rfl, I5, rfl, g5, L5⟩ := q1
          refine e_aload_n rfl rfl ?_
          refine e_getP rfl f2_12 (by assumption) rfl (by assumption) ?_
          refine e_getP rfl f2_149 (by assumption) rfl (by assumption) ?_
          refine e_iload_n rfl rfl ?_
          refine e_callV (kd := 1) (M2 := m1_end) rfl v2_165 ok1_end (c1_end (d := d + 79) r5 y) rfl (by assumption) rfl rfl rfl rfl (fun r1 h1 q1 => ?_)
          obtain ⟨rfl, rfl⟩ := q1
          refine e_return rfl rfl ?_
          have L5 : Lz I5 f n (.inl (3, pPl s1)) := L5
          refine ⟨rfl, _, rfl, fun c hc => ?_, L5.ed y⟩
          rw [u2_row _ _ (by omega), g5 c hc, u2_row _ _ (by omega), u2_row _ _ (by omega), u2_row _ _ (by omega), g3 c hc, g2 c hc, g1 c hc]
      · have b := bad (by rw [et]; exact fun q => absurd ((nI_leI (by omega) (by omega)).mp q.2) (by omega)) (nI (j - 9))
        rw [et] at b
        exact b
theorem c2_line (hK : PK K) (hz : Lz I f n zz) : CV l G (d + 81) m2_line [.ref 2] I J K f n (bnd zz (lnS f n)) := by
  have hK2 := hK
  obtain ⟨k2, p20, p21, hP3, k5, p0, a31, p1, a1⟩ := hK2
  have h3 := hP3.1
  have ne : ∀ {a b : Nat}, a ≠ b → a < 100 → b < 100 → ∀ {x : Int32}, x = nI a → ¬ x = nI b := fun h1 h2 h3 x e q => h1 ((nI_eq (by omega) (by omega)).mp (e.symm.trans q))
  cases zz with
  | inl e =>
    refine Cw.of ok2_line rfl (rfl : argL _ _ = [.ref 2]) ?_
    refine e_aload_n rfl rfl ?_
    refine e_getP rfl f2_21 (by assumption) rfl (by assumption) ?_
    refine e_getI rfl f2_48 (by assumption) rfl ?_
    rw [hz.dead]
    refine sw2_line_7 (fun z => absurd z (by decide)) (fun z => absurd z (by decide)) (fun z => absurd z (by decide)) (fun z => absurd z (by decide)) (fun z => absurd z (by decide)) (fun z => absurd z (by decide)) (fun z => absurd z (by decide)) (fun z => absurd z (by decide)) (fun _ _ _ _ _ _ _ _ => ?_)
    refine e_aload_n rfl rfl ?_
    refine e_iconst (v := nI 1) rfl ic_1N ?_
    refine e_callV (kd := 2) (M2 := m2_fail) rfl v2_59 ok2_fail (c2_fail hK hz (by omega) (by omega)) rfl (by assumption) rfl rfl rfl rfl (fun r1 h1 q1 => ?_)
    obtain ⟨rfl, I1, rfl, g1, L1⟩ := q1
    refine e_return rfl rfl ?_
    exact ⟨rfl, I1, rfl, g1, L1⟩
  | inr s =>
    show CV l G (d + 81) m2_line [.ref 2] I J K f n (lnS f n s)
    unfold lnS
    refine Cw.of ok2_line rfl (rfl : argL _ _ = [.ref 2]) ?_
    refine e_aload_n rfl rfl ?_
    refine e_getP rfl f2_21 (by assumption) rfl (by assumption) ?_
    refine e_getI rfl f2_48 (by assumption) rfl ?_
    rw [hz.tk]
    refine sw2_line_7 (fun z => ?_) (fun z => ?_) (fun z => ?_) (fun z => ?_) (fun z => ?_) (fun z => ?_) (fun z => ?_) (fun z => ?_) (fun z1 z2 z3 z4 z5 z6 z7 z8 => ?_)
    · rw [if_pos z]
      refine e_aload_n rfl rfl ?_
      refine e_callV (kd := 2) (M2 := m2_kindLine) rfl v2_62 ok2_kindLine (c2_kindLine (d := d + 73) hK hz) rfl (by assumption) rfl rfl rfl rfl (fun r1 h1 q1 => ?_)
      obtain ⟨rfl, I1, rfl, g1, L1⟩ := q1
      refine e_goto (tgt := 140) rfl rfl ?_
      refine e_return rfl rfl ?_
      exact ⟨rfl, I1, rfl, g1, L1⟩
    · rw [if_neg (ne (by omega) (by omega) (by omega) z), if_pos z]
      refine e_aload_n rfl rfl ?_
      refine e_callV (kd := 2) (M2 := m2_tinLine) rfl v2_65 ok2_tinLine (c2_tinLine (d := d + 73) hK hz) rfl (by assumption) rfl rfl rfl rfl (fun r1 h1 q1 => ?_)
      obtain ⟨rfl, I1, rfl, g1, L1⟩ := q1
      refine e_goto (tgt := 140) rfl rfl ?_
      refine e_return rfl rfl ?_
      exact ⟨rfl, I1, rfl, g1, L1⟩
    · rw [if_neg (ne (by omega) (by omega) (by omega) z), if_neg (ne (by omega) (by omega) (by omega) z), if_pos z]
      refine e_aload_n rfl rfl ?_
      refine e_callV (kd := 2) (M2 := m2_openLine) rfl v2_68 ok2_openLine (c2_openLine (d := d + 73) hK hz) rfl (by assumption) rfl rfl rfl rfl (fun r1 h1 q1 => ?_)
      obtain ⟨rfl, I1, rfl, g1, L1⟩ := q1
      refine e_goto (tgt := 140) rfl rfl ?_
      refine e_return rfl rfl ?_
      exact ⟨rfl, I1, rfl, g1, L1⟩
    · rw [if_neg (ne (by omega) (by omega) (by omega) z), if_neg (ne (by omega) (by omega) (by omega) z), if_neg (ne (by omega) (by omega) (by omega) z), if_pos z]
      refine e_aload_n rfl rfl ?_
      refine e_callV (kd := 2) (M2 := m2_wantLine) rfl v2_71 ok2_wantLine (c2_wantLine (d := d + 73) hK hz) rfl (by assumption) rfl rfl rfl rfl (fun r1 h1 q1 => ?_)
      obtain ⟨rfl, I1, rfl, g1, L1⟩ := q1
      refine e_goto (tgt := 140) rfl rfl ?_
      refine e_return rfl rfl ?_
      exact ⟨rfl, I1, rfl, g1, L1⟩
    · rw [if_neg (ne (by omega) (by omega) (by omega) z), if_neg (ne (by omega) (by omega) (by omega) z), if_neg (ne (by omega) (by omega) (by omega) z), if_neg (ne (by omega) (by omega) (by omega) z), if_pos z]
      refine e_aload_n rfl rfl ?_
      refine e_getP rfl f2_12 (by assumption) rfl (by assumption) ?_
      refine e_aload_n rfl rfl ?_
      refine e_bipush (v := nI 20) rfl bp_20N ?_
      refine e_callV (kd := 2) (M2 := m2_onceLine) rfl v2_74 ok2_onceLine (c2_onceLine (d := d + 73) hK hz (by omega) z (nI 20)) rfl (by assumption) rfl rfl rfl rfl (fun r1 h1 q1 => ?_)
      obtain ⟨v, rfl, I1, rfl, g1, L1, e1⟩ := q1
      refine e_putI rfl f2_78 (by assumption) rfl rfl ?_
      refine e_goto (tgt := 140) rfl rfl ?_
      refine e_return rfl rfl ?_
      have L2 := L1.st (q := 0) (by omega) v
      rw [onS_eq e1] at L2
      exact ⟨rfl, _, rfl, fun c hc => by rw [u2_row _ _ (by omega)]; exact g1 c hc, L2⟩
    · rw [if_neg (ne (by omega) (by omega) (by omega) z), if_neg (ne (by omega) (by omega) (by omega) z), if_neg (ne (by omega) (by omega) (by omega) z), if_neg (ne (by omega) (by omega) (by omega) z), if_neg (ne (by omega) (by omega) (by omega) z), if_pos z]
      refine e_aload_n rfl rfl ?_
      refine e_getP rfl f2_12 (by assumption) rfl (by assumption) ?_
      refine e_aload_n rfl rfl ?_
      refine e_bipush (v := nI 100) rfl bp_100N ?_
      refine e_callV (kd := 2) (M2 := m2_onceLine) rfl v2_74 ok2_onceLine (c2_onceLine (d := d + 73) hK hz (by omega) z (nI 100)) rfl (by assumption) rfl rfl rfl rfl (fun r1 h1 q1 => ?_)
      obtain ⟨v, rfl, I1, rfl, g1, L1, e1⟩ := q1
      refine e_putI rfl f2_81 (by assumption) rfl rfl ?_
      refine e_goto (tgt := 140) rfl rfl ?_
      refine e_return rfl rfl ?_
      have L2 := L1.st (q := 1) (by omega) v
      rw [onS_eq e1] at L2
      exact ⟨rfl, _, rfl, fun c hc => by rw [u2_row _ _ (by omega)]; exact g1 c hc, L2⟩
    · rw [if_neg (ne (by omega) (by omega) (by omega) z), if_neg (ne (by omega) (by omega) (by omega) z), if_neg (ne (by omega) (by omega) (by omega) z), if_neg (ne (by omega) (by omega) (by omega) z), if_neg (ne (by omega) (by omega) (by omega) z), if_neg (ne (by omega) (by omega) (by omega) z), if_pos z]
      refine e_aload_n rfl rfl ?_
      refine e_getP rfl f2_12 (by assumption) rfl (by assumption) ?_
      refine e_aload_n rfl rfl ?_
      refine e_ldc rfl k2_84 ?_
      rw [show (99999 : Int32) = nI 99999 by decide]
      refine e_callV (kd := 2) (M2 := m2_onceLine) rfl v2_74 ok2_onceLine (c2_onceLine (d := d + 73) hK hz (by omega) z (nI 99999)) rfl (by assumption) rfl rfl rfl rfl (fun r1 h1 q1 => ?_)
      obtain ⟨v, rfl, I1, rfl, g1, L1, e1⟩ := q1
      refine e_putI rfl f2_85 (by assumption) rfl rfl ?_
      refine e_goto (tgt := 140) rfl rfl ?_
      refine e_return rfl rfl ?_
      have L2 := L1.st (q := 2) (by omega) v
      rw [onS_eq e1] at L2
      exact ⟨rfl, _, rfl, fun c hc => by rw [u2_row _ _ (by omega)]; exact g1 c hc, L2⟩
    · rw [if_neg (ne (by omega) (by omega) (by omega) z), if_neg (ne (by omega) (by omega) (by omega) z), if_neg (ne (by omega) (by omega) (by omega) z), if_neg (ne (by omega) (by omega) (by omega) z), if_neg (ne (by omega) (by omega) (by omega) z), if_neg (ne (by omega) (by omega) (by omega) z), if_neg (ne (by omega) (by omega) (by omega) z), if_pos z]
      refine e_aload_n rfl rfl ?_
      refine e_callV (kd := 2) (M2 := m2_lawLine) rfl v2_88 ok2_lawLine (c2_lawLine (d := d) hK hz) rfl (by assumption) rfl rfl rfl rfl (fun r1 h1 q1 => ?_)
      obtain ⟨rfl, I1, rfl, g1, L1⟩ := q1
      refine e_goto (tgt := 140) rfl rfl ?_
      refine e_return rfl rfl ?_
      exact ⟨rfl, I1, rfl, g1, L1⟩
    · rw [if_neg z1, if_neg z2, if_neg z3, if_neg z4, if_neg z5, if_neg z6, if_neg z7, if_neg z8]
      refine e_aload_n rfl rfl ?_
      refine e_iconst (v := nI 1) rfl ic_1N ?_
      refine e_callV (kd := 2) (M2 := m2_fail) rfl v2_59 ok2_fail (c2_fail hK hz (by omega) (by omega)) rfl (by assumption) rfl rfl rfl rfl (fun r1 h1 q1 => ?_)
      obtain ⟨rfl, I1, rfl, g1, L1⟩ := q1
      refine e_return rfl rfl ?_
      exact ⟨rfl, I1, rfl, g1, L1⟩
theorem read_loop (hK : PK K) : ∀ k i I zz, i + k = n → Lz I f n zz → (∀ I2, FP I I2 → Lz I2 f n (bnd zz (rdS f n k)) → Q none (I2, J, K)) → Gw l G (d + 82) m2_read 45 [.ref 2, .ref 1, .int (nI n), .int (nI i)] [] (I, J, K) Q := by
  have hK2 := hK
  obtain ⟨k2, p20, p21, hP3, k5, p0, a31, p1, a1⟩ := hK2
  intro k
  induction k with
  | zero =>
    intro i I zz hi hz kk
    have h7 := hz.n7
    refine e_iload_n rfl rfl ?_
    refine e_iload_n rfl rfl ?_
    first | refine e_icmp_geN (tgt := 93) rfl rfl (by omega) (by omega) (fun z => ?_) (fun z => ?_) | refine e_icmp_ge (tgt := 93) rfl rfl (fun z => ?_) (fun z => ?_)
    · refine e_return rfl rfl ?_
      refine kk I FP.rf ?_
      cases zz <;> exact hz
    · omega
  | succ k ih =>
    intro i I zz hi hz kk
    have h7 := hz.n7
    refine e_iload_n rfl rfl ?_
    refine e_iload_n rfl rfl ?_
    first | refine e_icmp_geN (tgt := 93) rfl rfl (by omega) (by omega) (fun z => ?_) (fun z => ?_) | refine e_icmp_ge (tgt := 93) rfl rfl (fun z => ?_) (fun z => ?_)
    · omega
    · cases zz with
      | inl e =>
        refine e_aload_n rfl rfl ?_
        refine e_getI rfl f2_35 (by assumption) rfl ?_
        rw [hz.2.2.1]
        have e1 := hz.1
        have e2 := hz.2.1
        first | refine e_if_neB (tgt := 93) rfl rfl (fun z => ?_) (fun z => ?_) | refine e_if_neN (tgt := 93) rfl rfl (by omega) (fun z => ?_) (fun z => ?_) | refine e_if_ne (tgt := 93) rfl rfl (fun z => ?_) (fun z => ?_)
        · refine e_return rfl rfl ?_
          exact kk I FP.rf hz
        · exact absurd (by assumption) e1
      | inr s =>
        refine e_aload_n rfl rfl ?_
        refine e_getI rfl f2_35 (by assumption) rfl ?_
        rw [hz.1]
        first | refine e_if_neB (tgt := 93) rfl rfl (fun z => ?_) (fun z => ?_) | refine e_if_neN (tgt := 93) rfl rfl (by omega) (fun z => ?_) (fun z => ?_) | refine e_if_ne (tgt := 93) rfl rfl (fun z => ?_) (fun z => ?_)
        · omega
        · refine e_aload_n rfl rfl ?_
          refine e_getP rfl f2_21 (by assumption) rfl (by assumption) ?_
          refine e_getI rfl f2_48 (by assumption) rfl ?_
          rw [hz.tk]
          refine e_if_eq (tgt := 93) rfl rfl (fun z => ?_) (fun z => ?_)
          · refine e_return rfl rfl ?_
            refine kk I FP.rf ?_
            have z : pTk s = nI 0 := z
            rw [bnd, rdS, if_pos z]
            exact hz
          · refine e_aload_n rfl rfl ?_
            refine e_callV (kd := 2) (M2 := m2_line) rfl v2_51 ok2_line (c2_line (d := d) hK hz) rfl (by assumption) rfl rfl rfl rfl (fun r1 h1 q1 => ?_)
            obtain ⟨rfl, I1, rfl, g1, L1⟩ := q1
            refine e_aload_n rfl rfl ?_
            refine e_bipush (v := nI 59) rfl bp_59N ?_
            refine e_callV (kd := 2) (M2 := m2_expect) rfl v2_54 ok2_expect (c2_expect (d := d + 75) hK L1 59) rfl (by assumption) rfl rfl rfl rfl (fun r1 h1 q1 => ?_)
            obtain ⟨rfl, I2, rfl, g2, L2⟩ := q1
            refine e_aload_n rfl rfl ?_
            refine e_dup rfl rfl ?_
            refine e_getI rfl f2_38 (by assumption) rfl ?_
            refine e_iconst (v := nI 1) rfl ic_1N ?_
            refine e_iadd rfl ?_
            refine e_putI rfl f2_38 (by assumption) rfl rfl ?_
            first | refine e_inc3 rfl rfl rfl (incN1 _) ?_ | refine e_inc3 rfl rfl rfl rfl ?_
            refine e_goto (tgt := 45) rfl rfl ?_
            refine ih (i + 1) _ _ (by omega) L2.ln (fun I3 g3 L3 => kk I3 (fun c hc => by rw [g3 c hc, u2_row _ _ (by omega), g2 c hc, g1 c hc]) ?_)
            have ez : bnd (.inr s) (rdS f n (k + 1)) = bnd (bnd (bnd (bnd (.inr s) (lnS f n)) (exS f n (nI 59))) fun s => .inr (s.1, s.2.1, s.2.2.1, s.2.2.2 + 1)) (rdS f n k) := by
              have z : ¬ pTk s = nI 0 := z
              show rdS f n (k + 1) s = _
              rw [rdS, if_neg z, bnd_bnd, bnd_bnd, bnd_bnd]
              rfl
            rw [ez]
            exact L3
end MRead
