/-! ===== Parser: its cells; fail, expect, numbers, names ===== -/
def PK (K : Kt) : Prop := (K.2.1 2).1 = 2 ∧ K.1 2 0 = some 3 ∧ K.1 2 1 = some 30 ∧ isPlan K 3 ∧ SK K
def FP (I I' : IM) : Prop := ∀ c, (c < 2 ∨ 30 < c) → I' c = I c
theorem FP.rf {I : IM} : FP I I := fun _ _ => rfl
theorem FP.tr {I I1 I2 : IM} (h : FP I I1) (g : FP I1 I2) : FP I I2 := fun c hc => (g c hc).trans (h c hc)
/-- behind a FAULT: the rows' room is kept -/
def RPd (I : IM) (p : Nat) : Prop := RPm I p ∧ (∃ q, q ≤ 6 ∧ I (p + 1) 2 = nI q) ∧ (∃ q, q ≤ 8 ∧ I (p + 6) 2 = nI q) ∧ (∃ q, q ≤ 10 ∧ I (p + 13) 2 = nI q) ∧ (∃ q, q ≤ 8 ∧ I (p + 17) 2 = nI q) ∧ (∃ q, q ≤ 64 ∧ I (p + 22) 4 = nI q) ∧ ∃ q, q ≤ 65 ∧ I (p + 22) 6 = nI q
theorem RP.toD {I : IM} {p : Nat} {P : Pl} (h : RP I p P) (hk : P.1 5 ≤ 65) : RPd I p := by
  obtain ⟨m, ⟨s1, b1⟩, ⟨s2, b2⟩, ⟨s3, b3⟩, ⟨s4, b4⟩, c1, c2, c3, c4, ⟨l1, l2, l3, l4, l5⟩, -⟩ := h
  exact ⟨m, ⟨_, b1, s1⟩, ⟨_, b2, s2⟩, ⟨_, b3, s3⟩, ⟨_, b4, s4⟩, ⟨_, l2, l1⟩, ⟨_, hk, l3⟩⟩
theorem RPd.frame {I I' : IM} {p : Nat} (h : RPd I p) (e1 : I' (p + 1) = I (p + 1)) (e2 : I' (p + 6) = I (p + 6)) (e3 : I' (p + 13) = I (p + 13)) (e4 : I' (p + 17) = I (p + 17)) (e5 : I' (p + 22) 4 = I (p + 22) 4) (e6 : I' (p + 22) 6 = I (p + 22) 6) : RPd I' p := by
  unfold RPd RPm
  rw [e1, e2, e3, e4, e5, e6]
  exact h
theorem SC.frame {I I' : IM} {f : Nat → Nat} {n a pl : Nat} {tk va : Int32} (h : SC I f n a tk va pl) (h1 : I' 1 = I 1) (h30 : I' 30 = I 30) (h31 : I' 31 = I 31) : SC I' f n a tk va pl := by
  unfold SC
  rw [h1, h30, h31]
  exact h
/-- the class has come so far -/
def Lz (I : IM) (f : Nat → Nat) (n : Nat) (zz : PR) : Prop := match zz with
  | .inl e => e.1 ≠ 0 ∧ e.1 ≤ 4 ∧ I 2 3 = nI e.1 ∧ I 2 4 = nI e.2 ∧ (∃ a va pl, SC I f n a (-1) va pl) ∧ RPd I 3
  | .inr s => I 2 3 = nI 0 ∧ I 2 4 = -1 ∧ SC I f n (pAt s) (pTk s) (pVa s) (pPl s) ∧ RP I 3 (pP s) ∧ Okp n s ∧ (∀ j, j < 32 → bitOf (I 2 2) (nI j) = s.2.2.1 j) ∧ I 2 5 = nI s.2.2.2
abbrev CV (l : Launch) (G : GG) (d : Nat) (M : MD) (as : List Value) (I : IM) (J : JM) (K : Kt) (f : Nat → Nat) (n : Nat) (zz : PR) : Prop := Cw l G d M as (I, J, K) (fun r h' => r = none ∧ ∃ I', h' = (I', J, K) ∧ FP I I' ∧ Lz I' f n zz)
abbrev CVi (l : Launch) (G : GG) (d : Nat) (M : MD) (as : List Value) (I : IM) (J : JM) (K : Kt) (f : Nat → Nat) (n : Nat) (v : Int32) (zz : PR) : Prop := Cw l G d M as (I, J, K) (fun r h' => r = some (.int v) ∧ ∃ I', h' = (I', J, K) ∧ FP I I' ∧ Lz I' f n zz)
theorem Lz.tk {I : IM} {f : Nat → Nat} {n : Nat} {s : PSt} (h : Lz I f n (.inr s)) : I 30 4 = pTk s := h.2.2.1.2.2.2.1
theorem Lz.va {I : IM} {f : Nat → Nat} {n : Nat} {s : PSt} (h : Lz I f n (.inr s)) : I 30 6 = pVa s := h.2.2.1.2.2.2.2.2.1
theorem Lz.dead {I : IM} {f : Nat → Nat} {n : Nat} {e : Nat × Nat} (h : Lz I f n (.inl e)) : I 30 4 = -1 := by
  obtain ⟨-, -, -, -, ⟨a, va, pl, h⟩, -⟩ := h
  exact h.2.2.2.1
theorem Lz.hf {I : IM} {f : Nat → Nat} {n : Nat} {zz : PR} (h : Lz I f n zz) : ∀ j, f j < 256 := by
  cases zz with
  | inl e =>
    obtain ⟨-, -, -, -, ⟨a, va, pl, h⟩, -⟩ := h
    exact h.2.2.2.2.2.2.2.2.1
  | inr s => exact h.2.2.1.2.2.2.2.2.2.2.2.1
theorem Lz.n7 {I : IM} {f : Nat → Nat} {n : Nat} {zz : PR} (h : Lz I f n zz) : n ≤ 700 := by
  cases zz with
  | inl e =>
    obtain ⟨-, -, -, -, ⟨a, va, pl, h⟩, -⟩ := h
    exact h.2.2.2.2.2.2.1
  | inr s => exact h.2.2.1.2.2.2.2.2.2.1
theorem Lz.rpm {I : IM} {f : Nat → Nat} {n : Nat} {zz : PR} (h : Lz I f n zz) : RPm I 3 := by
  cases zz with
  | inl e => exact h.2.2.2.2.2.1
  | inr s => exact h.2.2.2.1.1
theorem Lz.r0 {I : IM} {f : Nat → Nat} {n : Nat} {zz : PR} (h : Lz I f n zz) : ∃ q, I (3 + 1) 0 = nI 6 ∧ I (3 + 1) 2 = nI q ∧ q ≤ 6 ∧ ∀ s, zz = .inr s → q = (pP s).1 0 := by
  cases zz with
  | inl e => obtain ⟨-, -, -, -, -, m, ⟨q, h1, h2⟩, -⟩ := h; exact ⟨q, m.1, h2, h1, fun s q => absurd q (by simp)⟩
  | inr s => exact ⟨_, h.2.2.2.1.1.1, h.2.2.2.1.2.1.1, h.2.2.2.1.2.1.2, fun s q => by rw [Sum.inr.inj q]⟩
theorem Lz.r1 {I : IM} {f : Nat → Nat} {n : Nat} {zz : PR} (h : Lz I f n zz) : ∃ q, I (3 + 6) 0 = nI 8 ∧ I (3 + 6) 2 = nI q ∧ q ≤ 8 ∧ ∀ s, zz = .inr s → q = (pP s).1 1 := by
  cases zz with
  | inl e => obtain ⟨-, -, -, -, -, m, -, ⟨q, h1, h2⟩, -⟩ := h; exact ⟨q, m.2.1, h2, h1, fun s q => absurd q (by simp)⟩
  | inr s => exact ⟨_, h.2.2.2.1.1.2.1, h.2.2.2.1.2.2.1.1, h.2.2.2.1.2.2.1.2, fun s q => by rw [Sum.inr.inj q]⟩
theorem Lz.r2 {I : IM} {f : Nat → Nat} {n : Nat} {zz : PR} (h : Lz I f n zz) : ∃ q, I (3 + 13) 0 = nI 10 ∧ I (3 + 13) 2 = nI q ∧ q ≤ 10 ∧ ∀ s, zz = .inr s → q = (pP s).1 2 := by
  cases zz with
  | inl e => obtain ⟨-, -, -, -, -, m, -, -, ⟨q, h1, h2⟩, -⟩ := h; exact ⟨q, m.2.2.1, h2, h1, fun s q => absurd q (by simp)⟩
  | inr s => exact ⟨_, h.2.2.2.1.1.2.2.1, h.2.2.2.1.2.2.2.1.1, h.2.2.2.1.2.2.2.1.2, fun s q => by rw [Sum.inr.inj q]⟩
theorem Lz.r3 {I : IM} {f : Nat → Nat} {n : Nat} {zz : PR} (h : Lz I f n zz) : ∃ q, I (3 + 17) 0 = nI 8 ∧ I (3 + 17) 2 = nI q ∧ q ≤ 8 ∧ ∀ s, zz = .inr s → q = (pP s).1 3 := by
  cases zz with
  | inl e => obtain ⟨-, -, -, -, -, m, -, -, -, ⟨q, h1, h2⟩, -⟩ := h; exact ⟨q, m.2.2.2, h2, h1, fun s q => absurd q (by simp)⟩
  | inr s => exact ⟨_, h.2.2.2.1.1.2.2.2, h.2.2.2.1.2.2.2.2.1.1, h.2.2.2.1.2.2.2.2.1.2, fun s q => by rw [Sum.inr.inj q]⟩
theorem fl_av {f : Nat → Nat} {n k : Nat} {zz : PR} : bnd (bnd zz (flS k)) (avS f n) = bnd zz (flS k) := by cases zz <;> rfl
/-- both branches of a test come to one: what it must be where one goes on -/
theorem bnd_if {zz : PR} {g h : PSt → PR} (e : ∀ s, zz = .inr s → g s = h s) : bnd zz g = bnd zz h := by
  cases zz with
  | inl _ => rfl
  | inr s => exact e s rfl
section MParse
variable {l : Launch} {G : GG} {d : Nat} {I : IM} {J : JM} {K : Kt} {Q : Option Value → Hp → Prop} {f : Nat → Nat} {n : Nat} {zz : PR}
theorem c5_adv (hK : PK K) (hz : Lz I f n zz) : CV l G (d + 5) m5_advance [.ref 30] I J K f n (bnd zz (avS f n)) := by
  have hS := hK.2.2.2.2
  cases zz with
  | inl e => exact Cw.mono (c5_advanceBad hS.1 hz.dead) (fun r h' q => ⟨q.1, I, q.2, FP.rf, hz⟩)
  | inr s =>
    by_cases e : pTk s = -1
    · refine Cw.mono (c5_advanceBad hS.1 (hz.tk.trans e)) (fun r h' q => ⟨q.1, I, q.2, FP.rf, ?_⟩)
      rw [bnd, avS, if_pos e]
      exact hz
    · obtain ⟨h1, h2, h3, h4, h5, h6, h7⟩ := hz
      refine Cw.mono (c5_advance hS h3 e) (fun r h' q => ?_)
      obtain ⟨q1, I', q2, q3, q4⟩ := q
      refine ⟨q1, I', q2, fun c hc => q3 c (by omega), ?_⟩
      rw [bnd, avS, if_neg e]
      refine ⟨by rw [q3 2 (by omega)]; exact h1, by rw [q3 2 (by omega)]; exact h2, q4, h4.frame (fun c a b => q3 c (by omega)), ⟨q4.2.2.2.2.2.2.2.1, h5.2⟩, by rw [q3 2 (by omega)]; exact h6, by rw [q3 2 (by omega)]; exact h7⟩
theorem c2_failF (hK : PK K) (hz : Lz I f n zz) {k : Nat} (hk : k ≠ 0) (hk4 : k ≤ 4) : Cw l G d m2_fail [.ref 2, .int (nI k)] (I, J, K) (fun r h' => r = none ∧ ∃ I', h' = (I', J, K) ∧ (∀ c, c ≠ 2 → c ≠ 30 → I' c = I c) ∧ Lz I' f n (bnd zz (flS k))) := by
  obtain ⟨k2, p20, p21, hP3, k5, p0, a31, p1, a1⟩ := hK
  cases zz with
  | inl e =>
    obtain ⟨h1, h2, h3, h4, ⟨a, va, pl, h5⟩, h6⟩ := hz
    refine Cw.of ok2_fail rfl (rfl : argL _ _ = [.ref 2, .int (nI k)]) ?_
    refine e_aload_n rfl rfl ?_
    refine e_getI rfl f2_35 (by assumption) rfl ?_
    rw [h3]
    first | refine e_if_neB (tgt := 23) rfl rfl (fun z => ?_) (fun z => ?_) | refine e_if_neN (tgt := 23) rfl rfl (by omega) (fun z => ?_) (fun z => ?_) | refine e_if_ne (tgt := 23) rfl rfl (fun z => ?_) (fun z => ?_)
    · refine e_aload_n rfl rfl ?_
      refine e_getP rfl f2_21 (by assumption) rfl (by assumption) ?_
      refine e_iconst rfl ic_m1 ?_
      refine e_putI rfl f2_48 (by assumption) rfl rfl ?_
      refine e_return rfl rfl ?_
      refine ⟨rfl, _, rfl, fun c _ hc => u2_row _ _ hc, ⟨h1, h2, ?_, ?_, ⟨a, va, pl, h5.up4 _⟩, h6.frame (u2_row _ _ (by omega)) (u2_row _ _ (by omega)) (u2_row _ _ (by omega)) (u2_row _ _ (by omega)) (by rw [u2_ne _ _ (by omega)]) (by rw [u2_ne _ _ (by omega)])⟩⟩
      · rw [u2_ne _ _ (by omega)]; exact h3
      · rw [u2_ne _ _ (by omega)]; exact h4
    · exact absurd (by assumption) h1
  | inr s =>
    obtain ⟨h1, h2, h3, h4, h5, h6, h7⟩ := hz
    refine Cw.of ok2_fail rfl (rfl : argL _ _ = [.ref 2, .int (nI k)]) ?_
    refine e_aload_n rfl rfl ?_
    refine e_getI rfl f2_35 (by assumption) rfl ?_
    rw [h1]
    first | refine e_if_neB (tgt := 23) rfl rfl (fun z => ?_) (fun z => ?_) | refine e_if_neN (tgt := 23) rfl rfl (by omega) (fun z => ?_) (fun z => ?_) | refine e_if_ne (tgt := 23) rfl rfl (fun z => ?_) (fun z => ?_)
    · omega
    · refine e_aload_n rfl rfl ?_
      refine e_iload_n rfl rfl ?_
      refine e_putI rfl f2_35 (by assumption) rfl rfl ?_
      refine e_aload_n rfl rfl ?_
      refine e_aload_n rfl rfl ?_
      refine e_getP rfl f2_21 (by assumption) rfl (by assumption) ?_
      refine e_getI rfl f2_58 (by assumption) rfl ?_
      rw [u2_ne _ _ (by omega), h3.2.2.2.2.1]
      refine e_putI rfl f2_25 (by assumption) rfl rfl ?_
      refine e_aload_n rfl rfl ?_
      refine e_getP rfl f2_21 (by assumption) rfl (by assumption) ?_
      refine e_iconst rfl ic_m1 ?_
      refine e_putI rfl f2_48 (by assumption) rfl rfl ?_
      refine e_return rfl rfl ?_
      have fr : ∀ c, c ≠ 2 → c ≠ 30 → u2 (u2 (u2 I 2 3 (nI k)) 2 4 (nI (pPl s))) 30 4 (-1) c = I c := fun c a b => by rw [u2_row _ _ b, u2_row _ _ a, u2_row _ _ a]
      refine ⟨rfl, _, rfl, fr, ⟨hk, hk4, ?_, ?_, ⟨pAt s, pVa s, pPl s, ?_⟩, ?_⟩⟩
      · rw [u2_ne _ _ (by omega), u2_nk _ _ (by omega), u2_at]
      · rw [u2_ne _ _ (by omega), u2_at]
      · exact (h3.frame (I' := u2 (u2 I 2 3 (nI k)) 2 4 (nI (pPl s))) (by rw [u2_row _ _ (by omega), u2_row _ _ (by omega)]) (by rw [u2_row _ _ (by omega), u2_row _ _ (by omega)]) (by rw [u2_row _ _ (by omega), u2_row _ _ (by omega)])).up4 _
      · exact (h4.toD (by have := h5.2.1; omega)).frame (fr _ (by omega) (by omega)) (fr _ (by omega) (by omega)) (fr _ (by omega) (by omega)) (fr _ (by omega) (by omega)) (by rw [fr _ (by omega) (by omega)]) (by rw [fr _ (by omega) (by omega)])
theorem c2_fail (hK : PK K) (hz : Lz I f n zz) {k : Nat} (hk : k ≠ 0) (hk4 : k ≤ 4) : CV l G d m2_fail [.ref 2, .int (nI k)] I J K f n (bnd zz (flS k)) := by
  refine Cw.mono (c2_failF hK hz hk hk4) (fun r h' q => ?_)
  obtain ⟨q1, I', q2, q3, q4⟩ := q
  exact ⟨q1, I', q2, fun c hc => q3 c (by omega) (by omega), q4⟩
theorem c2_expect (hK : PK K) (hz : Lz I f n zz) (c : Nat) : CV l G (d + 6) m2_expect [.ref 2, .int (nI c)] I J K f n (bnd zz (exS f n (nI c))) := by
  have hK2 := hK
  obtain ⟨k2, p20, p21, hP3, k5, p0, a31, p1, a1⟩ := hK2
  refine Cw.of ok2_expect rfl (rfl : argL _ _ = [.ref 2, .int (nI c)]) ?_
  refine e_aload_n rfl rfl ?_
  refine e_getP rfl f2_21 (by assumption) rfl (by assumption) ?_
  refine e_getI rfl f2_48 (by assumption) rfl ?_
  refine e_iload_n rfl rfl ?_
  refine e_icmp_eq (tgt := 16) rfl rfl (fun z => ?_) (fun z => ?_)
  · refine e_aload_n rfl rfl ?_
    refine e_getP rfl f2_21 (by assumption) rfl (by assumption) ?_
    refine e_callV (kd := 5) (M2 := m5_advance) rfl v2_45 ok5_advance (c5_adv hK hz) rfl (by assumption) rfl rfl rfl rfl (fun r1 h1 q1 => ?_)
    obtain ⟨rfl, I1, rfl, g1, L1⟩ := q1
    refine e_return rfl rfl ?_
    refine ⟨rfl, I1, rfl, g1, ?_⟩
    rw [bnd_if (h := avS f n) (fun s e => by rw [exS, if_pos (by subst e; exact hz.tk.symm.trans z)])]
    exact L1
  · refine e_aload_n rfl rfl ?_
    refine e_iconst (v := nI 1) rfl ic_1N ?_
    refine e_callV (kd := 2) (M2 := m2_fail) rfl v2_59 ok2_fail (c2_fail hK hz (by omega) (by omega)) rfl (by assumption) rfl rfl rfl rfl (fun r1 h1 q1 => ?_)
    obtain ⟨rfl, I1, rfl, g1, L1⟩ := q1
    refine e_aload_n rfl rfl ?_
    refine e_getP rfl f2_21 (by assumption) rfl (by assumption) ?_
    refine e_callV (kd := 5) (M2 := m5_advance) rfl v2_45 ok5_advance (c5_adv hK L1) rfl (by assumption) rfl rfl rfl rfl (fun r1 h1 q1 => ?_)
    obtain ⟨rfl, I2, rfl, g2, L2⟩ := q1
    refine e_return rfl rfl ?_
    refine ⟨rfl, I2, rfl, g1.tr g2, ?_⟩
    rw [bnd_if (h := flS 1) (fun s e => by rw [exS, if_neg (fun q => z (by subst e; exact hz.tk.trans q))])]
    rw [fl_av] at L2
    exact L2
theorem c2_room (hK : PK K) (hz : Lz I f n zz) {a w m q j : Nat} (hR : isRows K a w m) (hm : I a 0 = nI m) (hs : I a 2 = nI q) (hq : q ≤ m) (hj : ∀ s, zz = .inr s → q = (pP s).1 j) : CV l G (d + 6) m2_room [.ref 2, .ref a] I J K f n (bnd zz (roS f n j m)) := by
  have hK2 := hK
  obtain ⟨k2, p20, p21, hP3, k5, p0, a31, p1, a1⟩ := hK2
  have r4 := hR.1
  refine Cw.of ok2_room rfl (rfl : argL _ _ = [.ref 2, .ref a]) ?_
  refine e_aload_n rfl rfl ?_
  refine e_callVp (kd := 4) (M2 := m4_isFull) rfl v2_139 ok4_isFull (c4_isFull hR hm hs hq) rfl (by assumption) rfl rfl rfl rfl ?_
  first | refine e_if_eqB (tgt := 12) rfl rfl (fun z => ?_) (fun z => ?_) | refine e_if_eqN (tgt := 12) rfl rfl (by omega) (fun z => ?_) (fun z => ?_) | refine e_if_eq (tgt := 12) rfl rfl (fun z => ?_) (fun z => ?_)
  · have y := of_decide_eq_false (by assumption)
    refine e_aload_n rfl rfl ?_
    refine e_getP rfl f2_21 (by assumption) rfl (by assumption) ?_
    refine e_callV (kd := 5) (M2 := m5_advance) rfl v2_45 ok5_advance (c5_adv hK hz) rfl (by assumption) rfl rfl rfl rfl (fun r1 h1 q1 => ?_)
    obtain ⟨rfl, I1, rfl, g1, L1⟩ := q1
    refine e_return rfl rfl ?_
    refine ⟨rfl, I1, rfl, g1, ?_⟩
    rw [bnd_if (h := avS f n) (fun s e => by rw [roS, if_neg (by rw [← hj s e]; exact y)])]
    exact L1
  · have y := of_decide_eq_true (by assumption)
    refine e_aload_n rfl rfl ?_
    refine e_iconst (v := nI 2) rfl ic_2N ?_
    refine e_callV (kd := 2) (M2 := m2_fail) rfl v2_59 ok2_fail (c2_fail hK hz (by omega) (by omega)) rfl (by assumption) rfl rfl rfl rfl (fun r1 h1 q1 => ?_)
    obtain ⟨rfl, I1, rfl, g1, L1⟩ := q1
    refine e_aload_n rfl rfl ?_
    refine e_getP rfl f2_21 (by assumption) rfl (by assumption) ?_
    refine e_callV (kd := 5) (M2 := m5_advance) rfl v2_45 ok5_advance (c5_adv hK L1) rfl (by assumption) rfl rfl rfl rfl (fun r1 h1 q1 => ?_)
    obtain ⟨rfl, I2, rfl, g2, L2⟩ := q1
    refine e_return rfl rfl ?_
    refine ⟨rfl, I2, rfl, g1.tr g2, ?_⟩
    rw [bnd_if (h := flS 2) (fun s e => by rw [roS, if_pos (by rw [← hj s e]; exact y)])]
    rw [fl_av] at L2
    exact L2
theorem c2_number (hK : PK K) (hz : Lz I f n zz) (lo hi : Int32) : CVi l G (d + 6) m2_number [.ref 2, .int lo, .int hi] I J K f n (I 30 6) (bnd zz (nuS f n lo hi)) := by
  have hK2 := hK
  obtain ⟨k2, p20, p21, hP3, k5, p0, a31, p1, a1⟩ := hK2
  have bad : I 30 4 = nI 23 → (I 30 6 < lo ∨ hi < I 30 6) → Gw l G (d + 6) m2_number 38 [.ref 2, .int lo, .int hi, .int (I 30 6)] [] (I, J, K) (fun r h' => r = some (.int (I 30 6)) ∧ ∃ I', h' = (I', J, K) ∧ FP I I' ∧ Lz I' f n (bnd zz (nuS f n lo hi))) := by
    intro z y
    refine e_aload_n rfl rfl ?_
    refine e_iconst (v := nI 2) rfl ic_2N ?_
    refine e_callV (kd := 2) (M2 := m2_fail) rfl v2_59 ok2_fail (c2_fail hK hz (by omega) (by omega)) rfl (by assumption) rfl rfl rfl rfl (fun r1 h1 q1 => ?_)
    obtain ⟨rfl, I1, rfl, g1, L1⟩ := q1
    refine e_aload_n rfl rfl ?_
    refine e_getP rfl f2_21 (by assumption) rfl (by assumption) ?_
    refine e_callV (kd := 5) (M2 := m5_advance) rfl v2_45 ok5_advance (c5_adv hK L1) rfl (by assumption) rfl rfl rfl rfl (fun r1 h1 q1 => ?_)
    obtain ⟨rfl, I2, rfl, g2, L2⟩ := q1
    refine e_iload_n rfl rfl ?_
    refine e_ireturn rfl rfl ?_
    refine ⟨rfl, I2, rfl, g1.tr g2, ?_⟩
    rw [bnd_if (h := flS 2) (fun s e => by subst e; rw [nuS, if_pos (hz.tk.symm.trans z), if_pos (by rw [← hz.va]; exact y)])]
    rw [fl_av] at L2
    exact L2
  refine Cw.of ok2_number rfl (rfl : argL _ _ = [.ref 2, .int lo, .int hi, .null]) ?_
  refine e_aload_n rfl rfl ?_
  refine e_getP rfl f2_21 (by assumption) rfl (by assumption) ?_
  refine e_getI rfl f2_143 (by assumption) rfl ?_
  refine e_ist3 rfl rfl rfl ?_
  refine e_aload_n rfl rfl ?_
  refine e_getP rfl f2_21 (by assumption) rfl (by assumption) ?_
  refine e_getI rfl f2_48 (by assumption) rfl ?_
  refine e_bipush (v := nI 23) rfl bp_23N ?_
  refine e_icmp_eq (tgt := 28) rfl rfl (fun z => ?_) (fun z => ?_)
  · refine e_iload_n rfl rfl ?_
    refine e_iload_n rfl rfl ?_
    refine e_icmp_lt (tgt := 38) rfl rfl (fun y => ?_) (fun y => ?_)
    · exact bad z (Or.inl y)
    · refine e_iload_n rfl rfl ?_
      refine e_iload_n rfl rfl ?_
      refine e_icmp_le (tgt := 43) rfl rfl (fun y2 => ?_) (fun y2 => ?_)
      · refine e_aload_n rfl rfl ?_
        refine e_getP rfl f2_21 (by assumption) rfl (by assumption) ?_
        refine e_callV (kd := 5) (M2 := m5_advance) rfl v2_45 ok5_advance (c5_adv hK hz) rfl (by assumption) rfl rfl rfl rfl (fun r1 h1 q1 => ?_)
        obtain ⟨rfl, I1, rfl, g1, L1⟩ := q1
        refine e_iload_n rfl rfl ?_
        refine e_ireturn rfl rfl ?_
        refine ⟨rfl, I1, rfl, g1, ?_⟩
        rw [bnd_if (h := avS f n) (fun s e => by subst e; rw [nuS, if_pos (hz.tk.symm.trans z), if_neg (by rw [← hz.va]; exact fun q => q.elim y (fun q => absurd y2 (Int32.not_le.mpr q)))])]
        exact L1
      · exact bad z (Or.inr (Int32.not_le.mp y2))
  · refine e_aload_n rfl rfl ?_
    refine e_iconst (v := nI 1) rfl ic_1N ?_
    refine e_callV (kd := 2) (M2 := m2_fail) rfl v2_59 ok2_fail (c2_fail hK hz (by omega) (by omega)) rfl (by assumption) rfl rfl rfl rfl (fun r1 h1 q1 => ?_)
    obtain ⟨rfl, I1, rfl, g1, L1⟩ := q1
    refine e_goto (tgt := 43) rfl rfl ?_
    refine e_aload_n rfl rfl ?_
    refine e_getP rfl f2_21 (by assumption) rfl (by assumption) ?_
    refine e_callV (kd := 5) (M2 := m5_advance) rfl v2_45 ok5_advance (c5_adv hK L1) rfl (by assumption) rfl rfl rfl rfl (fun r1 h1 q1 => ?_)
    obtain ⟨rfl, I2, rfl, g2, L2⟩ := q1
    refine e_iload_n rfl rfl ?_
    refine e_ireturn rfl rfl ?_
    refine ⟨rfl, I2, rfl, g1.tr g2, ?_⟩
    rw [bnd_if (h := flS 1) (fun s e => by subst e; rw [nuS, if_neg (fun q => z (hz.tk.trans q))])]
    rw [fl_av] at L2
    exact L2
theorem c2_newName (hK : PK K) (hz : Lz I f n zz) {a w m q j b : Nat} (hR : isRows K a w m) (hs : I a 2 = nI q) (hq : q ≤ m) (hj : ∀ s, zz = .inr s → fnd (I (a + 2)) (pVa s) q 0 = fnd ((pP s).2 b) (pVa s) ((pP s).1 j) 0) : CVi l G (d + 6) m2_newName [.ref 2, .ref a] I J K f n (I 30 6) (bnd zz (nnS f n j b)) := by
  have hK2 := hK
  obtain ⟨k2, p20, p21, hP3, k5, p0, a31, p1, a1⟩ := hK2
  have r4 := hR.1
  refine Cw.of ok2_newName rfl (rfl : argL _ _ = [.ref 2, .ref a, .null]) ?_
  refine e_aload_n rfl rfl ?_
  refine e_getP rfl f2_21 (by assumption) rfl (by assumption) ?_
  refine e_getI rfl f2_143 (by assumption) rfl ?_
  refine e_ist2 rfl rfl rfl ?_
  refine e_aload_n rfl rfl ?_
  refine e_getP rfl f2_21 (by assumption) rfl (by assumption) ?_
  refine e_getI rfl f2_48 (by assumption) rfl ?_
  refine e_bipush (v := nI 22) rfl bp_22N ?_
  refine e_icmp_eq (tgt := 28) rfl rfl (fun z => ?_) (fun z => ?_)
  · refine e_aload_n rfl rfl ?_
    refine e_iload_n rfl rfl ?_
    refine e_callVp (kd := 4) (M2 := m4_rowOf) rfl v2_146 ok4_rowOf (c4_rowOf (d := d + 4) hR hs hq (I 30 6)) rfl (by assumption) rfl rfl rfl rfl ?_
    refine e_iconst rfl ic_m1 ?_
    refine e_icmp_eq (tgt := 42) rfl rfl (fun y => ?_) (fun y => ?_)
    · refine e_aload_n rfl rfl ?_
      refine e_getP rfl f2_21 (by assumption) rfl (by assumption) ?_
      refine e_callV (kd := 5) (M2 := m5_advance) rfl v2_45 ok5_advance (c5_adv hK hz) rfl (by assumption) rfl rfl rfl rfl (fun r1 h1 q1 => ?_)
      obtain ⟨rfl, I1, rfl, g1, L1⟩ := q1
      refine e_iload_n rfl rfl ?_
      refine e_ireturn rfl rfl ?_
      refine ⟨rfl, I1, rfl, g1, ?_⟩
      rw [bnd_if (h := avS f n) (fun s e => by subst e; rw [nnS, if_pos (hz.tk.symm.trans z), if_pos (by rw [← hj s rfl, ← hz.va]; exact y)])]
      exact L1
    · refine e_aload_n rfl rfl ?_
      refine e_iconst (v := nI 3) rfl ic_3N ?_
      refine e_callV (kd := 2) (M2 := m2_fail) rfl v2_59 ok2_fail (c2_fail hK hz (by omega) (by omega)) rfl (by assumption) rfl rfl rfl rfl (fun r1 h1 q1 => ?_)
      obtain ⟨rfl, I1, rfl, g1, L1⟩ := q1
      refine e_aload_n rfl rfl ?_
      refine e_getP rfl f2_21 (by assumption) rfl (by assumption) ?_
      refine e_callV (kd := 5) (M2 := m5_advance) rfl v2_45 ok5_advance (c5_adv hK L1) rfl (by assumption) rfl rfl rfl rfl (fun r1 h1 q1 => ?_)
      obtain ⟨rfl, I2, rfl, g2, L2⟩ := q1
      refine e_iload_n rfl rfl ?_
      refine e_ireturn rfl rfl ?_
      refine ⟨rfl, I2, rfl, g1.tr g2, ?_⟩
      rw [bnd_if (h := flS 3) (fun s e => by subst e; rw [nnS, if_pos (hz.tk.symm.trans z), if_neg (by rw [← hj s rfl, ← hz.va]; exact y)])]
      rw [fl_av] at L2
      exact L2
  · refine e_aload_n rfl rfl ?_
    refine e_iconst (v := nI 1) rfl ic_1N ?_
    refine e_callV (kd := 2) (M2 := m2_fail) rfl v2_59 ok2_fail (c2_fail hK hz (by omega) (by omega)) rfl (by assumption) rfl rfl rfl rfl (fun r1 h1 q1 => ?_)
    obtain ⟨rfl, I1, rfl, g1, L1⟩ := q1
    refine e_goto (tgt := 42) rfl rfl ?_
    refine e_aload_n rfl rfl ?_
    refine e_getP rfl f2_21 (by assumption) rfl (by assumption) ?_
    refine e_callV (kd := 5) (M2 := m5_advance) rfl v2_45 ok5_advance (c5_adv hK L1) rfl (by assumption) rfl rfl rfl rfl (fun r1 h1 q1 => ?_)
    obtain ⟨rfl, I2, rfl, g2, L2⟩ := q1
    refine e_iload_n rfl rfl ?_
    refine e_ireturn rfl rfl ?_
    refine ⟨rfl, I2, rfl, g1.tr g2, ?_⟩
    rw [bnd_if (h := flS 1) (fun s e => by subst e; rw [nnS, if_neg (fun q => z (hz.tk.trans q))])]
    rw [fl_av] at L2
    exact L2
theorem c2_toldName (hK : PK K) (hz : Lz I f n zz) {a w m q j b : Nat} (hR : isRows K a w m) (hs : I a 2 = nI q) (hq : q ≤ m) (hj : ∀ s, zz = .inr s → fnd (I (a + 2)) (pVa s) q 0 = fnd ((pP s).2 b) (pVa s) ((pP s).1 j) 0) : CVi l G (d + 6) m2_toldName [.ref 2, .ref a] I J K f n (if fnd (I (a + 2)) (I 30 6) q 0 < nI 0 then nI 0 else fnd (I (a + 2)) (I 30 6) q 0) (bnd zz (tnS f n j b)) := by
  have hK2 := hK
  obtain ⟨k2, p20, p21, hP3, k5, p0, a31, p1, a1⟩ := hK2
  have r4 := hR.1
  refine Cw.of ok2_toldName rfl (rfl : argL _ _ = [.ref 2, .ref a, .null]) ?_
  refine e_aload_n rfl rfl ?_
  refine e_aload_n rfl rfl ?_
  refine e_getP rfl f2_21 (by assumption) rfl (by assumption) ?_
  refine e_getI rfl f2_143 (by assumption) rfl ?_
  refine e_callVp (kd := 4) (M2 := m4_rowOf) rfl v2_146 ok4_rowOf (c4_rowOf (d := d + 4) hR hs hq (I 30 6)) rfl (by assumption) rfl rfl rfl rfl ?_
  refine e_ist2 rfl rfl rfl ?_
  refine e_aload_n rfl rfl ?_
  refine e_getP rfl f2_21 (by assumption) rfl (by assumption) ?_
  refine e_getI rfl f2_48 (by assumption) rfl ?_
  refine e_bipush (v := nI 22) rfl bp_22N ?_
  refine e_icmp_eq (tgt := 32) rfl rfl (fun z => ?_) (fun z => ?_)
  · refine e_iload_n rfl rfl ?_
    refine e_iconst rfl ic_m1 ?_
    refine e_icmp_ne (tgt := 42) rfl rfl (fun y => ?_) (fun y => ?_)
    · refine e_aload_n rfl rfl ?_
      refine e_getP rfl f2_21 (by assumption) rfl (by assumption) ?_
      refine e_callV (kd := 5) (M2 := m5_advance) rfl v2_45 ok5_advance (c5_adv hK hz) rfl (by assumption) rfl rfl rfl rfl (fun r1 h1 q1 => ?_)
      obtain ⟨rfl, I1, rfl, g1, L1⟩ := q1
      refine e_iload_n rfl rfl ?_
      refine e_iconst (v := nI 0) rfl ic_0N ?_
      refine e_max rfl v2_128 rfl ?_
      refine e_ireturn rfl rfl ?_
      refine ⟨rfl, I1, rfl, g1, ?_⟩
      rw [bnd_if (h := avS f n) (fun s e => by subst e; rw [tnS, if_pos (hz.tk.symm.trans z), if_neg (by rw [← hj s rfl, ← hz.va]; exact y)])]
      exact L1
    · refine e_aload_n rfl rfl ?_
      refine e_iconst (v := nI 4) rfl ic_4N ?_
      refine e_callV (kd := 2) (M2 := m2_fail) rfl v2_59 ok2_fail (c2_fail hK hz (by omega) (by omega)) rfl (by assumption) rfl rfl rfl rfl (fun r1 h1 q1 => ?_)
      obtain ⟨rfl, I1, rfl, g1, L1⟩ := q1
      refine e_aload_n rfl rfl ?_
      refine e_getP rfl f2_21 (by assumption) rfl (by assumption) ?_
      refine e_callV (kd := 5) (M2 := m5_advance) rfl v2_45 ok5_advance (c5_adv hK L1) rfl (by assumption) rfl rfl rfl rfl (fun r1 h1 q1 => ?_)
      obtain ⟨rfl, I2, rfl, g2, L2⟩ := q1
      refine e_iload_n rfl rfl ?_
      refine e_iconst (v := nI 0) rfl ic_0N ?_
      refine e_max rfl v2_128 rfl ?_
      refine e_ireturn rfl rfl ?_
      refine ⟨rfl, I2, rfl, g1.tr g2, ?_⟩
      rw [bnd_if (h := flS 4) (fun s e => by subst e; rw [tnS, if_pos (hz.tk.symm.trans z), if_pos (by rw [← hj s rfl, ← hz.va]; exact y)])]
      rw [fl_av] at L2
      exact L2
  · refine e_aload_n rfl rfl ?_
    refine e_iconst (v := nI 1) rfl ic_1N ?_
    refine e_callV (kd := 2) (M2 := m2_fail) rfl v2_59 ok2_fail (c2_fail hK hz (by omega) (by omega)) rfl (by assumption) rfl rfl rfl rfl (fun r1 h1 q1 => ?_)
    obtain ⟨rfl, I1, rfl, g1, L1⟩ := q1
    refine e_goto (tgt := 42) rfl rfl ?_
    refine e_aload_n rfl rfl ?_
    refine e_getP rfl f2_21 (by assumption) rfl (by assumption) ?_
    refine e_callV (kd := 5) (M2 := m5_advance) rfl v2_45 ok5_advance (c5_adv hK L1) rfl (by assumption) rfl rfl rfl rfl (fun r1 h1 q1 => ?_)
    obtain ⟨rfl, I2, rfl, g2, L2⟩ := q1
    refine e_iload_n rfl rfl ?_
    refine e_iconst (v := nI 0) rfl ic_0N ?_
    refine e_max rfl v2_128 rfl ?_
    refine e_ireturn rfl rfl ?_
    refine ⟨rfl, I2, rfl, g1.tr g2, ?_⟩
    rw [bnd_if (h := flS 1) (fun s e => by subst e; rw [tnS, if_neg (fun q => z (hz.tk.trans q))])]
    rw [fl_av] at L2
    exact L2
end MParse
