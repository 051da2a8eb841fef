/-! ===== read, text ===== -/
/-- the scanner's tape is the class's -/
def Ks (K : Kt) : Kt := (u2 K.1 30 1 (some 1), K.2)
section KsCg
variable {K K' : Kt}
theorem isRows.cg {a w m : Nat} (h : isRows K a w m) (h1 : ∀ c, c ≠ 30 → K'.1 c = K.1 c) (h2 : K'.2 = K.2) (n1 : a ≠ 30) (n2 : a + 1 ≠ 30) : isRows K' a w m := by
  unfold isRows
  rw [h2, h1 a n1, h1 (a + 1) n2]
  exact h
theorem isPlan.cg {p : Nat} (h : isPlan K p) (h1 : ∀ c, c ≠ 30 → K'.1 c = K.1 c) (h2 : K'.2 = K.2) (n1 : p + 23 ≤ 30 ∨ 30 < p) : isPlan K' p := by
  obtain ⟨a0, a1, a2, a3, a4, a5, r1, r2, r3, r4, r5⟩ := h
  refine ⟨by rw [h2]; exact a0, by rw [h1 p (by omega)]; exact a1, by rw [h1 p (by omega)]; exact a2, by rw [h1 p (by omega)]; exact a3, by rw [h1 p (by omega)]; exact a4, by rw [h1 p (by omega)]; exact a5, r1.cg h1 h2 (by omega) (by omega), r2.cg h1 h2 (by omega) (by omega), r3.cg h1 h2 (by omega) (by omega), r4.cg h1 h2 (by omega) (by omega), ?_⟩
  unfold isLaws
  rw [h2, h1 (p + 22) (by omega)]
  exact r5
theorem isState.cg {s : Nat} (h : isState K s) (h1 : ∀ c, c ≠ 30 → K'.1 c = K.1 c) (h2 : K'.2 = K.2) (n1 : s ≠ 30) : isState K' s := by
  unfold isState
  rw [h2, h1 s n1]
  exact h
theorem GK.cg (h : GK K) (h1 : ∀ c, c ≠ 30 → K'.1 c = K.1 c) (h2 : K'.2 = K.2) (h3 : K'.1 30 0 = K.1 30 0) : GK K' := by
  obtain ⟨a, b, c, p3, p33, dd, s1, s2, s3, tt, st⟩ := h
  refine ⟨?_, ?_, ?_, p3.cg h1 h2 (by omega), p33.cg h1 h2 (by omega), ?_, s1.cg h1 h2 (by omega), s2.cg h1 h2 (by omega), s3.cg h1 h2 (by omega), ⟨?_, ?_, tt.2.2.cg h1 h2 (by omega) (by omega)⟩, ⟨?_, ?_, st.2.2.cg h1 h2 (by omega) (by omega)⟩⟩
  · rw [h2, h1 0 (by omega)]; exact a
  · rw [h2, h1 2 (by omega)]; exact b
  · unfold isScan; rw [h2, h3]; exact c
  · unfold isDays; rw [h2, h1 60 (by omega)]; exact dd
  · rw [h2]; exact tt.1
  · rw [h1 86 (by omega)]; exact tt.2.1
  · rw [h2]; exact st.1
  · rw [h1 93 (by omega)]; exact st.2.1
end KsCg
theorem GK.ks {K : Kt} (h : GK K) : GK (Ks K) := h.cg (fun c hc => u2_row _ _ hc) rfl (show u2 K.1 30 1 (some 1) 30 0 = _ from u2_nk _ _ (by omega))
theorem GK.pk {K : Kt} (h : GK K) : PK (Ks K) := by
  have g := h.ks
  obtain ⟨a, ⟨b1, b2, b3, b4, -⟩, ⟨c1, c2, c3⟩, p3, -⟩ := g
  exact ⟨b2, b3, b4, p3, c1, c2, c3, (show u2 K.1 30 1 (some 1) 30 1 = _ from u2_at _ _ _ _), b1⟩
theorem nI_all (x : Int32) : ∃ k, x = nI k := ⟨x.toBitVec.toNat, by
  rw [← Int32.toBitVec_inj]
  show x.toBitVec = BitVec.ofNat 32 x.toBitVec.toNat
  rw [BitVec.ofNat_toNat]
  simp⟩
theorem ps0_LI {f : Nat → Nat} {n : Nat} (hf : ∀ j, f j < 256) (g : Nat → Nat → Int32) (va : Int32) : LI n (ps0 f n g va) ∧ (pTk (ps0 f n g va) = nI 0 ∨ n < pAt (ps0 f n g va) + n) := by
  have h := advA_at (va := va) (Nat.zero_le n) hf
  refine ⟨⟨⟨h.2.1, Nat.zero_le _, Nat.le_refl _⟩, ⟨advA_tk hf, advA_tv hf⟩, ?_, ⟨fun w hw hb => ?_, Nat.zero_le _⟩, rfl⟩, ?_⟩
  · refine ⟨⟨Nat.zero_le _, Nat.zero_le _, Nat.zero_le _, Nat.zero_le _⟩, fun i hi => absurd hi (Nat.not_lt_zero i), fun i hi => absurd hi (Nat.not_lt_zero i), fun i hi => absurd hi (Nat.not_lt_zero i), fun i hi => absurd hi (Nat.not_lt_zero i), ⟨20, by omega, rfl⟩, ⟨0, by omega, rfl⟩, ⟨0, by omega, rfl⟩⟩
  · have : bitOf (nI 0) (nI w) = true := hb
    rw [bit_0 (by omega)] at this
    exact absurd this (by decide)
  · by_cases c : pTk (ps0 f n g va) = nI 0
    · exact Or.inl c
    · have : 0 < (advA f n 0 va).1 := h.2.2 c
      exact Or.inr (by show n < (advA f n 0 va).1 + n; omega)
theorem WF_wfP {P : Pl} (h : WFk P) (g : WFl P) : wfP P := by
  obtain ⟨a, k, t, o, w, m1, m2, m3⟩ := h
  refine ⟨fun x hx => (t x hx).1, fun x hx => (o x hx).1, fun x hx => (w x hx).1, fun x hx hb => ?_, fun x hx => (o x hx).2.2, fun x hx => (w x hx).2.2.2, m2⟩
  obtain ⟨p, q, q1, q2, q3, q4, -⟩ := g.1 x hx hb
  have := g.2
  exact ⟨p, q, q1, q2, q3, by omega⟩
theorem WF_wfQ {P : Pl} (h : WFk P) : wfQ P := by
  obtain ⟨⟨a1, a2, a3, a4⟩, k, t, o, w, m⟩ := h
  refine ⟨a1, a2, a3, a4, fun x hx => ?_⟩
  obtain ⟨j, -, j2, j3⟩ := (w x hx).2.2.1
  exact ⟨j, j2, j3⟩
/-- what a TEXT of n bytes tells -/
def txR (f : Nat → Nat) (n : Nat) (g : Nat → Nat → Int32) (va : Int32) : PR := rdS f n n (ps0 f n g va)
theorem tx_LI {f : Nat → Nat} {n : Nat} (hf : ∀ j, f j < 256) {g : Nat → Nat → Int32} {va : Int32} {s : PSt} (h : txR f n g va = .inr s) : LI n s ∧ pTk s = nI 0 := by
  obtain ⟨a, b⟩ := ps0_LI hf (n := n) g va
  obtain ⟨c, e⟩ := rd_LI hf n _ s a b h
  exact ⟨c, e.elim id (fun q => absurd c.1.1 (by omega))⟩
section MText2
variable {l : Launch} {G : GG} {d : Nat} {I : IM} {J : JM} {K : Kt} {Q : Option Value → Hp → Prop} {f : Nat → Nat} {n t : Nat} {P : Pl} {S : SM} {im : Bool} {SI : SM} {m : Nat} {T : SM} {kn : Int32} {u : Nat} {Hs : Nat → SM} {B : Nat}
theorem c5_start (hG : GK K) (hn : n ≤ 700) : Cw l G (d + 1) m5_start [.ref 30, .ref 1, .int (nI n)] (I, J, K) (fun r h' => r = none ∧ h' = (u2 (u2 (u2 I 30 2 (nI n)) 30 3 (nI 0)) 30 4 (nI 0), J, Ks K)) := by
  obtain ⟨-, ⟨b1, -⟩, ⟨c1, c2, c3⟩, -⟩ := hG
  refine Cw.of ok5_start rfl (rfl : argL _ _ = [.ref 30, .ref 1, .int (nI n)]) ?_
  refine e_aload_n rfl rfl ?_
  refine e_aload_n rfl rfl ?_
  refine e_putP rfl f5_15 (by assumption) rfl rfl ?_
  refine e_aload_n rfl rfl ?_
  refine e_iload_n rfl rfl ?_
  refine e_aload_n rfl rfl ?_
  refine e_alen (v := nI _) rfl (by assumption) rfl rfl rfl ?_
  refine e_min rfl v5_27 rfl ?_
  rw [if_neg (fun q => absurd ((nI_ltI (by omega) (by omega)).mp q) (by omega))]
  refine e_putI rfl f5_33 (by assumption) rfl rfl ?_
  refine e_aload_n rfl rfl ?_
  refine e_iconst (v := nI 0) rfl ic_0N ?_
  refine e_putI rfl f5_37 (by assumption) rfl rfl ?_
  refine e_aload_n rfl rfl ?_
  refine e_iconst (v := nI 0) rfl ic_0N ?_
  refine e_putI rfl f5_40 (by assumption) rfl rfl ?_
  refine e_return rfl rfl ?_
  exact ⟨rfl, rfl⟩
theorem c2_readA (hG : GK K) (hn : n ≤ 700) {f0 : Nat → Nat} {fk : Nat} {fp : Int32} (hT : TP I t f0 fk fp) (h4 : ∀ j, f j < 256) (h3 : ∀ j, j < n → I 1 j = sg (f j)) : Cw l G (d + 83) m2_read [.ref 2, .ref 1, .int (nI n)] (I, J, K) (fun r h' => r = none ∧ ∃ I', h' = (I', J, Ks K) ∧ FP I I' ∧ ∃ g va, Lz I' f n (txR f n g va)) := by
  have hG2 := hG
  obtain ⟨-, ⟨b1, b2, b3, b4, -⟩, ⟨c1, c2, c3⟩, p3, -⟩ := hG2
  have p31 := p3.1
  obtain ⟨-, -, -, -, h5, hm, h7, h8⟩ := hT
  have hP := hG.pk
  refine Cw.of ok2_read rfl (rfl : argL _ _ = [.ref 2, .ref 1, .int (nI n), .null]) ?_
  refine e_aload_n rfl rfl ?_
  refine e_getP rfl f2_12 (by assumption) rfl (by assumption) ?_
  refine e_callV (kd := 3) (M2 := m3_clear) rfl v2_29 ok3_clear (c3_clear (d := d + 81) p3 hm) rfl (by assumption) rfl rfl rfl rfl (fun r1 h1 q1 => ?_)
  obtain ⟨rfl, I1, rfl, f1, R1⟩ := q1
  refine e_aload_n rfl rfl ?_
  refine e_iconst (v := nI 0) rfl ic_0N ?_
  refine e_putI rfl f2_32 (by assumption) rfl rfl ?_
  refine e_aload_n rfl rfl ?_
  refine e_iconst (v := nI 0) rfl ic_0N ?_
  refine e_putI rfl f2_35 (by assumption) rfl rfl ?_
  refine e_aload_n rfl rfl ?_
  refine e_iconst rfl ic_m1 ?_
  refine e_putI rfl f2_25 (by assumption) rfl rfl ?_
  refine e_aload_n rfl rfl ?_
  refine e_iconst (v := nI 0) rfl ic_0N ?_
  refine e_putI rfl f2_38 (by assumption) rfl rfl ?_
  refine e_aload_n rfl rfl ?_
  refine e_getP rfl f2_21 (by assumption) rfl (by assumption) ?_
  refine e_aload_n rfl rfl ?_
  refine e_iload_n rfl rfl ?_
  refine e_callV (kd := 5) (M2 := m5_start) rfl v2_41 ok5_start (c5_start (d := d + 81) hG (by omega)) rfl (by assumption) rfl rfl rfl rfl (fun r1 h1 q1 => ?_)
  obtain ⟨rfl, rfl⟩ := q1
  obtain ⟨pl, epl⟩ := nI_all (I1 30 5)
  have fr : ∀ c, c ≠ 2 → c ≠ 30 → (u2 (u2 (u2 (u2 (u2 (u2 (u2 I1 2 2 (nI 0)) 2 3 (nI 0)) 2 4 (-1)) 2 5 (nI 0)) 30 2 (nI n)) 30 3 (nI 0)) 30 4 (nI 0)) c = I1 c := fun c a b => by
    rw [u2_row _ _ b, u2_row _ _ b, u2_row _ _ b, u2_row _ _ a, u2_row _ _ a, u2_row _ _ a, u2_row _ _ a]
  have L0 : Lz (u2 (u2 (u2 (u2 (u2 (u2 (u2 I1 2 2 (nI 0)) 2 3 (nI 0)) 2 4 (-1)) 2 5 (nI 0)) 30 2 (nI n)) 30 3 (nI 0)) 30 4 (nI 0)) f n (.inr ((0, nI 0, I1 30 6, pl), P0 (fun k i => I (3 + 10 + k) i), fun _ => false, 0)) := by
    refine ⟨?_, ?_, ⟨fun j hj => ?_, ?_, ?_, ?_, ?_, ?_, by omega, Nat.zero_le _, h4, fun k hk => ?_⟩, R1.frame (fun c a b => fr c (by omega) (by omega)), ⟨Nat.zero_le _, Nat.zero_le _, Nat.le_refl _⟩, fun j hj => ?_, ?_⟩
    · simp (disch := omega) only [u2_ne, u2_nk, u2_at]
    · simp (disch := omega) only [u2_ne, u2_nk, u2_at]
    · rw [fr 1 (by omega) (by omega), f1 1 (by omega)]; exact h3 j (by omega)
    · simp (disch := omega) only [u2_ne, u2_nk, u2_at]
    · simp (disch := omega) only [u2_ne, u2_nk, u2_at]; rfl
    · simp (disch := omega) only [u2_ne, u2_nk, u2_at]; rfl
    · simp (disch := omega) only [u2_ne, u2_nk, u2_at]; exact epl
    · simp (disch := omega) only [u2_ne, u2_nk, u2_at]; rfl
    · rw [fr 31 (by omega) (by omega), f1 31 (by omega)]; exact h5 k hk
    · simp (disch := omega) only [u2_ne, u2_nk, u2_at]
      exact bit_0 hj
    · simp (disch := omega) only [u2_ne, u2_nk, u2_at]
  refine e_aload_n rfl rfl ?_
  refine e_getP rfl f2_21 (by assumption) rfl (by assumption) ?_
  refine e_callV (kd := 5) (M2 := m5_advance) rfl v2_45 ok5_advance (c5_adv (d := d + 77) hP L0) rfl (by assumption) rfl rfl rfl rfl (fun r1 h1 q1 => ?_)
  obtain ⟨rfl, I2, rfl, g2, L2⟩ := q1
  refine e_iconst (v := nI 0) rfl ic_0N ?_
  refine e_ist3 rfl rfl rfl ?_
  have L2 : Lz I2 f n (.inr (ps0 f n (fun k i => I (3 + 10 + k) i) (I1 30 6))) := by
    have e : bnd (.inr ((0, nI 0, I1 30 6, pl), P0 (fun k i => I (3 + 10 + k) i), fun _ => false, 0)) (avS f n) = .inr (ps0 f n (fun k i => I (3 + 10 + k) i) (I1 30 6)) := by
      show avS f n _ = _
      unfold avS
      rw [if_neg (by show ¬ nI 0 = -1; decide)]
      rfl
    rw [e] at L2
    exact L2
  refine read_loop (d := d + 1) hP n 0 I2 _ (by omega) L2 (fun I3 g3 L3 => ⟨rfl, I3, rfl, fun c hc => ?_, _, _, L3⟩)
  rw [g3 c hc, g2 c hc, fr c (by omega) (by omega), f1 c (by omega)]
/-- what text does -/
def txQ (I : IM) (J : JM) (K : Kt) (f : Nat → Nat) (t : Nat) (fk : Nat) (fp : Int32) (P : Pl) (S : SM) (im : Bool) (SI : SM) (m : Nat) (T : SM) (kn : Int32) (u : Nat) (Hs : Nat → SM) (B : Nat) (x : Int32) (r : Option Value) (h' : Hp) : Prop :=
  ∃ I' J' K', h' = (I', J', K') ∧ GK K' ∧ K'.2 = K.2 ∧ (∀ c, c ≠ 30 → K'.1 c = K.1 c) ∧ (∀ c, 101 < c → I' c = I c ∧ J' c = J c) ∧
    (if 0 ≤ x ∧ x ≤ nI t then ∃ g va, (match txR f x.toNatClampNeg g va with
      | .inl e => r = some (.int (-1)) ∧ CI I' J' P S im SI m T kn u Hs B ∧ TP I' 0 f e.1 (nI e.2)
      | .inr s => r = some (.int (nI s.2.2.2)) ∧ CI I' J' (pP s) (beg (pP s)) false SI 0 T (-1) 0 Hs 8 ∧ TP I' 0 f 0 (-1))
    else r = some (.int (-2)) ∧ CI I' J' P S im SI m T kn u Hs B ∧ TP I' t f fk fp)
theorem Lz.tp {I' : IM} {zz : PR} {fk : Nat} {fp : Int32} (L : Lz I' f n zz) (h31 : I' 31 = I 31) (e1 : I' 0 1 = nI 0) (hT : TP I t f fk fp) {fk' : Nat} {fp' : Int32} (a : I' 2 3 = nI fk') (b : I' 2 4 = fp') : TP I' 0 f fk' fp' :=
  ⟨e1, by omega, fun j hj => absurd hj (by omega), hT.2.2.2.1, fun k hk => by rw [h31]; exact hT.2.2.2.2.1 k hk, L.rpm, a, b⟩
theorem c9_text (hG : GK K) {fk : Nat} {fp : Int32} (hI : CI I J P S im SI m T kn u Hs B) (hT : TP I t f fk fp) (x : Int32) : Cw l G (d + 84) m9_text [.ref 0, .int x] (I, J, K) (txQ I J K f t fk fp P S im SI m T kn u Hs B x) := by
  have hG2 := hG
  obtain ⟨⟨k9, t0, t2, t3, t4, t5, t6, t7, t9, t10, t11, t12⟩, ⟨b1, b2, b3, b4, -⟩, ⟨c1, c2, c3⟩, p3, p33, -⟩ := hG2
  have hT2 := hT
  obtain ⟨h1, h2, h3, h4, h5, hm, h7, h8⟩ := hT2
  have bad : ¬ (0 ≤ x ∧ x ≤ nI t) → Gw l G (d + 84) m9_text 12 [.ref 0, .int x] [] (I, J, K) (txQ I J K f t fk fp P S im SI m T kn u Hs B x) := by
    intro hb
    refine e_bipush rfl bp_m2 ?_
    refine e_ireturn rfl rfl ?_
    refine ⟨I, J, K, rfl, hG, rfl, fun _ _ => rfl, fun _ _ => ⟨rfl, rfl⟩, ?_⟩
    rw [if_neg hb]
    exact ⟨rfl, hI, hT⟩
  refine Cw.of ok9_text rfl (rfl : argL _ _ = [.ref 0, .int x]) ?_
  refine e_iload_n rfl rfl ?_
  refine e_if_lt (tgt := 12) rfl rfl (fun z => ?_) (fun z => ?_)
  · exact bad (fun q => absurd z (Int32.not_lt.mpr q.1))
  · refine e_iload_n rfl rfl ?_
    refine e_aload_n rfl rfl ?_
    refine e_getI rfl f9_75 (by assumption) rfl ?_
    rw [h1]
    refine e_icmp_le (tgt := 15) rfl rfl (fun y => ?_) (fun y => ?_)
    · obtain ⟨n, hn, rfl⟩ := nI_of z
      have hnt := (nI_leI hn (by omega)).mp y
      have fin : ∀ I' J' r, (∀ c, 101 < c → I' c = I c ∧ J' c = J c) → (∃ g va, (match txR f n g va with
        | .inl e => r = some (.int (-1)) ∧ CI I' J' P S im SI m T kn u Hs B ∧ TP I' 0 f e.1 (nI e.2)
        | .inr s => r = some (.int (nI s.2.2.2)) ∧ CI I' J' (pP s) (beg (pP s)) false SI 0 T (-1) 0 Hs 8 ∧ TP I' 0 f 0 (-1))) → txQ I J K f t fk fp P S im SI m T kn u Hs B (nI n) r (I', J', Ks K) := by
        intro I' J' r h1 h2
        refine ⟨I', J', Ks K, rfl, hG.ks, rfl, fun c hc => u2_row _ _ hc, h1, ?_⟩
        rw [if_pos ⟨Int32.not_lt.mp z, y⟩, nI_clamp hn]
        exact h2
      refine e_aload_n rfl rfl ?_
      refine e_iconst (v := nI 0) rfl ic_0N ?_
      refine e_putI rfl f9_75 (by assumption) rfl rfl ?_
      refine e_aload_n rfl rfl ?_
      refine e_getP rfl f9_18 (by assumption) rfl (by assumption) ?_
      refine e_aload_n rfl rfl ?_
      refine e_getP rfl f9_11 (by assumption) rfl (by assumption) ?_
      refine e_iload_n rfl rfl ?_
      have hT0 : TP (u2 I 0 1 (nI 0)) 0 (fun _ => 0) fk fp := ⟨u2_at _ _ _ _, by omega, fun j hj => absurd hj (by omega), fun _ => (by decide : 0 < 256), fun k hk => by rw [u2_row _ _ (by omega)]; exact h5 k hk, ⟨by rw [u2_row _ _ (by omega)]; exact hm.1, by rw [u2_row _ _ (by omega)]; exact hm.2.1, by rw [u2_row _ _ (by omega)]; exact hm.2.2.1, by rw [u2_row _ _ (by omega)]; exact hm.2.2.2⟩, by rw [u2_row _ _ (by omega)]; exact h7, by rw [u2_row _ _ (by omega)]; exact h8⟩
      refine e_callV (kd := 2) (M2 := m2_read) rfl v9_83 ok2_read (c2_readA (d := d) hG (n := n) (f := f) (by omega) hT0 h4 (fun j hj => by rw [u2_row _ _ (by omega)]; exact h3 j (by omega))) rfl (by assumption) rfl rfl rfl rfl (fun r1 h1 q1 => ?_)
      obtain ⟨rfl, I1, rfl, g1, g, va, L1⟩ := q1
      refine e_aload_n rfl rfl ?_
      refine e_getP rfl f9_18 (by assumption) rfl (by assumption) ?_
      have kg := hG.ks
      obtain ⟨⟨k9, t0, t2, t3, t4, t5, t6, t7, t9, t10, t11, t12⟩, ⟨b1, b2, b3, b4, -⟩, ⟨c1, c2, c3⟩, p3, p33, dd, s1, s2, s3, tt, st⟩ := kg
      have fr : ∀ c, 30 < c → I1 c = I c := fun c hc => by rw [g1 c (by omega), u2_row _ _ (by omega)]
      have e01 : I1 0 1 = nI 0 := by rw [g1 0 (by omega), u2_at]
      have e0k : ∀ k, k ≠ 1 → I1 0 k = I 0 k := fun k hk => by rw [g1 0 (by omega), u2_nk _ _ hk]
      cases ez : txR f n g va with
      | inl e =>
        rw [ez] at L1
        refine e_getI rfl f9_87 (by assumption) rfl ?_
        rw [L1.2.2.1]
        have q1 := L1.1
        have q2 := L1.2.1
        first | refine e_if_eqB (tgt := 44) rfl rfl (fun z => ?_) (fun z => ?_) | refine e_if_eqN (tgt := 44) rfl rfl (by omega) (fun z => ?_) (fun z => ?_) | refine e_if_eq (tgt := 44) rfl rfl (fun z => ?_) (fun z => ?_)
        · exact absurd (by assumption) q1
        · refine e_iconst rfl ic_m1 ?_
          refine e_ireturn rfl rfl ?_
          refine fin I1 J _ (fun c hc => ⟨fr c (by omega), rfl⟩) ⟨g, va, ?_⟩
          rw [ez]
          exact ⟨rfl, hI.fr0 (fun c hc => fr c (by omega)) (e0k 8 (by omega)), L1.tp (fr 31 (by omega)) e01 hT L1.2.2.1 L1.2.2.2.1⟩
      | inr s =>
        rw [ez] at L1
        have hLI := (tx_LI h4 ez).1
        refine e_getI rfl f9_87 (by assumption) rfl ?_
        rw [L1.1]
        first | refine e_if_eqB (tgt := 44) rfl rfl (fun z => ?_) (fun z => ?_) | refine e_if_eqN (tgt := 44) rfl rfl (by omega) (fun z => ?_) (fun z => ?_) | refine e_if_eq (tgt := 44) rfl rfl (fun z => ?_) (fun z => ?_)
        · have hP := hI.1
          have w1 := p33.1
          have w2 := s1.1
          have w3 := tt.1
          have w4 := st.1
          refine e_aload_n rfl rfl ?_
          refine e_getP rfl f9_25 (by assumption) rfl (by assumption) ?_
          refine e_aload_n rfl rfl ?_
          refine e_getP rfl f9_18 (by assumption) rfl (by assumption) ?_
          refine e_getP rfl f9_90 (by assumption) rfl (by assumption) ?_
          refine e_callV (kd := 3) (M2 := m3_take) rfl v9_91 ok3_take (c3_take (d := d + 81) p33 p3 (by omega) (by have := hP.1; unfold RPm at this ⊢; rw [fr _ (by omega), fr _ (by omega), fr _ (by omega), fr _ (by omega)]; exact this) L1.2.2.2.1) rfl (by assumption) rfl rfl rfl rfl (fun r1 h1 q1 => ?_)
          obtain ⟨rfl, I2, rfl, g2, R2⟩ := q1
          refine e_aload_n rfl rfl ?_
          refine e_getP rfl f9_41 (by assumption) rfl (by assumption) ?_
          refine e_aload_n rfl rfl ?_
          refine e_getP rfl f9_25 (by assumption) rfl (by assumption) ?_
          refine e_callV (kd := 6) (M2 := m6_begin) rfl v9_72 ok6_begin (c6_begin (d := d + 81) s1 p33 (by omega) R2) rfl (by assumption) rfl rfl rfl rfl (fun r1 h1 q1 => ?_)
          obtain ⟨rfl, I3, J3, rfl, g3, j3, C3, H3⟩ := q1
          refine e_aload_n rfl rfl ?_
          refine e_getP rfl f9_54 (by assumption) rfl (by assumption) ?_
          refine e_callV (kd := 8) (M2 := m8_clear) rfl v9_94 ok8_clear (c8_clear tt) rfl (by assumption) rfl rfl rfl rfl (fun r1 h1 q1 => ?_)
          obtain ⟨rfl, rfl⟩ := q1
          refine e_aload_n rfl rfl ?_
          refine e_getP rfl f9_61 (by assumption) rfl (by assumption) ?_
          refine e_callV (kd := 7) (M2 := m7_clear) rfl v9_97 ok7_clear (c7_clear st) rfl (by assumption) rfl rfl rfl rfl (fun r1 h1 q1 => ?_)
          obtain ⟨rfl, rfl⟩ := q1
          refine e_aload_n rfl rfl ?_
          refine e_iconst (v := nI 0) rfl ic_0N ?_
          refine e_putZ rfl f9_98 (by assumption) rfl rfl (by first | decide | assumption) ?_
          refine e_aload_n rfl rfl ?_
          refine e_getP rfl f9_18 (by assumption) rfl (by assumption) ?_
          refine e_getI rfl f9_102 (by assumption) rfl ?_
          have fr2 : ∀ c, c ≠ 0 → c ≠ 86 → c ≠ 87 → c ≠ 94 → (u2 (u2 (u2 (u2 I3 (86 + 1) 2 (nI 0)) 86 1 (-1)) (93 + 1) 2 (nI 0)) 0 8 (nI 0)) c = I3 c := fun c a b e g => by
            rw [u2_row _ _ a, u2_row _ _ g, u2_row _ _ b, u2_row _ _ e]
          have e5 : I3 2 5 = nI s.2.2.2 := by rw [g3 2 (by omega), g2 2 (by omega)]; exact L1.2.2.2.2.2.2
          rw [fr2 2 (by omega) (by omega) (by omega) (by omega), e5]
          refine e_ireturn rfl rfl ?_
          have fr3 : ∀ c, (c < 33 ∨ 69 < c) → I3 c = I1 c := fun c hc => by rw [g3 c (by omega), g2 c (by omega)]
          have RT0 := hI.2.2.2.2.2.2.1
          obtain ⟨U, RU0, -⟩ := hI.2.2.2.2.2.2.2
          refine fin _ J3 _ (fun c hc => ⟨by rw [fr2 c (by omega) (by omega) (by omega) (by omega), fr3 c (by omega), fr c (by omega)], j3 c (by omega)⟩) ⟨g, va, ?_⟩
          rw [ez]
          refine ⟨rfl, ⟨?_, WF_wfP hLI.2.2.1 hLI.2.2.2.1, ?_, ?_, ?_, fun q => absurd q (by decide), ?_, U, ?_, trivial⟩, ?_⟩
          · exact (R2.frame (fun c a b => g3 c (by omega))).frame (fun c a b => fr2 c (by omega) (by omega) (by omega) (by omega))
          · exact C3.frame (fun c a b => fr2 c (by omega) (by omega) (by omega) (by omega)) rfl
          · exact H3.frame (fr2 _ (by omega) (by omega) (by omega) (by omega)) (fr2 _ (by omega) (by omega) (by omega) (by omega))
          · rw [u2_at]; rfl
          · refine ⟨?_, ?_, by omega, fun j hj i hi => absurd hi (by omega), ?_⟩
            · simp (disch := omega) only [u2_ne, u2_nk, u2_at]
              rw [fr3 _ (by omega), fr _ (by omega)]; exact RT0.1
            · simp (disch := omega) only [u2_ne, u2_nk, u2_at]
            · simp (disch := omega) only [u2_ne, u2_nk, u2_at]
          · refine ⟨?_, ?_, by omega, fun j hj i hi => absurd hi (by omega)⟩
            · simp (disch := omega) only [u2_ne, u2_nk, u2_at]
              rw [fr3 _ (by omega), fr _ (by omega)]; exact RU0.1
            · simp (disch := omega) only [u2_ne, u2_nk, u2_at]
          · have hr := L1.rpm
            refine ⟨?_, by omega, fun j hj => absurd hj (by omega), h4, fun k hk => ?_, ⟨?_, ?_, ?_, ?_⟩, ?_, ?_⟩
            · rw [u2_nk _ _ (by omega), u2_row _ _ (by omega), u2_row _ _ (by omega), u2_row _ _ (by omega), fr3 0 (by omega)]; exact e01
            · rw [fr2 31 (by omega) (by omega) (by omega) (by omega), fr3 31 (by omega), fr 31 (by omega)]; exact h5 k hk
            · rw [fr2 _ (by omega) (by omega) (by omega) (by omega), fr3 _ (by omega)]; exact hr.1
            · rw [fr2 _ (by omega) (by omega) (by omega) (by omega), fr3 _ (by omega)]; exact hr.2.1
            · rw [fr2 _ (by omega) (by omega) (by omega) (by omega), fr3 _ (by omega)]; exact hr.2.2.1
            · rw [fr2 _ (by omega) (by omega) (by omega) (by omega), fr3 _ (by omega)]; exact hr.2.2.2
            · rw [fr2 2 (by omega) (by omega) (by omega) (by omega), fr3 2 (by omega)]; exact L1.1
            · rw [fr2 2 (by omega) (by omega) (by omega) (by omega), fr3 2 (by omega)]; exact L1.2.1
        · omega
    · exact bad (fun q => absurd q.2 y)
end MText2
