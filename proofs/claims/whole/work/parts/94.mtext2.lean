/-! ===== the reference: text ===== -/
def mtxQ (I : IM) (J : JM) (K : Kt) (f : Nat → Nat) (t : Nat) (fk : Nat) (fp : Int32) (P : Pl) (S : SM) (im : Bool) (SI : SM) (m : Nat) (T : SM) (kn : Int32) (u : Nat) (Hs : Nat → SM) (B : Nat) (x : Int32) (g : Nat → Nat → Int32) (va : Int32) (r : Option Value) (h' : Hp) : Prop :=
  ∃ I', h' = (I', J, K) ∧ (∀ c, (c < 102 ∨ 144 < c) → I' c = I c) ∧
    (if 0 ≤ x ∧ x ≤ nI t then (match txR f x.toNatClampNeg g va with
      | .inl e => r = some (.int (-1)) ∧ MI I' P S im SI m T kn u Hs (B + 2) ∧ TQ I' 0 f e.1 (nI e.2)
      | .inr s => r = some (.int (nI s.2.2.2)) ∧ MI I' (pP s) (beg (pP s)) false SI 0 T (-1) 0 Hs 8 ∧ TQ I' 0 f 0 (-1))
    else r = some (.int (-2)) ∧ MI I' P S im SI m T kn u Hs (B + 2) ∧ TQ I' t f fk fp)
section MText4
variable {l : Launch} {G : GG} {d : Nat} {I : IM} {J : JM} {K : Kt} {Q : Option Value → Hp → Prop} {f : Nat → Nat} {n t : Nat} {P : Pl} {S : SM} {im : Bool} {SI : SM} {m : Nat} {T : SM} {kn : Int32} {u : Nat} {Hs : Nat → SM} {B : Nat}
/-- the first state of a TEXT -/
theorem Mz.first {I0 I1 : IM} {g : Nat → Nat → Int32} {va : Int32} (h256 : ∀ j, f j < 256) (hk : TKp I0 I1 (advA f n 0 va)) (e28 : I0 102 28 = nI 0) (e29 : I0 102 29 = -1) (e21 : I0 102 21 = nI 0) (e22 : I0 102 22 = nI 0) (e32 : I0 102 32 = nI 0) (e33 : I0 102 33 = nI 0) (z1 : ∀ x, x < 8 → I0 104 (8 + x) = if x = 4 then nI 20 else nI 0) (z2 : ∀ x, x < 3 → I0 118 (3 + x) = nI 0 ∧ I0 119 (3 + x) = nI 0) : Mz I1 n (.inr (ps0 f n g va)) := by
  obtain ⟨k1, k2, k3, k4⟩ := hk
  have z3 : ∀ x, x < 8 → upF I1 104 x = if x = 4 then nI 20 else nI 0 := fun x hx => (k1 104 (8 + x) (by omega)).trans (z1 x hx)
  refine ⟨⟨by rw [k1 102 28 (by omega)]; exact e28, k2, (advA_at (Nat.zero_le n) h256).2.1, k3, k4, by rw [k1 102 29 (by omega)]; exact e29⟩, ⟨⟨z3 0 (by omega), z3 1 (by omega), z3 2 (by omega), z3 3 (by omega), z3 4 (by omega), z3 5 (by omega), z3 6 (by omega), z3 7 (by omega)⟩, fun i hi => absurd hi (Nat.not_lt_zero i), fun i hi => absurd hi (Nat.not_lt_zero i), fun i hi => absurd hi (Nat.not_lt_zero i), fun i hi => absurd hi (Nat.not_lt_zero i), fun w hw => ⟨fun q => ?_, fun _ => ?_⟩, fun i hi => absurd hi (Nat.not_lt_zero i)⟩, by rw [k1 102 33 (by omega)]; exact e33, ⟨fun x x1 x2 => ?_, fun w hw => ?_⟩, by rw [k1 102 22 (by omega)]; exact e22, by rw [k1 102 32 (by omega)]; exact e32⟩
  · have q : bitOf (nI 0) (nI w) = true := q
    rw [bit_0 (by omega)] at q
    exact absurd q (by decide)
  · obtain ⟨a, b⟩ := z2 w hw
    exact ⟨(k1 118 (3 + w) (by omega)).trans a, (k1 119 (3 + w) (by omega)).trans b⟩
  · rw [k1 102 21 (by omega), e21, bit_0 (by omega)]; rfl
  · rw [k1 102 21 (by omega), e21, bit_0 (by omega)]
    exact (bit_0 (by omega)).symm
theorem c10_text (hM : MK K) (hI : MI I P S im SI m T kn u Hs B) {fk : Nat} {fp : Int32} (hT : TQ I t f fk fp) (x : Int32) (g : Nat → Nat → Int32) (va : Int32) : Cw l G (d + 128) m10_text [.ref 102, .int x] (I, J, K) (mtxQ I J K f t fk fp P S im SI m T kn u Hs B x g va) := by
  obtain ⟨h1, h2, h3, h4, h5, h6⟩ := id hT
  have g0 : FQm I J (u2 I 102 0 (nI 0)) J := FQm.w0
  have bad : ¬ (0 ≤ x ∧ x ≤ nI t) → Gw l G (d + 128) m10_text 17 [.ref 102, .int x, .null] [] (u2 I 102 0 (nI 0), J, K) (mtxQ I J K f t fk fp P S im SI m T kn u Hs B x g va) := by
    intro hb
    refine e_bipush rfl bp_m2 ?_
    refine e_ireturn rfl rfl ?_
    refine ⟨_, rfl, fun c hc => u2_row _ _ (by omega), ?_⟩
    rw [if_neg hb]
    exact ⟨rfl, (hI.fq g0).mono (by omega), TQ.fz hT g0.fz⟩
  refine Cw.of ok10_text rfl (rfl : argL _ _ = [.ref 102, .int x, .null]) ?_
  refine e_aload_n rfl rfl ?_
  refine e_iconst (v := nI 0) rfl ic_0N ?_
  refine e_putI rfl f10_151 hM.k rfl rfl ?_
  refine e_iload_n rfl rfl ?_
  refine e_if_lt (tgt := 17) rfl rfl (fun z => bad (fun q => absurd z (Int32.not_lt.mpr q.1))) (fun z => ?_)
  refine e_iload_n rfl rfl ?_
  refine e_aload_n rfl rfl ?_
  refine e_getI rfl f10_154 hM.k rfl ?_
  rw [u2_nk _ _ (by omega), h1]
  refine e_icmp_le (tgt := 20) rfl rfl (fun y => ?_) (fun y => bad (fun q => absurd q.2 y))
  obtain ⟨n, hn, rfl⟩ := nI_of z
  have hnt := (nI_leI hn (by omega)).mp y
  have fin : ∀ I' r, (∀ c, (c < 102 ∨ 144 < c) → I' c = I c) → (match txR f n g va with
      | .inl e => r = some (.int (-1)) ∧ MI I' P S im SI m T kn u Hs (B + 2) ∧ TQ I' 0 f e.1 (nI e.2)
      | .inr s => r = some (.int (nI s.2.2.2)) ∧ MI I' (pP s) (beg (pP s)) false SI 0 T (-1) 0 Hs 8 ∧ TQ I' 0 f 0 (-1)) → mtxQ I J K f t fk fp P S im SI m T kn u Hs B (nI n) g va r (I', J, K) := by
    intro I' r a b
    refine ⟨I', rfl, a, ?_⟩
    rw [if_pos ⟨Int32.not_lt.mp z, y⟩, nI_clamp hn]
    exact b
  refine e_aload_n rfl rfl ?_
  refine e_iload_n rfl rfl ?_
  refine e_putI rfl f10_160 hM.k rfl rfl ?_
  refine e_aload_n rfl rfl ?_
  refine e_iconst (v := nI 0) rfl ic_0N ?_
  refine e_putI rfl f10_154 hM.k rfl rfl ?_
  refine e_aload_n rfl rfl ?_
  refine e_iconst (v := nI 0) rfl ic_0N ?_
  refine e_putI rfl f10_157 hM.k rfl rfl ?_
  refine e_aload_n rfl rfl ?_
  refine e_iconst (v := nI 0) rfl ic_0N ?_
  refine e_putI rfl f10_205 hM.k rfl rfl ?_
  refine e_aload_n rfl rfl ?_
  refine e_iconst rfl ic_m1 ?_
  refine e_putI rfl f10_208 hM.k rfl rfl ?_
  refine e_iconst (v := nI 0) rfl ic_0N ?_
  refine e_ist2 rfl rfl rfl ?_
  obtain ⟨I1, hI1⟩ : ∃ I1, I1 = u2 (u2 (u2 (u2 (u2 (u2 I 102 0 (nI 0)) 102 23 (nI n)) 102 2 (nI 0)) 102 24 (nI 0)) 102 28 (nI 0)) 102 29 (-1) := ⟨_, rfl⟩
  rw [← hI1]
  have F1 : FR I I1 := by
    rw [hI1]
    exact ((((FR.wo (Or.inl rfl)).tr (FR.wo (by omega))).tr (FR.wo (by omega))).tr (FR.wo (by omega))).tr ((FR.wo (by omega)).tr (FR.wo (by omega)))
  have a23 : I1 102 23 = nI n := by rw [hI1]; simp (disch := omega) only [u2_nk, u2_at]
  have a2 : I1 102 2 = nI 0 := by rw [hI1]; simp (disch := omega) only [u2_nk, u2_at]
  have a24 : I1 102 24 = nI 0 := by rw [hI1]; simp (disch := omega) only [u2_nk, u2_at]
  have a28 : I1 102 28 = nI 0 := by rw [hI1]; simp (disch := omega) only [u2_nk, u2_at]
  have a29 : I1 102 29 = -1 := by rw [hI1]; simp (disch := omega) only [u2_nk, u2_at]
  refine mzero_loop (d := d + 127) (I0 := I1) hM 8 0 I1 (by omega) (fun _ _ _ => rfl) (fun x hx => absurd hx (by omega)) (fun I2 g2 z2 v => ?_)
  refine e_iconst (v := nI 3) rfl ic_3N ?_
  refine e_ist2 rfl rfl rfl ?_
  refine mzero_loop2 (d := d + 127) (I0 := I2) hM 3 0 I2 (by omega) (fun _ _ _ => rfl) (fun x hx => absurd hx (by omega)) (fun I3 g3 z3 v => ?_)
  have F3 : FR I1 I3 := fun c x a b => (g3 c x (fun q => b ⟨by omega, by omega, by rcases q.1 with e | e <;> rw [e] <;> exact q.2⟩)).trans (g2 c x (fun q => b ⟨by omega, by omega, by rw [q.1]; exact q.2⟩))
  have s3 : ∀ k, I3 102 k = I1 102 k := fun k => (g3 102 k (by omega)).trans (g2 102 k (by omega))
  refine e_aload_n rfl rfl ?_
  refine e_iconst (v := nI 0) rfl ic_0N ?_
  refine e_putI rfl f10_231 hM.k rfl rfl ?_
  refine e_aload_n rfl rfl ?_
  refine e_iconst (v := nI 0) rfl ic_0N ?_
  refine e_putI rfl f10_255 hM.k rfl rfl ?_
  refine e_aload_n rfl rfl ?_
  refine e_iconst (v := nI 0) rfl ic_0N ?_
  refine e_putI rfl f10_287 hM.k rfl rfl ?_
  refine e_aload_n rfl rfl ?_
  refine e_iconst (v := nI 0) rfl ic_0N ?_
  refine e_putI rfl f10_261 hM.k rfl rfl ?_
  obtain ⟨I4, hI4⟩ : ∃ I4, I4 = u2 (u2 (u2 (u2 I3 102 21 (nI 0)) 102 22 (nI 0)) 102 32 (nI 0)) 102 33 (nI 0) := ⟨_, rfl⟩
  rw [← hI4]
  have F4 : FR I3 I4 := by
    rw [hI4]
    exact ((FR.wo (by omega)).tr (FR.wo (by omega))).tr ((FR.wo (by omega)).tr (FR.wo (by omega)))
  have s4 : ∀ k, k ≠ 21 → k ≠ 22 → k ≠ 32 → k ≠ 33 → I4 102 k = I1 102 k := fun k a b c e => by rw [hI4, u2_nk _ _ e, u2_nk _ _ c, u2_nk _ _ b, u2_nk _ _ a, s3]
  have r4 : ∀ c, c ≠ 102 → I4 c = I3 c := fun c hc => by rw [hI4, u2_row _ _ hc, u2_row _ _ hc, u2_row _ _ hc, u2_row _ _ hc]
  have F04 : FR I I4 := (F1.tr F3).tr F4
  have X4 : TX I4 f n := ⟨by rw [s4 23 (by omega) (by omega) (by omega) (by omega)]; exact a23, by omega, fun j hj => by rw [F04.row (c := 103) (by omega)]; exact h3 j (by omega), h4⟩
  refine e_aload_n rfl rfl ?_
  refine e_callV (kd := 10) (M2 := m10_token) rfl v10_211 ok10_token (c10_token (d := d + 122) (a := 0) hM (by omega) X4.1 (by rw [s4 24 (by omega) (by omega) (by omega) (by omega)]; exact a24) (by omega) X4.2.2.1 h4 va) rfl hM.k rfl rfl rfl rfl (fun r1 h1 q1 => ?_)
  obtain ⟨rfl, I5, rfl, k5⟩ := q1
  have M5 : Mz I5 n (.inr (ps0 f n g va)) := by
    refine Mz.first h4 k5 (by rw [s4 28 (by omega) (by omega) (by omega) (by omega)]; exact a28) (by rw [s4 29 (by omega) (by omega) (by omega) (by omega)]; exact a29) ?_ ?_ ?_ ?_ (fun x hx => ?_) (fun x hx => ?_)
    · rw [hI4]; simp (disch := omega) only [u2_nk, u2_at]
    · rw [hI4]; simp (disch := omega) only [u2_nk, u2_at]
    · rw [hI4]; simp (disch := omega) only [u2_nk, u2_at]
    · rw [hI4]; simp (disch := omega) only [u2_nk, u2_at]
    · rw [r4 104 (by omega), g3 104 _ (by omega)]; exact z2 x hx
    · rw [r4 118 (by omega), r4 119 (by omega)]; exact z3 x hx
  have T5 : FT I4 I5 := fun c x q => k5.1 c x (by omega)
  obtain ⟨L5, p5⟩ := ps0_LI (n := n) h4 g va
  refine mread_loop (d := d) hM n (ps0 f n g va) I5 L5 p5 (X4.ft T5) M5 (fun I6 g6 M6 => ?_)
  have M6 : Mz I6 n (txR f n g va) := M6
  have F6 : FR I I6 := (F04.tr T5.fl.fr).tr g6.fr
  have b2 : I6 102 2 = nI 0 := by rw [g6 102 2 (by omega) (by omega), T5 102 2 (by omega), s4 2 (by omega) (by omega) (by omega) (by omega)]; exact a2
  cases ez : txR f n g va with
  | inl e =>
    rw [ez] at M6
    obtain ⟨q1, q2, q3, q4⟩ := M6.1
    refine e_aload_n rfl rfl ?_
    refine e_aload_n rfl rfl ?_
    refine e_getI rfl f10_205 hM.k rfl ?_
    rw [q3]
    refine e_putI rfl f10_293 hM.k rfl rfl ?_
    refine e_aload_n rfl rfl ?_
    refine e_aload_n rfl rfl ?_
    refine e_getI rfl f10_208 hM.k rfl ?_
    rw [u2_nk _ _ (by omega), q4]
    refine e_putI rfl f10_67 hM.k rfl rfl ?_
    refine e_aload_n rfl rfl ?_
    refine e_getI rfl f10_205 hM.k rfl ?_
    rw [u2_nk _ _ (by omega), u2_nk _ _ (by omega), q3]
    first | refine e_if_eqB (tgt := 174) rfl rfl (fun z => ?_) (fun z => ?_) | refine e_if_eqN (tgt := 174) rfl rfl (by omega) (fun z => ?_) (fun z => ?_) | refine e_if_eq (tgt := 174) rfl rfl (fun z => ?_) (fun z => ?_)
    · exact absurd (by assumption) q1
    · refine e_iconst rfl ic_m1 ?_
      refine e_ireturn rfl rfl ?_
      have F7 : FR I (u2 (u2 I6 102 30 (nI e.1)) 102 31 (nI e.2)) := (F6.tr (FR.wo (by omega))).tr (FR.wo (by omega))
      refine fin _ _ (fun c hc => F7.row (by omega)) ?_
      rw [ez]
      exact ⟨rfl, (hI.fr F7).mono (by omega), by rw [u2_nk _ _ (by omega), u2_nk _ _ (by omega)]; exact b2, by omega, fun j hj => absurd hj (by omega), h4, by rw [u2_nk _ _ (by omega), u2_at], u2_at _ _ _ _⟩
  | inr s =>
    rw [ez] at M6
    have q3 : I6 102 28 = nI 0 := M6.1.1
    have q4 : I6 102 29 = -1 := M6.1.2.2.2.2.2
    have hLI := (tx_LI h4 ez).1
    have wX : wfX (pP s) := ⟨hLI.2.2.1, hLI.2.2.2.1, hLI.2.2.2.2⟩
    obtain ⟨w1, w2, w3, w4⟩ := hLI.2.2.1.1
    refine e_aload_n rfl rfl ?_
    refine e_aload_n rfl rfl ?_
    refine e_getI rfl f10_205 hM.k rfl ?_
    rw [q3]
    refine e_putI rfl f10_293 hM.k rfl rfl ?_
    refine e_aload_n rfl rfl ?_
    refine e_aload_n rfl rfl ?_
    refine e_getI rfl f10_208 hM.k rfl ?_
    rw [u2_nk _ _ (by omega), q4]
    refine e_putI rfl f10_67 hM.k rfl rfl ?_
    refine e_aload_n rfl rfl ?_
    refine e_getI rfl f10_205 hM.k rfl ?_
    rw [u2_nk _ _ (by omega), u2_nk _ _ (by omega), q3]
    first | refine e_if_eqB (tgt := 174) rfl rfl (fun z => ?_) (fun z => ?_) | refine e_if_eqN (tgt := 174) rfl rfl (by omega) (fun z => ?_) (fun z => ?_) | refine e_if_eq (tgt := 174) rfl rfl (fun z => ?_) (fun z => ?_)
    · obtain ⟨I7, hI7⟩ : ∃ I7, I7 = u2 (u2 I6 102 30 (nI 0)) 102 31 (-1) := ⟨_, rfl⟩
      rw [← hI7]
      have F7 : FR I I7 := by rw [hI7]; exact (F6.tr (FR.wo (by omega))).tr (FR.wo (by omega))
      have b30 : I7 102 30 = nI 0 := by rw [hI7, u2_nk _ _ (by omega), u2_at]
      have b31 : I7 102 31 = -1 := by rw [hI7, u2_at]
      have s7 : ∀ k, k ≠ 30 → k ≠ 31 → I7 102 k = I6 102 k := fun k a b => by rw [hI7, u2_nk _ _ b, u2_nk _ _ a]
      have H104 : HF I7 I7 104 := ⟨fun _ _ _ => rfl, fun c a b => absurd b (by omega)⟩
      refine e_aload_n rfl rfl ?_
      refine e_getP rfl f10_13 hM.k rfl hM.p3 ?_
      refine e_callS (M2 := m10_half) rfl v10_296 ok10_half (c10_half hM.a3 (by decide) (by decide) (by decide) (by decide) H104) rfl rfl rfl (fun r1 h1 q1 => ?_)
      obtain ⟨rfl, J104, rfl, H105⟩ := q1
      refine e_aload_n rfl rfl ?_
      refine e_getP rfl f10_16 hM.k rfl hM.p4 ?_
      refine e_callS (M2 := m10_half) rfl v10_296 ok10_half (c10_half hM.a4 (by decide) (by decide) (by decide) (by decide) H105) rfl rfl rfl (fun r1 h1 q1 => ?_)
      obtain ⟨rfl, J105, rfl, H106⟩ := q1
      refine e_aload_n rfl rfl ?_
      refine e_getP rfl f10_19 hM.k rfl hM.p5 ?_
      refine e_callS (M2 := m10_half) rfl v10_296 ok10_half (c10_half hM.a5 (by decide) (by decide) (by decide) (by decide) H106) rfl rfl rfl (fun r1 h1 q1 => ?_)
      obtain ⟨rfl, J106, rfl, H107⟩ := q1
      refine e_aload_n rfl rfl ?_
      refine e_getP rfl f10_22 hM.k rfl hM.p6 ?_
      refine e_callS (M2 := m10_half) rfl v10_296 ok10_half (c10_half hM.a6 (by decide) (by decide) (by decide) (by decide) H107) rfl rfl rfl (fun r1 h1 q1 => ?_)
      obtain ⟨rfl, J107, rfl, H108⟩ := q1
      refine e_aload_n rfl rfl ?_
      refine e_getP rfl f10_25 hM.k rfl hM.p7 ?_
      refine e_callS (M2 := m10_half) rfl v10_296 ok10_half (c10_half hM.a7 (by decide) (by decide) (by decide) (by decide) H108) rfl rfl rfl (fun r1 h1 q1 => ?_)
      obtain ⟨rfl, J108, rfl, H109⟩ := q1
      refine e_aload_n rfl rfl ?_
      refine e_getP rfl f10_28 hM.k rfl hM.p8 ?_
      refine e_callS (M2 := m10_half) rfl v10_296 ok10_half (c10_half hM.a8 (by decide) (by decide) (by decide) (by decide) H109) rfl rfl rfl (fun r1 h1 q1 => ?_)
      obtain ⟨rfl, J109, rfl, H110⟩ := q1
      refine e_aload_n rfl rfl ?_
      refine e_getP rfl f10_31 hM.k rfl hM.p9 ?_
      refine e_callS (M2 := m10_half) rfl v10_296 ok10_half (c10_half hM.a9 (by decide) (by decide) (by decide) (by decide) H110) rfl rfl rfl (fun r1 h1 q1 => ?_)
      obtain ⟨rfl, J110, rfl, H111⟩ := q1
      refine e_aload_n rfl rfl ?_
      refine e_getP rfl f10_34 hM.k rfl hM.p10 ?_
      refine e_callS (M2 := m10_half) rfl v10_296 ok10_half (c10_half hM.a10 (by decide) (by decide) (by decide) (by decide) H111) rfl rfl rfl (fun r1 h1 q1 => ?_)
      obtain ⟨rfl, J111, rfl, H112⟩ := q1
      refine e_aload_n rfl rfl ?_
      refine e_getP rfl f10_37 hM.k rfl hM.p11 ?_
      refine e_callS (M2 := m10_half) rfl v10_296 ok10_half (c10_half hM.a11 (by decide) (by decide) (by decide) (by decide) H112) rfl rfl rfl (fun r1 h1 q1 => ?_)
      obtain ⟨rfl, J112, rfl, H113⟩ := q1
      refine e_aload_n rfl rfl ?_
      refine e_getP rfl f10_40 hM.k rfl hM.p12 ?_
      refine e_callS (M2 := m10_half) rfl v10_296 ok10_half (c10_half hM.a12 (by decide) (by decide) (by decide) (by decide) H113) rfl rfl rfl (fun r1 h1 q1 => ?_)
      obtain ⟨rfl, J113, rfl, H114⟩ := q1
      refine e_aload_n rfl rfl ?_
      refine e_getP rfl f10_43 hM.k rfl hM.p13 ?_
      refine e_callS (M2 := m10_half) rfl v10_296 ok10_half (c10_half hM.a13 (by decide) (by decide) (by decide) (by decide) H114) rfl rfl rfl (fun r1 h1 q1 => ?_)
      obtain ⟨rfl, J114, rfl, H115⟩ := q1
      refine e_aload_n rfl rfl ?_
      refine e_getP rfl f10_46 hM.k rfl hM.p14 ?_
      refine e_callS (M2 := m10_half) rfl v10_296 ok10_half (c10_half hM.a14 (by decide) (by decide) (by decide) (by decide) H115) rfl rfl rfl (fun r1 h1 q1 => ?_)
      obtain ⟨rfl, J115, rfl, H116⟩ := q1
      refine e_aload_n rfl rfl ?_
      refine e_getP rfl f10_49 hM.k rfl hM.p15 ?_
      refine e_callS (M2 := m10_half) rfl v10_296 ok10_half (c10_half hM.a15 (by decide) (by decide) (by decide) (by decide) H116) rfl rfl rfl (fun r1 h1 q1 => ?_)
      obtain ⟨rfl, J116, rfl, H117⟩ := q1
      refine e_aload_n rfl rfl ?_
      refine e_getP rfl f10_52 hM.k rfl hM.p16 ?_
      refine e_callS (M2 := m10_half) rfl v10_296 ok10_half (c10_half hM.a16 (by decide) (by decide) (by decide) (by decide) H117) rfl rfl rfl (fun r1 h1 q1 => ?_)
      obtain ⟨rfl, J117, rfl, H118⟩ := q1
      refine e_aload_n rfl rfl ?_
      refine e_getP rfl f10_55 hM.k rfl hM.p17 ?_
      refine e_callS (M2 := m10_half) rfl v10_296 ok10_half (c10_half hM.a17 (by decide) (by decide) (by decide) (by decide) H118) rfl rfl rfl (fun r1 h1 q1 => ?_)
      obtain ⟨rfl, J118, rfl, H119⟩ := q1
      refine e_aload_n rfl rfl ?_
      refine e_getP rfl f10_58 hM.k rfl hM.p18 ?_
      refine e_callS (M2 := m10_half) rfl v10_296 ok10_half (c10_half hM.a18 (by decide) (by decide) (by decide) (by decide) H119) rfl rfl rfl (fun r1 h1 q1 => ?_)
      obtain ⟨rfl, J119, rfl, H120⟩ := q1
      refine e_aload_n rfl rfl ?_
      refine e_getP rfl f10_61 hM.k rfl hM.p19 ?_
      refine e_callS (M2 := m10_half) rfl v10_296 ok10_half (c10_half hM.a19 (by decide) (by decide) (by decide) (by decide) H120) rfl rfl rfl (fun r1 h1 q1 => ?_)
      obtain ⟨rfl, J120, rfl, H121⟩ := q1
      refine e_aload_n rfl rfl ?_
      refine e_getP rfl f10_64 hM.k rfl hM.p20 ?_
      refine e_callS (M2 := m10_half) rfl v10_296 ok10_half (c10_half hM.a20 (by decide) (by decide) (by decide) (by decide) H121) rfl rfl rfl (fun r1 h1 q1 => ?_)
      obtain ⟨rfl, J121, rfl, H122⟩ := q1
      have s8 : ∀ k, J121 102 k = I7 102 k := fun k => H122.1 102 k (by omega)
      refine e_aload_n rfl rfl ?_
      refine e_iconst (v := nI 0) rfl ic_0N ?_
      refine e_putI rfl f10_300 hM.k rfl rfl ?_
      refine e_aload_n rfl rfl ?_
      refine e_iconst rfl ic_m1 ?_
      refine e_putI rfl f10_129 hM.k rfl rfl ?_
      refine e_aload_n rfl rfl ?_
      refine e_iconst (v := nI 0) rfl ic_0N ?_
      refine e_putZ rfl f10_303 hM.k rfl rfl (by first | decide | assumption) ?_
      refine e_aload_n rfl rfl ?_
      refine e_iconst (v := nI 0) rfl ic_0N ?_
      refine e_putI rfl f10_307 hM.k rfl rfl ?_
      obtain ⟨I9, hI9⟩ : ∃ I9, I9 = u2 (u2 (u2 (u2 J121 102 59 (nI 0)) 102 60 (-1)) 102 50 (nI 0)) 102 51 (nI 0) := ⟨_, rfl⟩
      rw [← hI9]
      have r9 : ∀ c, c ≠ 102 → I9 c = J121 c := fun c hc => by rw [hI9, u2_row _ _ hc, u2_row _ _ hc, u2_row _ _ hc, u2_row _ _ hc]
      have s9 : ∀ k, k < 50 ∨ k = 52 ∨ k = 53 → I9 102 k = I7 102 k := fun k hk => by rw [hI9, u2_nk _ _ (by omega), u2_nk _ _ (by omega), u2_nk _ _ (by omega), u2_nk _ _ (by omega), s8]
      have P9 : MP I9 (pP s) := by
        refine M6.2.1.low w1 w2 w3 w4 hLI.2.2.2.1.2 (fun c i a b q => ?_)
        rw [r9 c (by omega), H122.2 c a (by omega) i q, hI7, u2_ne _ _ (by omega), u2_ne _ _ (by omega)]
        rfl
      refine e_aload_n rfl rfl ?_
      refine e_callV (kd := 10) (M2 := m10_begins) rfl v10_148 ok10_begins (c10_begins (d := d + 126) hM P9 wX) rfl hM.k rfl rfl rfl rfl (fun r1 h1 q1 => ?_)
      obtain ⟨rfl, I10, rfl, C10⟩ := q1
      have nf : ∀ c x, (c < 124 ∨ 136 < c) → I10 c x = I9 c x := fun c x hc => C10.1 c x (by unfold onF; omega)
      have e22 : I10 102 22 = nI s.2.2.2 := by rw [nf 102 22 (by omega), s9 22 (by omega), s7 22 (by omega) (by omega)]; exact M6.2.2.2.2.1
      refine e_aload_n rfl rfl ?_
      refine e_getI rfl f10_255 hM.k rfl ?_
      rw [e22]
      refine e_ireturn rfl rfl ?_
      refine fin I10 _ (fun c hc => ?_) ?_
      · funext x
        rw [nf c x (by omega), r9 c (by omega), H122.1 c x (by omega), F7.row (by omega)]
      · rw [ez]
        have o52 : I10 102 52 = nI 0 := by rw [nf 102 52 (by omega), s9 52 (by omega), F7 102 52 (by omega) (by omega)]; exact hI.2.2.2.2.2.2.2.1
        have o53 : I10 102 53 = -1 := by rw [nf 102 53 (by omega), s9 53 (by omega), F7 102 53 (by omega) (by omega)]; exact hI.2.2.2.2.2.2.2.2
        have o50 : I10 102 50 = bI false := by rw [nf 102 50 (by omega), hI9, u2_nk _ _ (by omega), u2_at]; rfl
        have o51 : I10 102 51 = nI 0 := by rw [nf 102 51 (by omega), hI9, u2_at]
        have o59 : I10 102 59 = nI 0 := by rw [nf 102 59 (by omega), hI9]; simp (disch := omega) only [u2_nk, u2_at]
        have o60 : I10 102 60 = -1 := by rw [nf 102 60 (by omega), hI9]; simp (disch := omega) only [u2_nk, u2_at]
        refine ⟨rfl, ⟨P9.frame (fun c a b => funext fun i => nf c i (by omega)), wX, RM.st rfl w2 C10 (by omega), o50, fun q => absurd q (by decide), ⟨o59, by omega, o60, fun i hi => absurd hi (by omega)⟩, ⟨o51, by omega, fun i hi => absurd hi (by omega)⟩, o52, o53⟩, ?_, by omega, fun j hj => absurd hj (by omega), h4, ?_, ?_⟩
        · rw [nf 102 2 (by omega), s9 2 (by omega), s7 2 (by omega) (by omega)]; exact b2
        · rw [nf 102 30 (by omega), s9 30 (by omega)]; exact b30
        · rw [nf 102 31 (by omega), s9 31 (by omega)]; exact b31
    · omega
end MText4
