/-! ===== the reference: text ===== -/
theorem MP.low {U I : IM} {P : Pl} (h : MP U P) (c0 : P.1 0 ≤ 6) (c1 : P.1 1 ≤ 8) (c2 : P.1 2 ≤ 10) (c3 : P.1 3 ≤ 8) (c4 : P.1 4 ≤ 64) (hf : ∀ c i, 104 ≤ c → c ≤ 121 → i < hl c → I c i = U c i) : MP I P := by
  obtain ⟨⟨n0, n1, n2, n3, n4, n5, n6, n7⟩, h0, h1, h2, h3, h4, h5⟩ := h
  have f : ∀ c i, 104 ≤ c → c ≤ 121 → ∀ m, hl c = m → i < m → I c i = U c i := fun c i a b m e q => hf c i a b (by rw [e]; exact q)
  have g4 : ∀ i, i < 8 → I 104 i = U 104 i := fun i hi => f 104 i (by omega) (by omega) 8 rfl hi
  refine ⟨⟨(g4 0 (by omega)).trans n0, (g4 1 (by omega)).trans n1, (g4 2 (by omega)).trans n2, (g4 3 (by omega)).trans n3, (g4 4 (by omega)).trans n4, (g4 5 (by omega)).trans n5, (g4 6 (by omega)).trans n6, (g4 7 (by omega)).trans n7⟩, fun i hi => ?_, fun i hi => ?_, fun i hi => ?_, fun i hi => ?_, fun i hi => ?_, fun i hi => ?_⟩
  · rw [f 105 i (by omega) (by omega) 6 rfl (by omega), f 106 i (by omega) (by omega) 6 rfl (by omega), f 107 i (by omega) (by omega) 6 rfl (by omega)]; exact h0 i hi
  · rw [f 108 i (by omega) (by omega) 8 rfl (by omega), f 109 i (by omega) (by omega) 8 rfl (by omega), f 110 i (by omega) (by omega) 8 rfl (by omega), f 111 i (by omega) (by omega) 8 rfl (by omega), f 112 i (by omega) (by omega) 8 rfl (by omega)]; exact h1 i hi
  · rw [f 113 i (by omega) (by omega) 10 rfl (by omega), f 114 i (by omega) (by omega) 10 rfl (by omega)]; exact h2 i hi
  · rw [f 115 i (by omega) (by omega) 8 rfl (by omega), f 116 i (by omega) (by omega) 8 rfl (by omega), f 117 i (by omega) (by omega) 8 rfl (by omega)]; exact h3 i hi
  · rw [f 118 i (by omega) (by omega) 3 rfl hi, f 119 i (by omega) (by omega) 3 rfl hi]; exact h4 i hi
  · rw [f 120 i (by omega) (by omega) 64 rfl (by omega), f 121 i (by omega) (by omega) 64 rfl (by omega)]; exact h5 i hi
/-- of what reading changes: the object's numbers 0, 2, 21 .. 33 and the upper halves -/
def FR (I I' : IM) : Prop := ∀ c x, ¬ (c = 102 ∧ (x = 0 ∨ x = 2 ∨ 21 ≤ x ∧ x ≤ 33)) → ¬ (104 ≤ c ∧ c ≤ 121 ∧ hl c ≤ x) → I' c x = I c x
theorem FR.rf {I : IM} : FR I I := fun _ _ _ _ => rfl
theorem FR.tr {I I1 I2 : IM} (h : FR I I1) (g : FR I1 I2) : FR I I2 := fun c x a b => (g c x a b).trans (h c x a b)
theorem FL.fr {I I' : IM} (h : FL I I') : FR I I' := fun c x a b => h c x (by omega) b
theorem FR.wo {I : IM} {k : Nat} {v : Int32} (h : k = 0 ∨ k = 2 ∨ 21 ≤ k ∧ k ≤ 33) : FR I (u2 I 102 k v) := fun c x a _ => if_neg (fun q => a ⟨q.1, by rw [q.2]; exact h⟩)
theorem FR.row {I I' : IM} (h : FR I I') {c : Nat} (hc : c < 102 ∨ c = 103 ∨ 121 < c) : I' c = I c := funext fun x => h c x (by omega) (by omega)
theorem MI.fr {I I' : IM} {P : Pl} {S : SM} {im : Bool} {SI : SM} {m : Nat} {T : SM} {kn : Int32} {u : Nat} {Hs : Nat → SM} {B : Nat} (h : MI I P S im SI m T kn u Hs B) (g : FR I I') : MI I' P S im SI m T kn u Hs B := by
  obtain ⟨h1, h2, h3, h4, h5, ⟨t1, t2, t3, t4⟩, ⟨u1, u2, u3⟩, h8, h9⟩ := h
  have h8n := h2.1.1.2.1
  have ob : ∀ k, 50 ≤ k → I' 102 k = I 102 k := fun k hk => g 102 k (by omega) (by omega)
  have on : ∀ f c i, onF f c i → I' c i = I c i := fun f c i q => by unfold onF at q; exact congrFun (g.row (by omega)) i
  obtain ⟨w1, w2, w3, w4⟩ := h2.1.1
  refine ⟨h1.low w1 w2 w3 w4 h2.2.1.2 (fun c i a b q => g c i (by omega) (by omega)), h2, h3.frame h8n (on 0), by rw [ob 50 (by omega)]; exact h4, fun q => (h5 q).frame h8n (on 2), ⟨by rw [ob 59 (by omega)]; exact t1, t2, by rw [ob 60 (by omega)]; exact t3, fun i hi => ?_⟩, ⟨by rw [ob 51 (by omega)]; exact u1, u2, fun i hi => (u3 i hi).frame h8n (on (3 + i))⟩, by rw [ob 52 (by omega)]; exact h8, by rw [ob 53 (by omega)]; exact h9⟩
  rw [g.row (c := 140) (by omega), g.row (c := 141) (by omega), g.row (c := 142) (by omega), g.row (c := 143) (by omega)]
  exact t4 i hi
/-- halves of rows below j are laid down -/
def HF (I0 I : IM) (j : Nat) : Prop := (∀ c x, ¬ (104 ≤ c ∧ c < j ∧ x < hl c) → I c x = I0 c x) ∧ ∀ c, 104 ≤ c → c < j → ∀ i, i < hl c → I c i = I0 c (hl c + i)
theorem nl_LI {f : Nat → Nat} {n : Nat} (hf : ∀ j, f j < 256) {k : Nat} {s s3 : PSt} (h : LI n s) (hp : n < pAt s + (k + 1)) (e : bnd (bnd (lnS f n s) (exS f n (nI 59))) nlS = .inr s3) : LI n s3 ∧ (pTk s3 = nI 0 ∨ n < pAt s3 + k) := by
  obtain ⟨s2, e, e3⟩ := bnd_inr e
  obtain ⟨s1, e1, e2⟩ := bnd_inr e
  obtain ⟨h1, p1⟩ := ln_LI hf h e1
  obtain rfl := Sum.inr.inj (show (.inr (s2.1, s2.2.1, s2.2.2.1, s2.2.2.2 + 1) : PR) = .inr s3 from e3)
  unfold exS at e2
  by_cases c59 : pTk s1 = nI 59
  · rw [if_pos c59] at e2
    have g2 := av_L0 hf h1.1 e2
    have h2 : LI n s2 := ⟨g2.1, g2.2.1, by rw [g2.P]; exact h1.2.2.1, by rw [g2.P]; exact h1.2.2.2.1, by rw [g2.P]; exact h1.2.2.2.2⟩
    refine ⟨h2, ?_⟩
    show pTk s2 = nI 0 ∨ n < pAt s2 + k
    by_cases c2 : pTk s2 = nI 0
    · exact Or.inl c2
    · refine Or.inr ?_
      unfold avS at e2
      rw [if_neg (by rw [c59]; decide)] at e2
      obtain rfl := Sum.inr.inj e2
      have := (advA_at (va := pVa s1) h1.1.1 hf).2.2 c2
      have : pAt s1 < (advA f n (pAt s1) (pVa s1)).1 := this
      show n < (advA f n (pAt s1) (pVa s1)).1 + k
      omega
  · rw [if_neg c59] at e2
    exact absurd e2 (by simp [flS])
theorem rd_nl {f : Nat → Nat} {n k : Nat} {s : PSt} (h : ¬ pTk s = nI 0) : rdS f n (k + 1) s = bnd (bnd (bnd (lnS f n s) (exS f n (nI 59))) nlS) (rdS f n k) := by
  rw [rdS, if_neg h, bnd_as, bnd_as]
  rfl
section MText3
variable {l : Launch} {G : GG} {d : Nat} {I : IM} {J : JM} {K : Kt} {Q : Option Value → Hp → Prop} {f : Nat → Nat} {n : Nat} {P : Pl}
theorem half_loop {a L h : Nat} (ha : K.2.1 a = (20, L)) (hL : L = 2 * h) (h64 : h ≤ 64) {I0 : IM} : ∀ k i I, i + k = h → (∀ c x, ¬ (c = a ∧ x < i) → I c x = I0 c x) → (∀ x, x < i → I a x = I0 a (h + x)) → (∀ I', (∀ c x, ¬ (c = a ∧ x < h) → I' c x = I0 c x) → (∀ x, x < h → I' a x = I0 a (h + x)) → Q none (I', J, K)) → Gw l G d m10_half 7 [.ref a, .int (nI h), .int (nI i)] [] (I, J, K) Q := by
  intro k
  induction k with
  | zero =>
    intro i I hi g1 g2 kk
    obtain rfl : i = h := by omega
    refine e_iload_n rfl rfl ?_
    refine e_iload_n rfl rfl ?_
    first | refine e_icmp_geN (tgt := 26) rfl rfl (by omega) (by omega) (fun z => ?_) (fun z => ?_) | refine e_icmp_ge (tgt := 26) rfl rfl (fun z => ?_) (fun z => ?_)
    · refine e_return rfl rfl ?_
      exact kk I g1 g2
    · omega
  | succ k ih =>
    intro i I hi g1 g2 kk
    refine e_iload_n rfl rfl ?_
    refine e_iload_n rfl rfl ?_
    first | refine e_icmp_geN (tgt := 26) rfl rfl (by omega) (by omega) (fun z => ?_) (fun z => ?_) | refine e_icmp_ge (tgt := 26) rfl rfl (fun z => ?_) (fun z => ?_)
    · omega
    · refine e_aload_n rfl rfl ?_
      refine e_iload_n rfl rfl ?_
      refine e_aload_n rfl rfl ?_
      refine e_iload_n rfl rfl ?_
      refine e_iload_n rfl rfl ?_
      first | refine e_iaddN rfl ?_ | refine e_iadd rfl ?_
      first | refine e_ialoadN rfl (by assumption) (by omega) (by omega) ?_ | (refine e_iaload rfl (by assumption) ?_ ?_; rotate_left)
      first | refine e_iastoreN rfl (by assumption) (by omega) (by omega) ?_ | (refine e_iastore rfl (by assumption) ?_ ?_; rotate_left)
      first | refine e_inc2 rfl rfl rfl (incN1 _) ?_ | refine e_inc2 rfl rfl rfl rfl ?_
      refine e_goto (tgt := 7) rfl rfl ?_
      refine ih (i + 1) _ (by omega) (fun c x q => (if_neg (by omega)).trans (g1 c x (by omega))) (fun x hx => ?_) kk
      by_cases c : x = i
      · rw [c, u2_at, g1 a _ (by omega)]
      · rw [u2_nk _ _ c]; exact g2 x (by omega)
theorem c10_half {j L : Nat} {I0 : IM} (ha : K.2.1 j = (20, L)) (hL : L = 2 * hl j) (h1 : 104 ≤ j) (h64 : hl j ≤ 64) (hd : nI L / nI 2 = nI (hl j)) (H : HF I0 I j) : Cw l G d m10_half [.ref j] (I, J, K) (fun r h' => r = none ∧ ∃ I', h' = (I', J, K) ∧ HF I0 I' (j + 1)) := by
  refine Cw.of ok10_half rfl (rfl : argL _ _ = [.ref j, .null, .null]) ?_
  refine e_aload_n rfl rfl ?_
  refine e_alen (v := nI _) rfl (by assumption) rfl rfl rfl ?_
  refine e_iconst (v := nI 2) rfl ic_2N ?_
  refine e_idiv rfl (by first | assumption | decide) ?_
  rw [hd]
  refine e_ist1 rfl rfl rfl ?_
  refine e_iconst (v := nI 0) rfl ic_0N ?_
  refine e_ist2 rfl rfl rfl ?_
  refine half_loop (I0 := I) ha hL h64 (hl j) 0 I (by omega) (fun _ _ _ => rfl) (fun x hx => absurd hx (by omega)) (fun I1 g1 g2 => ⟨rfl, I1, rfl, fun c x q => ?_, fun c a b i hi => ?_⟩)
  · have : ¬ (c = j ∧ x < hl j) := fun e => q ⟨by omega, by omega, by rw [e.1]; exact e.2⟩
    rw [g1 c x this]
    exact H.1 c x (fun e => q ⟨e.1, by omega, e.2.2⟩)
  · by_cases e : c = j
    · rw [e] at hi ⊢
      rw [g2 i hi]
      exact H.1 j _ (by omega)
    · rw [g1 c i (fun w => e w.1)]
      exact H.2 c a (by omega) i hi
theorem c10_begins (hM : MK K) (hP : MP I P) (hX : wfX P) : Cw l G (d + 1) m10_begins [.ref 102] (I, J, K) (fun r h' => r = none ∧ ∃ I', h' = (I', J, K) ∧ ST P I I' 0 8 8) := by
  refine Cw.of ok10_begins rfl (rfl : argL _ _ = [.ref 102]) ?_
  refine e_aload_n rfl rfl ?_
  refine e_iconst (v := nI 0) rfl ic_0N ?_
  refine e_callV (kd := 10) (M2 := m10_starts) rfl v10_330 ok10_starts (c10_starts hM hP hX (by omega)) rfl hM.k rfl rfl rfl rfl (fun r1 h1 q1 => ?_)
  obtain ⟨rfl, I1, rfl, C1⟩ := q1
  refine e_return rfl rfl ?_
  exact ⟨rfl, I1, rfl, C1⟩
theorem mread_loop (hM : MK K) {v1 v2 : Value} : ∀ k s I, LI n s → (pTk s = nI 0 ∨ n < pAt s + k) → TX I f n → Mz I n (.inr s) → (∀ I', FL I I' → Mz I' n (rdS f n k s) → Gw l G (d + 128) m10_text 149 [.ref 102, v1, v2] [] (I', J, K) Q) → Gw l G (d + 128) m10_text 127 [.ref 102, v1, v2] [] (I, J, K) Q := by
  intro k
  induction k with
  | zero =>
    intro s I hL hp hX hz kk
    have h3 : I 102 28 = nI 0 := hz.1.1
    have R : tkR (pTk s) (pVa s) (I 102 26) (I 102 27) := hz.1.2.2.2.2.1
    have t0 : pTk s = nI 0 := hp.elim id (fun q => absurd hL.1.1 (by omega))
    refine e_aload_n rfl rfl ?_
    refine e_getI rfl f10_205 hM.k rfl ?_
    rw [h3]
    first | refine e_if_neB (tgt := 149) rfl rfl (fun z => ?_) (fun z => ?_) | refine e_if_neN (tgt := 149) rfl rfl (by omega) (fun z => ?_) (fun z => ?_) | refine e_if_ne (tgt := 149) rfl rfl (fun z => ?_) (fun z => ?_)
    · omega
    · refine e_aload_n rfl rfl ?_
      refine e_getI rfl f10_170 hM.k rfl ?_
      refine e_iconst (v := nI 4) rfl ic_4N ?_
      refine e_icmp_eq (tgt := 149) rfl rfl (fun _ => ?_) (fun z => absurd (R.e4.mpr t0) z)
      exact kk I FL.rf hz
  | succ k ih =>
    intro s I hL hp hX hz kk
    have h3 : I 102 28 = nI 0 := hz.1.1
    have R : tkR (pTk s) (pVa s) (I 102 26) (I 102 27) := hz.1.2.2.2.2.1
    refine e_aload_n rfl rfl ?_
    refine e_getI rfl f10_205 hM.k rfl ?_
    rw [h3]
    first | refine e_if_neB (tgt := 149) rfl rfl (fun z => ?_) (fun z => ?_) | refine e_if_neN (tgt := 149) rfl rfl (by omega) (fun z => ?_) (fun z => ?_) | refine e_if_ne (tgt := 149) rfl rfl (fun z => ?_) (fun z => ?_)
    · omega
    · refine e_aload_n rfl rfl ?_
      refine e_getI rfl f10_170 hM.k rfl ?_
      refine e_iconst (v := nI 4) rfl ic_4N ?_
      refine e_icmp_eq (tgt := 149) rfl rfl (fun z => ?_) (fun z => ?_)
      · have t0 := R.e4.mp z
        refine kk I FL.rf ?_
        rw [rdS, if_pos t0]
        exact hz
      · have t0 : ¬ pTk s = nI 0 := fun q => z (R.e4.mpr q)
        have hp : n < pAt s + (k + 1) := hp.elim (fun q => absurd q t0) id
        rw [rd_nl t0] at kk
        refine e_aload_n rfl rfl ?_
        refine e_callV (kd := 10) (M2 := m10_line) rfl v10_290 ok10_line (c10_line (d := d) hM hX hz hL) rfl hM.k rfl rfl rfl rfl (fun r1 h1 q1 => ?_)
        obtain ⟨rfl, I1, rfl, g1, M1⟩ := q1
        refine e_goto (tgt := 127) rfl rfl ?_
        cases ez : bnd (bnd (lnS f n s) (exS f n (nI 59))) nlS with
        | inl e =>
          rw [ez] at M1 kk
          have k3 := M1.1.2.2.1
          have k1 := M1.1.1
          have k2 := M1.1.2.1
          refine e_aload_n rfl rfl ?_
          refine e_getI rfl f10_205 hM.k rfl ?_
          rw [k3]
          first | refine e_if_neB (tgt := 149) rfl rfl (fun z => ?_) (fun z => ?_) | refine e_if_neN (tgt := 149) rfl rfl (by omega) (fun z => ?_) (fun z => ?_) | refine e_if_ne (tgt := 149) rfl rfl (fun z => ?_) (fun z => ?_)
          · exact kk I1 g1 M1
          · exact absurd (by assumption) k1
        | inr s3 =>
          rw [ez] at M1 kk
          rw [bnd_r] at kk
          obtain ⟨L3, p3⟩ := nl_LI hX.2.2.2 hL hp ez
          exact ih s3 I1 L3 p3 (hX.fl g1) M1 (fun I2 g2 M2 => kk I2 (g1.tr g2) M2)
/-- reads: what is told at the first -/
theorem mzero_loop (hM : MK K) {y : Int32} {I0 : IM} : ∀ k i I, i + k = 8 → (∀ c x, ¬ (c = 104 ∧ 8 ≤ x) → I c x = I0 c x) → (∀ x, x < i → I 104 (8 + x) = if x = 4 then nI 20 else nI 0) → (∀ I', (∀ c x, ¬ (c = 104 ∧ 8 ≤ x) → I' c x = I0 c x) → (∀ x, x < 8 → I' 104 (8 + x) = if x = 4 then nI 20 else nI 0) → ∀ v, Gw l G (d + 1) m10_text 75 [.ref 102, .int y, .int v] [] (I', J, K) Q) → Gw l G (d + 1) m10_text 47 [.ref 102, .int y, .int (nI i)] [] (I, J, K) Q := by
  intro k
  induction k with
  | zero =>
    intro i I hi g1 g2 kk
    obtain rfl : i = 8 := by omega
    refine e_iload_n rfl rfl ?_
    refine e_bipush (v := nI 8) rfl bp_8N ?_
    first | refine e_icmp_geN (tgt := 75) rfl rfl (by omega) (by omega) (fun z => ?_) (fun z => ?_) | refine e_icmp_ge (tgt := 75) rfl rfl (fun z => ?_) (fun z => ?_)
    · exact kk I g1 g2 _
    · omega
  | succ k ih =>
    intro i I hi g1 g2 kk
    have tail : ∀ v, (if i = 4 then nI 20 else nI 0) = v → Gw l G (d + 1) m10_text 66 [.ref 102, .int y, .int (nI i)] [.int v, .int (nI i), .ref 102] (I, J, K) Q := by
      intro v ev
      refine e_callV (kd := 10) (M2 := m10_reads) rfl v10_242 ok10_reads (c10_reads (k := i) hM (by omega) _) rfl hM.k rfl rfl rfl rfl (fun r1 h1 q1 => ?_)
      obtain ⟨rfl, rfl⟩ := q1
      first | refine e_inc2 rfl rfl rfl (incN1 _) ?_ | refine e_inc2 rfl rfl rfl rfl ?_
      refine e_goto (tgt := 47) rfl rfl ?_
      refine ih (i + 1) _ (by omega) (fun c x q => (if_neg (by omega)).trans (g1 c x q)) (fun x hx => ?_) kk
      by_cases c : x = i
      · rw [c, u2_at]; exact ev.symm
      · rw [u2_nk _ _ (by omega)]; exact g2 x (by omega)
    refine e_iload_n rfl rfl ?_
    refine e_bipush (v := nI 8) rfl bp_8N ?_
    first | refine e_icmp_geN (tgt := 75) rfl rfl (by omega) (by omega) (fun z => ?_) (fun z => ?_) | refine e_icmp_ge (tgt := 75) rfl rfl (fun z => ?_) (fun z => ?_)
    · omega
    · refine e_aload_n rfl rfl ?_
      refine e_iload_n rfl rfl ?_
      refine e_iload_n rfl rfl ?_
      refine e_iconst (v := nI 4) rfl ic_4N ?_
      first | refine e_icmp_neN (tgt := 65) rfl rfl (by omega) (by omega) (fun z => ?_) (fun z => ?_) | refine e_icmp_ne (tgt := 65) rfl rfl (fun z => ?_) (fun z => ?_)
      · refine e_iconst (v := nI 0) rfl ic_0N ?_
        exact tail _ (if_neg (by omega))
      · refine e_bipush (v := nI 20) rfl bp_20N ?_
        refine e_goto (tgt := 66) rfl rfl ?_
        exact tail _ (if_pos (by omega))
theorem mzero_loop2 (hM : MK K) {y : Int32} {I0 : IM} : ∀ k i I, i + k = 3 → (∀ c x, ¬ ((c = 118 ∨ c = 119) ∧ 3 ≤ x) → I c x = I0 c x) → (∀ x, x < i → I 118 (3 + x) = nI 0 ∧ I 119 (3 + x) = nI 0) → (∀ I', (∀ c x, ¬ ((c = 118 ∨ c = 119) ∧ 3 ≤ x) → I' c x = I0 c x) → (∀ x, x < 3 → I' 118 (3 + x) = nI 0 ∧ I' 119 (3 + x) = nI 0) → ∀ v, Gw l G (d + 1) m10_text 103 [.ref 102, .int y, .int v] [] (I', J, K) Q) → Gw l G (d + 1) m10_text 77 [.ref 102, .int y, .int (nI (3 + i))] [] (I, J, K) Q := by
  intro k
  induction k with
  | zero =>
    intro i I hi g1 g2 kk
    obtain rfl : i = 3 := by omega
    refine e_iload_n rfl rfl ?_
    refine e_bipush (v := nI 6) rfl bp_6N ?_
    first | refine e_icmp_geN (tgt := 103) rfl rfl (by omega) (by omega) (fun z => ?_) (fun z => ?_) | refine e_icmp_ge (tgt := 103) rfl rfl (fun z => ?_) (fun z => ?_)
    · exact kk I g1 g2 _
    · omega
  | succ k ih =>
    intro i I hi g1 g2 kk
    refine e_iload_n rfl rfl ?_
    refine e_bipush (v := nI 6) rfl bp_6N ?_
    first | refine e_icmp_geN (tgt := 103) rfl rfl (by omega) (by omega) (fun z => ?_) (fun z => ?_) | refine e_icmp_ge (tgt := 103) rfl rfl (fun z => ?_) (fun z => ?_)
    · omega
    · refine e_aload_n rfl rfl ?_
      refine e_getP rfl f10_55 hM.k rfl hM.p17 ?_
      refine e_iload_n rfl rfl ?_
      refine e_iconst (v := nI 0) rfl ic_0N ?_
      first | refine e_iastoreN rfl hM.a17 (by omega) (by omega) ?_ | (refine e_iastore rfl hM.a17 ?_ ?_; rotate_left)
      refine e_aload_n rfl rfl ?_
      refine e_getP rfl f10_58 hM.k rfl hM.p18 ?_
      refine e_iload_n rfl rfl ?_
      refine e_iconst (v := nI 0) rfl ic_0N ?_
      first | refine e_iastoreN rfl hM.a18 (by omega) (by omega) ?_ | (refine e_iastore rfl hM.a18 ?_ ?_; rotate_left)
      first | refine e_inc2 rfl rfl rfl (incN1 _) ?_ | refine e_inc2 rfl rfl rfl rfl ?_
      refine e_goto (tgt := 77) rfl rfl ?_
      refine ih (i + 1) _ (by omega) (fun c x q => ((if_neg (by omega)).trans (if_neg (by omega))).trans (g1 c x q)) (fun x hx => ?_) kk
      by_cases c : x = i
      · rw [c, u2_ne _ _ (by omega), u2_at, u2_at]; exact ⟨rfl, rfl⟩
      · rw [u2_ne _ _ (by omega), u2_nk _ _ (by omega), u2_nk _ _ (by omega), u2_ne _ _ (by omega)]; exact g2 x (by omega)
end MText3
