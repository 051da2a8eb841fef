/-! ===== the reference: which count; which, dented ===== -/
theorem cntd_hi {T : SM} : ∀ i b k j, i ≤ j → j < 32 → bitOf (cntd T i b k) (nI j) = bitOf b (nI j)
  | 0, _, _, _, _, _ => rfl
  | i + 1, b, k, j, h, hj => by
    rw [cntd]
    split
    · exact cntd_hi i b k j (by omega) hj
    · split
      · rw [cntd_hi i _ _ j (by omega) hj, bit_or _ (by omega) hj, decide_eq_false (by omega), Bool.or_false]
      · rw [cntd_hi i _ _ j (by omega) hj, bit_or _ (by omega) hj, decide_eq_false (by omega), Bool.or_false]
theorem mbF_cut {T : SM} {c wt sd : Int32} : ∀ k k' i, (∀ j, i + k ≤ j → j < i + k + k' → bitOf c (nI j) = false) → mbF T c wt sd i (k + k') = mbF T c wt sd i k
  | 0, 0, _, _ => rfl
  | 0, k' + 1, i, h => by
    have := mbF_cut (T := T) (c := c) (wt := wt) (sd := sd) 0 k' (i + 1) (fun j a b => h j (by omega) (by omega))
    rw [Nat.zero_add] at this
    rw [Nat.zero_add, mbF, mbF, if_neg (fun q => absurd q.1 (by rw [h i (by omega) (by omega)]; decide)), this]
    rfl
  | k + 1, k', i, h => by
    rw [show k + 1 + k' = (k + k') + 1 by omega, mbF, mbF, mbF_cut k k' (i + 1) (fun j a b => h j (by omega) (by omega))]
theorem ssF_cut {T : SM} {c day : Int32} {n : Nat} {st : Nat → Int32} : ∀ k k' i, (∀ j, i + k ≤ j → j < i + k + k' → bitOf c (nI j) = false) → ssF T c day n st i (k + k') = ssF T c day n st i k
  | 0, 0, _, _ => rfl
  | 0, k' + 1, i, h => by
    have := ssF_cut (T := T) (c := c) (day := day) (n := n) (st := st) 0 k' (i + 1) (fun j a b => h j (by omega) (by omega))
    rw [Nat.zero_add] at this
    rw [Nat.zero_add, ssF, ssF, if_neg (fun q => absurd q.1 (by rw [h i (by omega) (by omega)]; decide)), this]
    rfl
  | k + 1, k', i, h => by
    rw [show k + 1 + k' = (k + k') + 1 by omega, ssF, ssF, ssF_cut k k' (i + 1) (fun j a b => h j (by omega) (by omega))]
theorem lsF_cut {T : SM} {c : Int32} : ∀ k k' i v, (∀ j, i + k ≤ j → j < i + k + k' → bitOf c (nI j) = false) → lsF T c i (k + k') v = lsF T c i k v
  | 0, 0, _, _, _ => rfl
  | 0, k' + 1, i, v, h => by
    have := lsF_cut (T := T) (c := c) 0 k' (i + 1) v (fun j a b => h j (by omega) (by omega))
    rw [Nat.zero_add] at this
    rw [Nat.zero_add, lsF, lsF, if_neg (fun q => absurd q.1 (by rw [h i (by omega) (by omega)]; decide)), this]
    rfl
  | k + 1, k', i, v, h => by
    rw [show k + 1 + k' = (k + k') + 1 by omega, lsF, lsF, lsF_cut k k' (i + 1) _ (fun j a b => h j (by omega) (by omega))]
section MTold3
variable {l : Launch} {G : GG} {d : Nat} {I : IM} {J : JM} {K : Kt} {Q : Option Value → Hp → Prop} {P : Pl} {S : SM} {im : Bool} {SI : SM} {m : Nat} {T : SM} {kn : Int32} {u : Nat} {Hs : Nat → SM} {B n : Nat}
/-- those that count, as bits and as the reference keeps them -/
def ctd (T : SM) (kn : Int32) (m : Nat) : Int32 := cntd T (kwn kn m) (nI 0) (nI 0)
def OT (I : IM) (T : SM) (kn : Int32) (m : Nat) : Prop := ∀ j, j < kwn kn m → I 144 j = bI (!bitOf (ctd T kn m) (nI j))
theorem ctd_hi (hwT : wfT n m T kn) {j : Nat} (h : kwn kn m ≤ j) (hj : j < m) : bitOf (ctd T kn m) (nI j) = false := by
  have hm := hwT.2.2.2.2.2
  unfold ctd
  rw [cntd_hi _ _ _ _ h (by omega), bit_0 (by omega)]
theorem mb_k (hwT : wfT n m T kn) (wt sd : Int32) : mbF T (ctd T kn m) wt sd 0 (kwn kn m) = mbF T (ctd T kn m) wt sd 0 m := by
  have hk := (hmk_kwn hwT).2
  have := mbF_cut (T := T) (c := ctd T kn m) (wt := wt) (sd := sd) (kwn kn m) (m - kwn kn m) 0 (fun j a b => ctd_hi hwT (by omega) (by omega))
  rw [show kwn kn m + (m - kwn kn m) = m by omega] at this
  exact this.symm
theorem ss_k (hwT : wfT n m T kn) (day : Int32) (st : Nat → Int32) : ssF T (ctd T kn m) day n st 0 (kwn kn m) = ssF T (ctd T kn m) day n st 0 m := by
  have hk := (hmk_kwn hwT).2
  have := ssF_cut (T := T) (c := ctd T kn m) (day := day) (n := n) (st := st) (kwn kn m) (m - kwn kn m) 0 (fun j a b => ctd_hi hwT (by omega) (by omega))
  rw [show kwn kn m + (m - kwn kn m) = m by omega] at this
  exact this.symm
theorem ls_k (hwT : wfT n m T kn) (v : Int32) : lsF T (ctd T kn m) 0 (kwn kn m) v = lsF T (ctd T kn m) 0 m v := by
  have hk := (hmk_kwn hwT).2
  have := lsF_cut (T := T) (c := ctd T kn m) (kwn kn m) (m - kwn kn m) 0 v (fun j a b => ctd_hi hwT (by omega) (by omega))
  rw [show kwn kn m + (m - kwn kn m) = m by omega] at this
  exact this.symm
theorem c10_kM (hM : MK K) (hT : MT I m T kn) (hwT : wfT n m T kn) : Cp l G d m10_knownMany [.ref 102] (I, J, K) (.int (nI (kwn kn m))) := by
  have := c10_knownMany (l := l) (G := G) (d := d) (J := J) hM hT.1 hT.2.2.1
  rw [← hmk_k hwT.2.2.2.1 hT.2.1, (hmk_kwn hwT).1] at this
  exact this
theorem MT.fr {I I' : IM} (h : MT I m T kn) (hf : ∀ c, c ≠ 144 → I' c = I c) : MT I' m T kn := by
  obtain ⟨h1, h2, h3, h4⟩ := h
  refine ⟨by rw [hf 102 (by omega)]; exact h1, h2, by rw [hf 102 (by omega)]; exact h3, fun i hi => ?_⟩
  rw [hf 140 (by omega), hf 141 (by omega), hf 142 (by omega), hf 143 (by omega)]
  exact h4 i hi
theorem mclr_loop (hM : MK K) {I0 : IM} (hT : MT I0 m T kn) (hwT : wfT n m T kn) : ∀ k i I, i + k = kwn kn m → (∀ c, c ≠ 144 → I c = I0 c) → (∀ j, j < i → I 144 j = nI 0) → (∀ I', (∀ c, c ≠ 144 → I' c = I0 c) → (∀ j, j < kwn kn m → I' 144 j = nI 0) → ∀ v, Gw l G (d + 1) m10_strikes 23 [.ref 102, v] [] (I', J, K) Q) → Gw l G (d + 1) m10_strikes 2 [.ref 102, .int (nI i)] [] (I, J, K) Q := by
  have hk := (hmk_kwn hwT).2
  have hm := hT.2.1
  intro k
  induction k with
  | zero =>
    intro i I hi g h0 kk
    refine e_iload_n rfl rfl ?_
    refine e_aload_n rfl rfl ?_
    refine e_callVp (kd := 10) (M2 := m10_knownMany) rfl v10_464 ok10_knownMany (c10_kM (d := d) hM (hT.fr g) hwT) rfl hM.k rfl rfl rfl rfl ?_
    first | refine e_icmp_geN (tgt := 23) rfl rfl (by omega) (by omega) (fun z => ?_) (fun z => ?_) | refine e_icmp_ge (tgt := 23) rfl rfl (fun z => ?_) (fun z => ?_)
    · exact kk I g (fun j hj => h0 j (by omega)) _
    · omega
  | succ k ih =>
    intro i I hi g h0 kk
    refine e_iload_n rfl rfl ?_
    refine e_aload_n rfl rfl ?_
    refine e_callVp (kd := 10) (M2 := m10_knownMany) rfl v10_464 ok10_knownMany (c10_kM (d := d) hM (hT.fr g) hwT) rfl hM.k rfl rfl rfl rfl ?_
    first | refine e_icmp_geN (tgt := 23) rfl rfl (by omega) (by omega) (fun z => ?_) (fun z => ?_) | refine e_icmp_ge (tgt := 23) rfl rfl (fun z => ?_) (fun z => ?_)
    · omega
    · refine e_aload_n rfl rfl ?_
      refine e_getP rfl f10_145 hM.k rfl hM.p65 ?_
      refine e_iload_n rfl rfl ?_
      refine e_iconst (v := nI 0) rfl ic_0N ?_
      first | refine e_zastoreN rfl hM.a65 (by omega) (by omega) ?_ | (refine e_zastore rfl hM.a65 ?_ ?_; rotate_left)
      first | refine e_inc1 rfl rfl rfl (incN1 _) ?_ | refine e_inc1 rfl rfl rfl rfl ?_
      refine e_goto (tgt := 2) rfl rfl ?_
      refine ih (i + 1) _ (by omega) (fun c hc => (u2_row _ _ hc).trans (g c hc)) (fun j hj => ?_) kk
      by_cases c : j = i
      · subst c
        rw [u2_at]
        exact nar_b false
      · rw [u2_nk _ _ c]
        exact h0 j (by omega)
theorem mout_loop (hM : MK K) {I0 : IM} (hT : MT I0 m T kn) (hwT : wfT n m T kn) {N : Nat} (hN : N ≤ m) : ∀ i b k I, i ≤ N → (∀ c, c ≠ 144 → I c = I0 c) → (∀ j, j < N → I 144 j = bI (bitOf k (nI j))) → (∀ j, i ≤ j → j < N → bitOf b (nI j) = !bitOf k (nI j)) → (∀ j, j < i → bitOf b (nI j) = false) → (∀ I', (∀ c, c ≠ 144 → I' c = I0 c) → (∀ j, j < N → I' 144 j = bI (!bitOf (cntd T i b k) (nI j))) → Q none (I', J, K)) → Gw l G (d + 1) m10_strikes 30 [.ref 102, .int (nI i - nI 1)] [] (I, J, K) Q := by
  have hm := hT.2.1
  intro i
  induction i with
  | zero =>
    intro b k I hi g hO hb hb0 kk
    refine e_iload_n rfl rfl ?_
    refine e_if_lt (tgt := 71) rfl rfl (fun z => ?_) (fun z => absurd (show nI 0 - nI 1 < 0 by decide) z)
    refine e_return rfl rfl ?_
    refine kk I g (fun j hj => ?_)
    rw [hO j hj, cntd, hb j (by omega) hj, Bool.not_not]
  | succ i ih =>
    intro b k I hi g hO hb hb0 kk
    rw [pk_sub (by omega), show i + 1 - 1 = i by omega]
    obtain ⟨t0, t1, -, -⟩ := (hT.fr g).2.2.2 i (by omega)
    refine e_iload_n rfl rfl ?_
    first | refine e_if_ltN (tgt := 71) rfl rfl (by omega) ?_ | refine e_if_lt (tgt := 71) rfl rfl (fun z => ?_) (fun z => ?_)
    refine e_aload_n rfl rfl ?_
    refine e_getP rfl f10_145 hM.k rfl hM.p65 ?_
    refine e_iload_n rfl rfl ?_
    first | refine e_zaloadN rfl hM.a65 (by omega) (by omega) ?_ | (refine e_zaload rfl hM.a65 ?_ ?_; rotate_left)
    rw [hO i (by omega)]
    refine e_if_neB (tgt := 65) rfl rfl (fun z => ?_) (fun z => ?_)
    · first | refine e_inc1 rfl rfl rfl (decN1 (by omega)) ?_ | refine e_inc1 rfl rfl rfl rfl ?_
      refine e_goto (tgt := 30) rfl rfl ?_
      rw [decM]
      refine ih b k I (by omega) g hO (fun j a e => ?_) (fun j a => hb0 j (by omega)) (fun I1 g1 h1 => kk I1 g1 (fun j hj => ?_))
      · by_cases c : j = i
        · subst c; rw [hb0 j (by omega), z]; rfl
        · exact hb j (by omega) e
      · rw [h1 j hj, cntd, if_pos z]
    · have kk2 : ∀ k', cntd T (i + 1) b k = cntd T i (b ||| nI 1 <<< (nI i &&& 31)) k' → ∀ I', (∀ c, c ≠ 144 → I' c = I0 c) → (∀ j, j < N → I' 144 j = bI (bitOf k' (nI j))) → (∀ j, i ≤ j → j < 32 → bitOf k' (nI j) = bitOf k (nI j)) → Gw l G (d + 1) m10_strikes 30 [.ref 102, .int (nI i - nI 1)] [] (I', J, K) Q := by
        intro k' ec I1 g1 h1 hk
        refine ih (b ||| nI 1 <<< (nI i &&& 31)) k' I1 (by omega) g1 h1 (fun j a e => ?_) (fun j a => ?_) (fun I2 g2 h2 => kk I2 g2 (fun j hj => ?_))
        · rw [bit_or _ (by omega) (by omega), hk j a (by omega)]
          by_cases c : j = i
          · subst c; rw [z, decide_eq_true rfl, Bool.or_true]; rfl
          · rw [decide_eq_false (by omega), Bool.or_false]; exact hb j (by omega) e
        · rw [bit_or _ (by omega) (by omega), decide_eq_false (by omega), Bool.or_false]
          exact hb0 j (by omega)
        · rw [h2 j hj, ec]
      refine e_aload_n rfl rfl ?_
      refine e_getP rfl f10_132 hM.k rfl hM.p61 ?_
      refine e_iload_n rfl rfl ?_
      first | refine e_ialoadN rfl hM.a61 (by omega) (by omega) ?_ | (refine e_iaload rfl hM.a61 ?_ ?_; rotate_left)
      rw [t0]
      refine e_iconst (v := nI 3) rfl ic_3N ?_
      refine e_icmp_ne (tgt := 65) rfl rfl (fun y => ?_) (fun y => ?_)
      · first | refine e_inc1 rfl rfl rfl (decN1 (by omega)) ?_ | refine e_inc1 rfl rfl rfl rfl ?_
        refine e_goto (tgt := 30) rfl rfl ?_
        rw [decM]
        exact kk2 k (by rw [cntd, if_neg (by rw [z]; decide), if_neg y]) I g hO (fun _ _ _ => rfl)
      · obtain ⟨q, hq, eq⟩ := hwT.2.2.1 i (by omega) y
        refine e_aload_n rfl rfl ?_
        refine e_getP rfl f10_145 hM.k rfl hM.p65 ?_
        refine e_aload_n rfl rfl ?_
        refine e_getP rfl f10_135 hM.k rfl hM.p62 ?_
        refine e_iload_n rfl rfl ?_
        first | refine e_ialoadN rfl hM.a62 (by omega) (by omega) ?_ | (refine e_iaload rfl hM.a62 ?_ ?_; rotate_left)
        rw [t1, eq]
        refine e_iconst (v := nI 1) rfl ic_1N ?_
        first | refine e_zastoreN rfl hM.a65 (by omega) (by omega) ?_ | (refine e_zastore rfl hM.a65 ?_ ?_; rotate_left)
        first | refine e_inc1 rfl rfl rfl (decN1 (by omega)) ?_ | refine e_inc1 rfl rfl rfl rfl ?_
        refine e_goto (tgt := 30) rfl rfl ?_
        rw [show nI (i - 1) = nI i - nI 1 from (pk_sub (by omega)).symm]
        refine kk2 (k ||| nI 1 <<< (nI q &&& 31)) (by rw [cntd, if_neg (by rw [z]; decide), if_pos y, eq]) _ (fun c hc => (u2_row _ _ hc).trans (g c hc)) (fun j hj => ?_) (fun j a b => ?_)
        · rw [bit_or _ (by omega) (by omega)]
          by_cases c : j = q
          · subst c
            rw [u2_at, decide_eq_true rfl, Bool.or_true]
            exact nar_b true
          · rw [u2_nk _ _ c, decide_eq_false (by omega), Bool.or_false]
            exact hO j hj
        · rw [bit_or _ (by omega) (by omega), decide_eq_false (by omega), Bool.or_false]
theorem c10_strikes (hM : MK K) (hT : MT I m T kn) (hwT : wfT n m T kn) : Cw l G (d + 1) m10_strikes [.ref 102] (I, J, K) (fun r h' => r = none ∧ ∃ I', h' = (I', J, K) ∧ (∀ c, c ≠ 144 → I' c = I c) ∧ OT I' T kn m) := by
  have hk := (hmk_kwn hwT).2
  have hm := hT.2.1
  refine Cw.of ok10_strikes rfl (rfl : argL _ _ = [.ref 102, .null]) ?_
  refine e_iconst (v := nI 0) rfl ic_0N ?_
  refine e_ist1 rfl rfl rfl ?_
  refine mclr_loop (I0 := I) hM hT hwT (kwn kn m) 0 I (by omega) (fun _ _ => rfl) (fun j hj => absurd hj (by omega)) (fun I1 g1 h1 v => ?_)
  refine e_aload_n rfl rfl ?_
  refine e_callVp (kd := 10) (M2 := m10_knownMany) rfl v10_464 ok10_knownMany (c10_kM (d := d) hM (hT.fr g1) hwT) rfl hM.k rfl rfl rfl rfl ?_
  refine e_iconst (v := nI 1) rfl ic_1N ?_
  refine e_isub rfl ?_
  refine e_ist1 rfl rfl rfl ?_
  refine mout_loop (I0 := I) hM hT hwT hk (kwn kn m) (nI 0) (nI 0) I1 (by omega) g1 (fun j hj => ?_) (fun j a b => absurd b (by omega)) (fun j hj => bit_0 (by omega)) (fun I2 g2 h2 => ⟨rfl, I2, rfl, g2, h2⟩)
  rw [h1 j hj, bit_0 (by omega)]
  rfl
theorem mnot_loop (hM : MK K) (hT : MT I m T kn) (hwT : wfT n m T kn) (hB : wfB m T) (hP : MP I P) (h6 : P.1 0 ≤ 6) (hO : OT I T kn m) {k : Nat} (hk : k < P.1 0) : ∀ r i v, i + r = kwn kn m → Q (some (.int (bI (mbF T (ctd T kn m) (P.2 1 k) (P.2 2 k) i r)))) (I, J, K) → Gw l G (d + 1) m10_isNoted 2 [.ref 102, .int (nI k), .int (nI i), v] [] (I, J, K) Q := by
  have hkm := (hmk_kwn hwT).2
  have hm := hT.2.1
  obtain ⟨-, q1, q2⟩ := hP.2.1 k hk
  intro r
  induction r with
  | zero =>
    intro i v hi hq
    refine e_iload_n rfl rfl ?_
    refine e_aload_n rfl rfl ?_
    refine e_callVp (kd := 10) (M2 := m10_knownMany) rfl v10_464 ok10_knownMany (c10_kM (d := d) hM hT hwT) rfl hM.k rfl rfl rfl rfl ?_
    first | refine e_icmp_geN (tgt := 89) rfl rfl (by omega) (by omega) (fun z => ?_) (fun z => ?_) | refine e_icmp_ge (tgt := 89) rfl rfl (fun z => ?_) (fun z => ?_)
    · refine e_iconst (v := nI 1) rfl ic_1N ?_
      refine e_zreturn rfl rfl ?_ ?_
      · exact Or.inr rfl
      · exact hq
    · omega
  | succ r ih =>
    intro i v hi hq
    obtain ⟨e0, e1, -, e3⟩ := hT.2.2.2 i (by omega)
    obtain ⟨b, hb3⟩ := hB i (by omega)
    have skip : mbF T (ctd T kn m) (P.2 1 k) (P.2 2 k) i (r + 1) = mbF T (ctd T kn m) (P.2 1 k) (P.2 2 k) (i + 1) r → ∀ v, Gw l G (d + 1) m10_isNoted 83 [.ref 102, .int (nI k), .int (nI i), v] [] (I, J, K) Q := by
      intro e v
      rw [e] at hq
      first | refine e_inc2 rfl rfl rfl (incN1 _) ?_ | refine e_inc2 rfl rfl rfl rfl ?_
      refine e_goto (tgt := 2) rfl rfl ?_
      exact ih (i + 1) _ (by omega) hq
    have tail : ∀ wt, (T 0 i = 0 ∨ T 0 i = nI 1) → (if T 0 i = 0 then P.2 1 k else P.2 2 k) = wt → bitOf (ctd T kn m) (nI i) = true → ∀ v, Gw l G (d + 1) m10_isNoted 56 [.ref 102, .int (nI k), .int (nI i), v] [.int wt] (I, J, K) Q := by
      intro wt h01 hwt hb v
      have e3' := (e3 (by rcases h01 with q | q <;> rw [q] <;> decide)).trans hb3
      have fin : ∀ (q : Bool), (q = true ↔ T 1 i ≤ wt) → ∀ v, Gw l G (d + 1) m10_isNoted 72 [.ref 102, .int (nI k), .int (nI i), v] [.int (bI q)] (I, J, K) Q := by
        intro q hqq v
        refine e_aload_n rfl rfl ?_
        refine e_getP rfl f10_141 hM.k rfl hM.p64 ?_
        refine e_iload_n rfl rfl ?_
        first | refine e_zaloadN rfl hM.a64 (by omega) (by omega) ?_ | (refine e_zaload rfl hM.a64 ?_ ?_; rotate_left)
        rw [e3']
        refine e_icmp_eq (tgt := 83) rfl rfl (fun z => ?_) (fun z => ?_)
        · have e : q = b := bI_in z
          refine skip ?_ _
          rw [mbF, if_neg]
          rintro ⟨-, -, y⟩
          exact y (by rw [hwt, hb3, bI_1, ← e]; exact hqq.symm)
        · have e : ¬ q = b := fun e => z (by rw [e])
          rw [mbF, if_pos ⟨hb, h01, fun y => e (Bool.eq_iff_iff.mpr (by rw [hwt, hb3, bI_1] at y; exact hqq.trans y))⟩] at hq
          refine e_iconst (v := nI 0) rfl ic_0N ?_
          refine e_zreturn rfl rfl ?_ ?_
          · exact Or.inl rfl
          · exact hq
      refine e_ist3 rfl rfl rfl ?_
      refine e_iload_n rfl rfl ?_
      refine e_aload_n rfl rfl ?_
      refine e_getP rfl f10_135 hM.k rfl hM.p62 ?_
      refine e_iload_n rfl rfl ?_
      first | refine e_ialoadN rfl hM.a62 (by omega) (by omega) ?_ | (refine e_iaload rfl hM.a62 ?_ ?_; rotate_left)
      rw [e1]
      refine e_icmp_lt (tgt := 71) rfl rfl (fun z => ?_) (fun z => ?_)
      · refine e_iconst (v := nI 0) rfl ic_0N ?_
        exact fin false ⟨fun q => absurd q (by decide), fun q => absurd z (Int32.not_lt.mpr q)⟩ _
      · refine e_iconst (v := nI 1) rfl ic_1N ?_
        refine e_goto (tgt := 72) rfl rfl ?_
        exact fin true ⟨fun _ => Int32.not_lt.mp z, fun _ => rfl⟩ _
    refine e_iload_n rfl rfl ?_
    refine e_aload_n rfl rfl ?_
    refine e_callVp (kd := 10) (M2 := m10_knownMany) rfl v10_464 ok10_knownMany (c10_kM (d := d) hM hT hwT) rfl hM.k rfl rfl rfl rfl ?_
    first | refine e_icmp_geN (tgt := 89) rfl rfl (by omega) (by omega) (fun z => ?_) (fun z => ?_) | refine e_icmp_ge (tgt := 89) rfl rfl (fun z => ?_) (fun z => ?_)
    · omega
    · refine e_aload_n rfl rfl ?_
      refine e_getP rfl f10_145 hM.k rfl hM.p65 ?_
      refine e_iload_n rfl rfl ?_
      first | refine e_zaloadN rfl hM.a65 (by omega) (by omega) ?_ | (refine e_zaload rfl hM.a65 ?_ ?_; rotate_left)
      rw [hO i (by omega)]
      refine e_if_neB (tgt := 83) rfl rfl (fun z => ?_) (fun z => ?_)
      · have z' : bitOf (ctd T kn m) (nI i) = false := by revert z; cases bitOf (ctd T kn m) (nI i) <;> decide
        exact skip (by rw [mbF, if_neg (fun q => absurd q.1 (by rw [z']; decide))]) _
      · have z' : bitOf (ctd T kn m) (nI i) = true := by revert z; cases bitOf (ctd T kn m) (nI i) <;> decide
        have hi3 : T 0 i = nI 0 ∨ T 0 i = nI 1 ∨ T 0 i = nI 2 ∨ T 0 i = nI 3 := hwT.2.2.2.2.1 i (by omega)
        refine e_aload_n rfl rfl ?_
        refine e_getP rfl f10_132 hM.k rfl hM.p61 ?_
        refine e_iload_n rfl rfl ?_
        first | refine e_ialoadN rfl hM.a61 (by omega) (by omega) ?_ | (refine e_iaload rfl hM.a61 ?_ ?_; rotate_left)
        rcases hi3 with e | e | e | e
        · rw [e0.trans e]
          refine e_iconst (v := nI 1) rfl ic_1N ?_
          first | refine e_icmp_leN (tgt := 32) rfl rfl (by omega) (by omega) (fun z => ?_) (fun z => ?_) | refine e_icmp_le (tgt := 32) rfl rfl (fun z => ?_) (fun z => ?_)
          · refine e_aload_n rfl rfl ?_
            refine e_getP rfl f10_132 hM.k rfl hM.p61 ?_
            refine e_iload_n rfl rfl ?_
            first | refine e_ialoadN rfl hM.a61 (by omega) (by omega) ?_ | (refine e_iaload rfl hM.a61 ?_ ?_; rotate_left)
            rw [e0.trans e]
            refine e_if_neN (tgt := 50) rfl rfl (by omega) (fun z => absurd rfl z) (fun z => ?_)
            refine e_aload_n rfl rfl ?_
            refine e_getP rfl f10_19 hM.k rfl hM.p5 ?_
            refine e_iload_n rfl rfl ?_
            first | refine e_ialoadN rfl hM.a5 (by omega) (by omega) ?_ | (refine e_iaload rfl hM.a5 ?_ ?_; rotate_left)
            rw [q1]
            refine e_goto (tgt := 56) rfl rfl ?_
            exact tail _ (Or.inl e) (if_pos e) z' _
          · omega
        · rw [e0.trans e]
          refine e_iconst (v := nI 1) rfl ic_1N ?_
          first | refine e_icmp_leN (tgt := 32) rfl rfl (by omega) (by omega) (fun z => ?_) (fun z => ?_) | refine e_icmp_le (tgt := 32) rfl rfl (fun z => ?_) (fun z => ?_)
          · refine e_aload_n rfl rfl ?_
            refine e_getP rfl f10_132 hM.k rfl hM.p61 ?_
            refine e_iload_n rfl rfl ?_
            first | refine e_ialoadN rfl hM.a61 (by omega) (by omega) ?_ | (refine e_iaload rfl hM.a61 ?_ ?_; rotate_left)
            rw [e0.trans e]
            refine e_if_neN (tgt := 50) rfl rfl (by omega) (fun z => ?_) (fun z => absurd z (by omega))
            refine e_aload_n rfl rfl ?_
            refine e_getP rfl f10_22 hM.k rfl hM.p6 ?_
            refine e_iload_n rfl rfl ?_
            first | refine e_ialoadN rfl hM.a6 (by omega) (by omega) ?_ | (refine e_iaload rfl hM.a6 ?_ ?_; rotate_left)
            rw [q2]
            exact tail _ (Or.inr e) (if_neg (by rw [e]; decide)) z' _
          · omega
        · rw [e0.trans e]
          refine e_iconst (v := nI 1) rfl ic_1N ?_
          first | refine e_icmp_leN (tgt := 32) rfl rfl (by omega) (by omega) (fun z => ?_) (fun z => ?_) | refine e_icmp_le (tgt := 32) rfl rfl (fun z => ?_) (fun z => ?_)
          · omega
          · refine e_goto (tgt := 83) rfl rfl ?_
            exact skip (by rw [mbF, if_neg (fun q => absurd q.2.1 (by rw [e]; decide))]) _
        · rw [e0.trans e]
          refine e_iconst (v := nI 1) rfl ic_1N ?_
          first | refine e_icmp_leN (tgt := 32) rfl rfl (by omega) (by omega) (fun z => ?_) (fun z => ?_) | refine e_icmp_le (tgt := 32) rfl rfl (fun z => ?_) (fun z => ?_)
          · omega
          · refine e_goto (tgt := 83) rfl rfl ?_
            exact skip (by rw [mbF, if_neg (fun q => absurd q.2.1 (by rw [e]; decide))]) _
theorem c10_isNoted (hM : MK K) (hT : MT I m T kn) (hwT : wfT n m T kn) (hB : wfB m T) (hP : MP I P) (h6 : P.1 0 ≤ 6) (hO : OT I T kn m) {k : Nat} (hk : k < P.1 0) : Cp l G (d + 1) m10_isNoted [.ref 102, .int (nI k)] (I, J, K) (.int (bI (kdF P m T kn k))) := by
  refine Cp.of ok10_isNoted rfl (rfl : argL _ _ = [.ref 102, .int (nI k), .null, .null]) ?_
  refine e_iconst (v := nI 0) rfl ic_0N ?_
  refine e_ist2 rfl rfl rfl ?_
  refine mnot_loop hM hT hwT hB hP h6 hO hk (kwn kn m) 0 _ (by omega) ?_
  rw [mb_k hwT]
  exact ⟨rfl, rfl⟩
theorem mwhich_loop (hM : MK K) (hT : MT I m T kn) (hwT : wfT n m T kn) (hB : wfB m T) (hP : MP I P) (h6 : P.1 0 ≤ 6) (hO : OT I T kn m) : ∀ k i b, i + k = P.1 0 → Q (some (.int (bitF (kdF P m T kn) i k b))) (I, J, K) → Gw l G (d + 2) m10_whichOnes 8 [.ref 102, .int b, .int (nI i)] [] (I, J, K) Q := by
  have e0 := hP.1.1
  intro k
  induction k with
  | zero =>
    intro i b hi hq
    refine e_iload_n rfl rfl ?_
    refine e_aload_n rfl rfl ?_
    refine e_getP rfl f10_13 hM.k rfl hM.p3 ?_
    refine e_iconst (v := nI 0) rfl ic_0N ?_
    first | refine e_ialoadN rfl hM.a3 (by omega) (by omega) ?_ | (refine e_iaload rfl hM.a3 ?_ ?_; rotate_left)
    rw [e0]
    first | refine e_icmp_geN (tgt := 42) rfl rfl (by omega) (by omega) (fun z => ?_) (fun z => ?_) | refine e_icmp_ge (tgt := 42) rfl rfl (fun z => ?_) (fun z => ?_)
    · refine e_iload_n rfl rfl ?_
      refine e_ireturn rfl rfl ?_
      exact hq
    · omega
  | succ k ih =>
    intro i b hi hq
    rw [bitF] at hq
    refine e_iload_n rfl rfl ?_
    refine e_aload_n rfl rfl ?_
    refine e_getP rfl f10_13 hM.k rfl hM.p3 ?_
    refine e_iconst (v := nI 0) rfl ic_0N ?_
    first | refine e_ialoadN rfl hM.a3 (by omega) (by omega) ?_ | (refine e_iaload rfl hM.a3 ?_ ?_; rotate_left)
    rw [e0]
    first | refine e_icmp_geN (tgt := 42) rfl rfl (by omega) (by omega) (fun z => ?_) (fun z => ?_) | refine e_icmp_ge (tgt := 42) rfl rfl (fun z => ?_) (fun z => ?_)
    · omega
    · refine e_iload_n rfl rfl ?_
      refine e_aload_n rfl rfl ?_
      refine e_iload_n rfl rfl ?_
      refine e_callVp (kd := 10) (M2 := m10_isNoted) rfl v10_470 ok10_isNoted (c10_isNoted (d := d) hM hT hwT hB hP h6 hO (by omega)) rfl hM.k rfl rfl rfl rfl ?_
      refine e_if_eqB (tgt := 33) rfl rfl (fun z => ?_) (fun z => ?_)
      · rw [if_neg (by rw [z]; decide)] at hq
        refine e_iconst (v := nI 0) rfl ic_0N ?_
        refine e_ior rfl ?_
        rw [or_0]
        refine e_ist1 rfl rfl rfl ?_
        first | refine e_inc2 rfl rfl rfl (incN1 _) ?_ | refine e_inc2 rfl rfl rfl rfl ?_
        refine e_goto (tgt := 8) rfl rfl ?_
        exact ih (i + 1) b (by omega) hq
      · rw [if_pos z] at hq
        refine e_iconst (v := nI 1) rfl ic_1N ?_
        refine e_iload_n rfl rfl ?_
        refine e_ishl rfl ?_
        refine e_goto (tgt := 34) rfl rfl ?_
        refine e_ior rfl ?_
        refine e_ist1 rfl rfl rfl ?_
        first | refine e_inc2 rfl rfl rfl (incN1 _) ?_ | refine e_inc2 rfl rfl rfl rfl ?_
        refine e_goto (tgt := 8) rfl rfl ?_
        exact ih (i + 1) _ (by omega) hq
theorem c10_whichOnes (hM : MK K) (hT : MT I m T kn) (hwT : wfT n m T kn) (hB : wfB m T) (hP : MP I P) (h6 : P.1 0 ≤ 6) : Cw l G (d + 2) m10_whichOnes [.ref 102] (I, J, K) (fun r h' => r = some (.int (a_which P m T kn)) ∧ ∃ I', h' = (I', J, K) ∧ ∀ c, c ≠ 144 → I' c = I c) := by
  refine Cw.of ok10_whichOnes rfl (rfl : argL _ _ = [.ref 102, .null, .null]) ?_
  refine e_aload_n rfl rfl ?_
  refine e_callV (kd := 10) (M2 := m10_strikes) rfl v10_467 ok10_strikes (c10_strikes (d := d) hM hT hwT) rfl hM.k rfl rfl rfl rfl (fun r1 h1 q1 => ?_)
  obtain ⟨rfl, I1, rfl, g1, O1⟩ := q1
  refine e_iconst (v := nI 0) rfl ic_0N ?_
  refine e_ist1 rfl rfl rfl ?_
  refine e_iconst (v := nI 0) rfl ic_0N ?_
  refine e_ist2 rfl rfl rfl ?_
  exact mwhich_loop hM (hT.fr g1) hwT hB (hP.frame (fun c a b => g1 c (by omega))) h6 O1 (P.1 0) 0 _ (by omega) ⟨rfl, I1, rfl, g1⟩
theorem FQm.o {I I' : IM} {J : JM} (g : ∀ c, c ≠ 144 → I' c = I c) : FQm I J I' J := ⟨fun c i _ _ _ _ _ h => by rw [g c h], fun _ _ _ => rfl⟩
theorem c10_which (hM : MK K) (hI : MI I P S im SI m T kn u Hs B) (hwT : wfT n m T kn) (hB : wfB m T) : Cw l G (d + 3) m10_which [.ref 102] (I, J, K) (fun r h' => r = some (.int (a_which P m T kn)) ∧ MPst I J K h' P S im SI m T kn u Hs (B + 2)) := by
  have g0 : FQm I J (u2 I 102 0 (nI 0)) J := FQm.w0
  have hI1 := hI.t0 J
  refine Cw.of ok10_which rfl (rfl : argL _ _ = [.ref 102]) ?_
  refine e_aload_n rfl rfl ?_
  refine e_iconst (v := nI 0) rfl ic_0N ?_
  refine e_putI rfl f10_151 hM.k rfl rfl ?_
  refine e_aload_n rfl rfl ?_
  refine e_callV (kd := 10) (M2 := m10_whichOnes) rfl v10_473 ok10_whichOnes (c10_whichOnes (d := d) hM hI1.2.2.2.2.2.1 hwT hB hI1.1 hI1.2.1.1.1.1) rfl hM.k rfl rfl rfl rfl (fun r1 h1 q1 => ?_)
  obtain ⟨rfl, I1, rfl, g1⟩ := q1
  refine e_ireturn rfl rfl ?_
  exact ⟨rfl, hI.fin (g0.tr (FQm.o g1))⟩
end MTold3
