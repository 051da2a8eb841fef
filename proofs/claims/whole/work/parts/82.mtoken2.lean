/-! ===== the reference: token ===== -/
section MToken2
variable {l : Launch} {G : GG} {d : Nat} {I : IM} {J : JM} {K : Kt} {h : Hp} {Q : Option Value → Hp → Prop} {f : Nat → Nat} {n a : Nat}
/-- a token has been read -/
def TKp (I I' : IM) (t : Nat × Int32 × Int32 × Nat) : Prop := (∀ c x, ¬ (c = 102 ∧ 24 ≤ x ∧ x ≤ 27) → I' c x = I c x) ∧ I' 102 24 = nI t.1 ∧ I' 102 25 = nI t.2.2.2 ∧ tkR t.2.1 t.2.2.1 (I' 102 26) (I' 102 27)
theorem c10_token (hM : MK K) (hn : n ≤ 700) (hsz : I 102 23 = nI n) (hat : I 102 24 = nI a) (ha : a ≤ n) (hf : ∀ j, j < n → I 103 j = nI (f j)) (h256 : ∀ j, f j < 256) (va : Int32) : Cw l G (d + 5) m10_token [.ref 102] (I, J, K) (fun r h' => r = none ∧ ∃ I', h' = (I', J, K) ∧ TKp I I' (advA f n a va)) := by
  unfold advA
  have hin := enF_in (b := isB) (f := f) (n - a) a
  refine Cw.of ok10_token rfl (rfl : argL _ _ = [.ref 102, .null]) ?_
  refine mblank_loop (I0 := I) hM hn hsz hf h256 (n - a) a I (by omega) (fun _ _ _ => rfl) hat (fun I1 g1 e1 v => ?_) _
  generalize enF isB f (n - a) a = p at hin e1
  refine e_aload_n rfl rfl ?_
  refine e_aload_n rfl rfl ?_
  refine e_getI rfl f10_157 hM.k rfl ?_
  rw [e1]
  have g2 : ∀ c x, ¬ (c = 102 ∧ (x = 24 ∨ x = 25)) → u2 I1 102 25 (nI p) c x = I c x := fun c x q => (if_neg (fun e => q ⟨e.1, Or.inr e.2⟩)).trans (g1 c x (fun e => q ⟨e.1, Or.inl e.2⟩))
  have a2 : u2 I1 102 25 (nI p) 102 24 = nI p := by rw [u2_nk _ _ (by omega)]; exact e1
  have p2 : u2 I1 102 25 (nI p) 102 25 = nI p := u2_at _ _ _ _
  refine e_putI rfl f10_167 hM.k rfl rfl ?_
  generalize u2 I1 102 25 (nI p) = I2 at g2 a2 p2
  have hf2 : ∀ j, j < n → I2 103 j = nI (f j) := fun j hj => by rw [g2 103 j (by omega)]; exact hf j hj
  have z2 : I2 102 23 = nI n := by rw [g2 102 23 (by omega)]; exact hsz
  have hr : Cp l G (d + 4) m10_here [.ref 102] (I2, J, K) (.int (hrF f n p)) := c10_here hM z2 a2 hn (by omega) hf2
  refine e_aload_n rfl rfl ?_
  refine e_callVp (kd := 10) (M2 := m10_here) rfl v10_163 ok10_here (hr) rfl hM.k rfl rfl rfl rfl ?_
  refine e_ist1 rfl rfl rfl ?_
  refine e_iload_n rfl rfl ?_
  refine e_iconst rfl ic_m1 ?_
  unfold tokA
  by_cases c0 : n ≤ p
  · rw [if_pos c0]
    have em : hrF f n p = -1 := if_neg (by omega)
    rw [em]
    refine e_icmp_ne (tgt := 57) rfl rfl (fun z => absurd rfl z) (fun _ => ?_)
    refine e_aload_n rfl rfl ?_
    refine e_iconst (v := nI 4) rfl ic_4N ?_
    refine e_putI rfl f10_170 hM.k rfl rfl ?_
    refine e_goto (tgt := 225) rfl rfl ?_
    refine e_return rfl rfl ?_
    refine ⟨rfl, _, rfl, fun c x q => (if_neg (by omega)).trans (g2 c x (by omega)), ?_, ?_, Or.inl ⟨rfl, u2_at _ _ _ _⟩⟩
    · rw [u2_nk _ _ (by omega)]; exact a2
    · rw [u2_nk _ _ (by omega)]; exact p2
  · rw [if_neg c0]
    have c1 : p < n := by omega
    have h5 := h256 p
    have em : hrF f n p = nI (f p) := if_pos c1
    refine e_icmp_ne (tgt := 57) rfl rfl (fun _ => ?_) (fun z => absurd (em.symm.trans z) (nI_m1 (by omega)))
    refine e_iload_n rfl rfl ?_
    refine e_callSp (M2 := m10_isSmall) rfl v10_173 ok10_isSmall (c10_isSmall _) rfl rfl rfl ?_
    rw [hr_L h256, decide_eq_true c1, Bool.true_and]
    refine e_if_eqB (tgt := 145) rfl rfl (fun zl => ?_) (fun zl => ?_)
    · rw [if_neg (by rw [zl]; decide)]
      refine e_iload_n rfl rfl ?_
      refine e_callSp (M2 := m10_isDigit) rfl v10_186 ok10_isDigit (c10_isDigit _) rfl rfl rfl ?_
      rw [hr_D h256, decide_eq_true c1, Bool.true_and]
      refine e_if_eqB (tgt := 220) rfl rfl (fun zd => ?_) (fun zd => ?_)
      · rw [if_neg (by rw [zd]; decide), em]
        refine e_aload_n rfl rfl ?_
        refine e_iload_n rfl rfl ?_
        refine e_callV (kd := 10) (M2 := m10_sign) rfl v10_190 ok10_sign (c10_sign (f := f) (n := n) (p := p) hM z2 hn c1 hf2 h256 a2) rfl hM.k rfl rfl rfl rfl (fun r1 h1 q1 => ?_)
        obtain ⟨rfl, I3, rfl, g3, s24, s26, s27⟩ := q1
        refine e_return rfl rfl ?_
        refine ⟨rfl, I3, rfl, fun c x q => (g3 c x (by omega)).trans (g2 c x (by omega)), s24, ?_, ?_⟩
        · rw [g3 102 25 (by omega)]; exact p2
        · rw [s26, s27]
          exact sg_tkR h5 va
      · rw [if_pos zd]
        refine e_aload_n rfl rfl ?_
        refine e_iconst (v := nI 2) rfl ic_2N ?_
        refine e_putI rfl f10_170 hM.k rfl rfl ?_
        refine e_aload_n rfl rfl ?_
        refine e_iconst (v := nI 0) rfl ic_0N ?_
        refine e_putI rfl f10_180 hM.k rfl rfl ?_
        refine mdig_loop (I0 := u2 I2 102 26 (nI 2)) hM hn (by rw [u2_nk _ _ (by omega)]; exact z2) (fun j hj => by rw [u2_ne _ _ (by omega)]; exact hf2 j hj) h256 (n - p) p 0 _ (by omega) (by omega) (fun c x q => if_neg (fun e => q ⟨e.1, Or.inr e.2⟩)) (by rw [u2_nk _ _ (by omega), u2_nk _ _ (by omega)]; exact a2) (u2_at _ _ _ _) (fun I3 g3 s24 s27 => ?_)
        refine e_return rfl rfl ?_
        refine ⟨rfl, I3, rfl, fun c x q => (g3 c x (by omega)).trans ((if_neg (by omega)).trans (g2 c x (by omega))), s24, ?_, ?_⟩
        · rw [g3 102 25 (by omega), u2_nk _ _ (by omega)]; exact p2
        · have hm := mdF_r (f := f) (n - p) p 0 0 (by omega) (by omega) (Or.inl rfl)
          refine Or.inr (Or.inr (Or.inr (Or.inl ⟨rfl, ?_, _, _, rfl, s27, hm.1, hm.2.1, hm.2.2⟩)))
          rw [g3 102 26 (by omega), u2_at]
    · rw [if_pos zl]
      refine mlet_loop (I0 := I2) hM hn z2 hf2 h256 (n - p) p I2 (by omega) (fun _ _ _ => rfl) a2 (fun I3 g3 s24 => ?_)
      have hin2 := enF_in (b := isL) (f := f) (n - p) p
      have hall := enF_all (b := isL) (f := f) (n - p) p
      generalize enF isL f (n - p) p = e at hin2 s24 hall
      have hf3 : ∀ j, j < n → I3 103 j = nI (f j) := fun j hj => by rw [g3 103 j (by omega)]; exact hf2 j hj
      have p3 : I3 102 25 = nI p := by rw [g3 102 25 (by omega)]; exact p2
      have hL : ∀ j, j < e - p → isL (f (p + j)) = true := fun j hj => hall (p + j) (by omega) (by omega)
      have fr : ∀ I4 : IM, (∀ c x, ¬ (c = 102 ∧ (x = 26 ∨ x = 27)) → I4 c x = I3 c x) → (∀ c x, ¬ (c = 102 ∧ 24 ≤ x ∧ x ≤ 27) → I4 c x = I c x) ∧ I4 102 24 = nI e ∧ I4 102 25 = nI p := fun I4 g4 => ⟨fun c x q => (g4 c x (by omega)).trans ((g3 c x (by omega)).trans (g2 c x (by omega))), by rw [g4 102 24 (by omega)]; exact s24, by rw [g4 102 25 (by omega)]; exact p3⟩
      refine e_aload_n rfl rfl ?_
      refine e_aload_n rfl rfl ?_
      refine e_callV (kd := 10) (M2 := m10_word) rfl v10_177 ok10_word (c10_word (d := d) (n := n) (p := p) (e := e) hM hn (by omega) (by omega) hf3 h256 s24 p3) rfl hM.k rfl rfl rfl rfl (fun r1 h1 q1 => ?_)
      obtain ⟨rfl, hw⟩ := q1
      rcases hw with ⟨q, hq, hw, rfl⟩ | ⟨hno, rfl⟩
      · have ew := hw.1
        have w3 := (w_st q hq).2.2.1
        have mq := mw_all q hq
        refine e_putI rfl f10_180 hM.k rfl rfl ?_
        refine e_aload_n rfl rfl ?_
        refine e_aload_n rfl rfl ?_
        refine e_getI rfl f10_180 hM.k rfl ?_
        rw [u2_at]
        refine e_iconst rfl ic_m1 ?_
        refine e_icmp_eq (tgt := 108) rfl rfl (fun z => absurd z (nI_m1 (by omega))) (fun _ => ?_)
        refine e_iconst (v := nI 0) rfl ic_0N ?_
        refine e_goto (tgt := 127) rfl rfl ?_
        refine e_putI rfl f10_170 hM.k rfl rfl ?_
        refine e_aload_n rfl rfl ?_
        refine e_getI rfl f10_170 hM.k rfl ?_
        rw [u2_at]
        refine e_iconst (v := nI 1) rfl ic_1N ?_
        first | refine e_icmp_neN (tgt := 225) rfl rfl (by omega) (by omega) (fun z => ?_) (fun z => ?_) | refine e_icmp_ne (tgt := 225) rfl rfl (fun z => ?_) (fun z => ?_)
        · refine e_return rfl rfl ?_
          obtain ⟨k1, k2, k3⟩ := fr (u2 (u2 I3 102 27 (nI q)) 102 26 (nI 0)) (fun c x y => (if_neg (fun e => y ⟨e.1, Or.inl e.2⟩)).trans (if_neg (fun e => y ⟨e.1, Or.inr e.2⟩)))
          refine ⟨rfl, _, rfl, k1, k2, k3, Or.inr (Or.inl ⟨mwG q, mq.2.2.1, ?_, u2_at _ _ _ _, by rw [u2_nk _ _ (by omega), u2_at, mq.2.2.2]⟩)⟩
          show (if 6 < e - p then -1 else wdT (pkV f p (min 6 (e - p))) 21 0) = _
          rw [if_neg (by omega), Nat.min_eq_right (by omega)]
          have hk := (isW_iff mq.2.2.1 (by omega) (by omega) hL).mp (by rw [mq.2.2.2]; exact hw)
          rcases wdT_is (v := pkV f p (e - p)) 21 0 with ⟨j, j1, j2, j3, j4⟩ | ⟨no, -⟩
          · rw [j4, wd_inj _ mq.2.2.1 j (by omega) (hk.trans j3.symm)]
          · exact absurd hk (no _ (by omega) (by omega))
        · omega
      · refine e_putI rfl f10_180 hM.k rfl rfl ?_
        refine e_aload_n rfl rfl ?_
        refine e_aload_n rfl rfl ?_
        refine e_getI rfl f10_180 hM.k rfl ?_
        rw [u2_at]
        refine e_iconst rfl ic_m1 ?_
        refine e_icmp_eq (tgt := 108) rfl rfl (fun _ => ?_) (fun z => absurd rfl z)
        refine e_aload_n rfl rfl ?_
        refine e_getI rfl f10_157 hM.k rfl ?_
        rw [u2_nk _ _ (by omega), s24]
        refine e_aload_n rfl rfl ?_
        refine e_getI rfl f10_167 hM.k rfl ?_
        rw [u2_nk _ _ (by omega), p3]
        first | refine e_isubN rfl (by omega) ?_ | refine e_isub rfl ?_
        refine e_bipush (v := nI 6) rfl bp_6N ?_
        refine e_icmp_leN (tgt := 126) rfl rfl (by omega) (by omega) (fun z6 => ?_) (fun z6 => ?_)
        · refine e_iconst (v := nI 1) rfl ic_1N ?_
          refine e_putI rfl f10_170 hM.k rfl rfl ?_
          refine e_aload_n rfl rfl ?_
          refine e_getI rfl f10_170 hM.k rfl ?_
          rw [u2_at]
          refine e_iconst (v := nI 1) rfl ic_1N ?_
          first | refine e_icmp_neN (tgt := 225) rfl rfl (by omega) (by omega) (fun z => ?_) (fun z => ?_) | refine e_icmp_ne (tgt := 225) rfl rfl (fun z => ?_) (fun z => ?_)
          · omega
          · have g4 : ∀ c x, ¬ (c = 102 ∧ (x = 26 ∨ x = 27)) → (u2 (u2 I3 102 27 (-1)) 102 26 (nI 1)) c x = I3 c x := fun c x y => (if_neg (fun e => y ⟨e.1, Or.inl e.2⟩)).trans (if_neg (fun e => y ⟨e.1, Or.inr e.2⟩))
            refine e_aload_n rfl rfl ?_
            refine e_callV (kd := 10) (M2 := m10_name) rfl v10_183 ok10_name (c10_name (n := n) (p := p) (e := e) hM hn (by omega) (by omega) (fun j hj => by rw [g4 103 j (by omega)]; exact hf3 j hj) hL (by rw [g4 102 24 (by omega)]; exact s24) (by rw [g4 102 25 (by omega)]; exact p3)) rfl hM.k rfl rfl rfl rfl (fun r1 h1 q1 => ?_)
            obtain ⟨rfl, I4, rfl, g5, s27⟩ := q1
            refine e_goto (tgt := 225) rfl rfl ?_
            refine e_return rfl rfl ?_
            obtain ⟨k1, k2, k3⟩ := fr I4 (fun c x y => (g5 c x (fun e => y ⟨e.1, Or.inr e.2⟩)).trans (g4 c x y))
            refine ⟨rfl, I4, rfl, k1, k2, k3, Or.inr (Or.inr (Or.inl ⟨?_, by rw [g5 102 26 (by omega), u2_at], ?_⟩))⟩
            · show (if 6 < e - p then -1 else wdT (pkV f p (min 6 (e - p))) 21 0) = _
              rw [if_neg (by omega), Nat.min_eq_right (by omega)]
              rcases wdT_is (v := pkV f p (e - p)) 21 0 with ⟨j, j1, j2, j3, j4⟩ | ⟨-, no⟩
              · exact absurd ((isW_iff (f := f) (show j < 21 by omega) (show p ≤ e by omega) (by omega) hL).mpr j3) (hno _ (mw_all j (by omega)).1)
              · exact no
            · rw [s27, mnV_pk (by omega)]
              show _ = nI (pkV f p (min 6 (e - p)))
              rw [Nat.min_eq_right (by omega)]
        · refine e_iconst (v := nI 5) rfl ic_5N ?_
          refine e_goto (tgt := 127) rfl rfl ?_
          refine e_putI rfl f10_170 hM.k rfl rfl ?_
          refine e_aload_n rfl rfl ?_
          refine e_getI rfl f10_170 hM.k rfl ?_
          rw [u2_at]
          refine e_iconst (v := nI 1) rfl ic_1N ?_
          first | refine e_icmp_neN (tgt := 225) rfl rfl (by omega) (by omega) (fun z => ?_) (fun z => ?_) | refine e_icmp_ne (tgt := 225) rfl rfl (fun z => ?_) (fun z => ?_)
          · refine e_return rfl rfl ?_
            obtain ⟨k1, k2, k3⟩ := fr (u2 (u2 I3 102 27 (-1)) 102 26 (nI 5)) (fun c x y => (if_neg (fun e => y ⟨e.1, Or.inl e.2⟩)).trans (if_neg (fun e => y ⟨e.1, Or.inr e.2⟩)))
            refine ⟨rfl, _, rfl, k1, k2, k3, Or.inr (Or.inr (Or.inr (Or.inr (Or.inl ⟨?_, u2_at _ _ _ _⟩))))⟩
            show (if 6 < e - p then -1 else wdT (pkV f p (min 6 (e - p))) 21 0) = _
            rw [if_pos (by omega)]
          · omega
end MToken2
