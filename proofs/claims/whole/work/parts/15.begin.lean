/-! ===== State.begin; Told; Steps ===== -/
theorem rAt_nI {I : IM} {a s j i : Nat} (hi : i < s) (hs : s < 2 ^ 31) : rAt I a s j (nI i) = I (a + 2 + j) i := by
  rw [rAt, if_pos ⟨nI_pos' (by omega), (nI_ltI (by omega) hs).mpr hi⟩, nI_clamp (by omega)]
/-- the class's state at s is S: 0 status, 1 dents, 2 stack, 4 fresh, 5 served, 6 wants, 8 .. 13 day, keys, glory, met, missed, refused, 14 number; 100 + t: who lies above t -/
def RC (I : IM) (J : JM) (s n : Nat) (S : Nat → Nat → Int32) : Prop := I s 7 = nI n ∧ n ≤ 8 ∧ (∀ t, t < n → I (s + 1) t = S 0 t ∧ I (s + 2) t = S 1 t ∧ I (s + 3) t = S 2 t ∧ I (s + 5) t = S 4 t ∧ I (s + 6) t = S 5 t) ∧
  (∀ t, t < n → ∀ u, u < n → S (100 + t) u = bI (decide (I (s + 3) u = I (s + 3) t ∧ I (s + 4) t < I (s + 4) u))) ∧ (∀ w, w < 8 → I (s + 7) w = S 6 w) ∧ (I s 8 = S 8 0 ∧ I s 9 = S 9 0 ∧ I s 10 = S 10 0 ∧ I s 11 = S 11 0 ∧ I s 12 = S 12 0 ∧ I s 13 = S 13 0) ∧ J s 14 = (S 14 0).toInt64
/-- heights: small, of one stack apart -/
def HC (I : IM) (s n B : Nat) : Prop := (∀ t, t < n → ∃ j, j ≤ B ∧ I (s + 4) t = nI j) ∧ ∀ t, t < n → ∀ u, u < n → t ≠ u → I (s + 3) t = I (s + 3) u → I (s + 4) t ≠ I (s + 4) u
/-- the state at first -/
def beg (P : Pl) : Nat → Nat → Int32 := fun k t => if k = 1 then P.2 5 t else if k = 2 then P.2 7 t else if k = 9 then P.2 20 0 else if k = 14 then P.2 20 2 else if 100 ≤ k then bI (decide (P.2 7 t = P.2 7 (k - 100) ∧ k - 100 < t)) else 0
section MBegin
variable {l : Launch} {G : GG} {d : Nat} {I : IM} {J : JM} {K : Kt} {Q : Option Value → Hp → Prop} {p s n : Nat} {P : Pl}
theorem begin_loop (hS : isState K s) (hP : isPlan K p) (hd : p + 27 ≤ s) (hn : P.1 1 = n) : ∀ k i I, i + k = n → I s 7 = nI n → RP I p P → (∀ I', (∀ c, (c < s + 1 ∨ s + 6 < c) → I' c = I c) → (∀ t, t < i → ∀ c, I' c t = I c t) → (∀ t, i ≤ t → t < n → I' (s + 1) t = nI 0 ∧ I' (s + 2) t = P.2 5 t ∧ I' (s + 3) t = P.2 7 t ∧ I' (s + 4) t = nI t ∧ I' (s + 5) t = nI 0 ∧ I' (s + 6) t = nI 0) → Gw l G (d + 2) m6_begin 90 [.ref s, .ref p, .int (nI n)] [] (I', J, K) Q) → Gw l G (d + 2) m6_begin 18 [.ref s, .ref p, .int (nI i)] [] (I, J, K) Q := by
  obtain ⟨h6, p0, p1, p2, p3, p4, p5, p6, a1, a2, a3, a4, a5, a6, a7⟩ := hS
  obtain ⟨h3, q0, q1, q2, q3, q4, r1, r2, r3, r4, r5⟩ := hP
  have hr2 := r2.1
  intro k
  induction k with
  | zero =>
    intro i I hi h7 hR hq
    have hn8 : n ≤ 8 := by rw [← hn]; exact hR.2.2.1.2
    refine e_iload_n rfl rfl ?_
    refine e_aload_n rfl rfl ?_
    refine e_getI rfl f6_51 (by assumption) rfl ?_
    rw [h7]
    first | refine e_icmp_geN (tgt := 90) rfl rfl (by omega) (by omega) (fun z => ?_) (fun z => ?_) | refine e_icmp_ge (tgt := 90) rfl rfl (fun z => ?_) (fun z => ?_)
    · rw [show i = n by omega]
      exact hq I (fun _ _ => rfl) (fun _ _ _ => rfl) (fun t h1 h2 => by omega)
    · omega
  | succ k ih =>
    intro i I hi h7 hR hq
    have hn8 : n ≤ 8 := by rw [← hn]; exact hR.2.2.1.2
    have hz : I (p + 6) 2 = nI n := by rw [← hn]; exact hR.2.2.1.1
    have d5 : I (p + 6 + 2 + 2) i = P.2 5 i := hR.2.2.2.2.2.2.1 2 (by omega) i (by omega)
    have d7 : I (p + 6 + 2 + 4) i = P.2 7 i := hR.2.2.2.2.2.2.1 4 (by omega) i (by omega)
    refine e_iload_n rfl rfl ?_
    refine e_aload_n rfl rfl ?_
    refine e_getI rfl f6_51 (by assumption) rfl ?_
    rw [h7]
    first | refine e_icmp_geN (tgt := 90) rfl rfl (by omega) (by omega) (fun z => ?_) (fun z => ?_) | refine e_icmp_ge (tgt := 90) rfl rfl (fun z => ?_) (fun z => ?_)
    · omega
    · refine e_aload_n rfl rfl ?_
      refine e_getP rfl f6_9 (by assumption) rfl (by assumption) ?_
      refine e_iload_n rfl rfl ?_
      refine e_iconst (v := nI 0) rfl ic_0N ?_
      first | refine e_iastoreN rfl (by assumption) (by omega) (by omega) ?_ | (refine e_iastore rfl (by assumption) ?_ ?_; rotate_left)
      refine e_aload_n rfl rfl ?_
      refine e_getP rfl f6_15 (by assumption) rfl (by assumption) ?_
      refine e_iload_n rfl rfl ?_
      refine e_aload_n rfl rfl ?_
      refine e_getP rfl f6_33 (by assumption) rfl (by assumption) ?_
      refine e_iload_n rfl rfl ?_
      refine e_iconst (v := nI 2) rfl ic_2N ?_
      refine e_callVp (kd := 4) (M2 := m4_at) rfl v6_53 ok4_at (c4_at r2 (s := n) (by simp (disch := omega) only [u2_ne]; exact hz) hn8 (by omega) _) rfl (by assumption) rfl rfl rfl rfl ?_
      rw [rAt_nI (by omega) (by omega)]
      simp (disch := omega) only [u2_ne]
      rw [d5]
      first | refine e_iastoreN rfl (by assumption) (by omega) (by omega) ?_ | (refine e_iastore rfl (by assumption) ?_ ?_; rotate_left)
      refine e_aload_n rfl rfl ?_
      refine e_getP rfl f6_18 (by assumption) rfl (by assumption) ?_
      refine e_iload_n rfl rfl ?_
      refine e_aload_n rfl rfl ?_
      refine e_getP rfl f6_33 (by assumption) rfl (by assumption) ?_
      refine e_iload_n rfl rfl ?_
      refine e_iconst (v := nI 4) rfl ic_4N ?_
      refine e_callVp (kd := 4) (M2 := m4_at) rfl v6_53 ok4_at (c4_at r2 (s := n) (by simp (disch := omega) only [u2_ne]; exact hz) hn8 (by omega) _) rfl (by assumption) rfl rfl rfl rfl ?_
      rw [rAt_nI (by omega) (by omega)]
      simp (disch := omega) only [u2_ne]
      rw [d7]
      first | refine e_iastoreN rfl (by assumption) (by omega) (by omega) ?_ | (refine e_iastore rfl (by assumption) ?_ ?_; rotate_left)
      refine e_aload_n rfl rfl ?_
      refine e_getP rfl f6_21 (by assumption) rfl (by assumption) ?_
      refine e_iload_n rfl rfl ?_
      refine e_iload_n rfl rfl ?_
      first | refine e_iastoreN rfl (by assumption) (by omega) (by omega) ?_ | (refine e_iastore rfl (by assumption) ?_ ?_; rotate_left)
      refine e_aload_n rfl rfl ?_
      refine e_getP rfl f6_24 (by assumption) rfl (by assumption) ?_
      refine e_iload_n rfl rfl ?_
      refine e_iconst (v := nI 0) rfl ic_0N ?_
      first | refine e_iastoreN rfl (by assumption) (by omega) (by omega) ?_ | (refine e_iastore rfl (by assumption) ?_ ?_; rotate_left)
      refine e_aload_n rfl rfl ?_
      refine e_getP rfl f6_27 (by assumption) rfl (by assumption) ?_
      refine e_iload_n rfl rfl ?_
      refine e_iconst (v := nI 0) rfl ic_0N ?_
      first | refine e_iastoreN rfl (by assumption) (by omega) (by omega) ?_ | (refine e_iastore rfl (by assumption) ?_ ?_; rotate_left)
      first | refine e_inc2 rfl rfl rfl (incN1 _) ?_ | refine e_inc2 rfl rfl rfl rfl ?_
      refine e_goto (tgt := 18) rfl rfl ?_
      refine ih (i + 1) _ (by omega) ?_ (hR.frame ?_) ?_
      · simp (disch := omega) only [u2_ne]; exact h7
      · intro c h1 h2
        funext x
        simp (disch := omega) only [u2_ne]
      · intro I' e1 e2 e3
        refine hq I' (fun c hc => ?_) (fun t ht c => ?_) (fun t h1 h2 => ?_)
        · rw [e1 c hc]
          funext x
          simp (disch := omega) only [u2_ne]
        · rw [e2 t (by omega)]
          simp (disch := omega) only [u2_nk]
        · by_cases ht : t = i
          · subst ht
            rw [e2 t (by omega), e2 t (by omega), e2 t (by omega), e2 t (by omega), e2 t (by omega), e2 t (by omega)]
            simp (disch := omega) only [u2_at, u2_ne]
            exact ⟨trivial, trivial, trivial, trivial, trivial, trivial⟩
          · exact e3 t (by omega) h2
theorem begin_loop2 (hS : isState K s) : ∀ k i I, i + k = 8 → (∀ I', (∀ c, c ≠ s + 7 → I' c = I c) → (∀ w, w < i → I' (s + 7) w = I (s + 7) w) → (∀ w, i ≤ w → w < 8 → I' (s + 7) w = nI 0) → Gw l G (d + 2) m6_begin 111 [.ref s, .ref p, .int (nI 8)] [] (I', J, K) Q) → Gw l G (d + 2) m6_begin 92 [.ref s, .ref p, .int (nI i)] [] (I, J, K) Q := by
  obtain ⟨h6, p0, p1, p2, p3, p4, p5, p6, a1, a2, a3, a4, a5, a6, a7⟩ := hS
  intro k
  induction k with
  | zero =>
    intro i I hi hq
    refine e_iload_n rfl rfl ?_
    refine e_bipush (v := nI 8) rfl bp_8N ?_
    first | refine e_icmp_geN (tgt := 111) rfl rfl (by omega) (by omega) (fun z => ?_) (fun z => ?_) | refine e_icmp_ge (tgt := 111) rfl rfl (fun z => ?_) (fun z => ?_)
    · rw [show i = 8 by omega]
      exact hq I (fun _ _ => rfl) (fun _ _ => rfl) (fun t h1 h2 => by omega)
    · omega
  | succ k ih =>
    intro i I hi hq
    refine e_iload_n rfl rfl ?_
    refine e_bipush (v := nI 8) rfl bp_8N ?_
    first | refine e_icmp_geN (tgt := 111) rfl rfl (by omega) (by omega) (fun z => ?_) (fun z => ?_) | refine e_icmp_ge (tgt := 111) rfl rfl (fun z => ?_) (fun z => ?_)
    · omega
    · refine e_aload_n rfl rfl ?_
      refine e_getP rfl f6_30 (by assumption) rfl (by assumption) ?_
      refine e_iload_n rfl rfl ?_
      refine e_iconst (v := nI 0) rfl ic_0N ?_
      first | refine e_iastoreN rfl (by assumption) (by omega) (by omega) ?_ | (refine e_iastore rfl (by assumption) ?_ ?_; rotate_left)
      first | refine e_inc2 rfl rfl rfl (incN1 _) ?_ | refine e_inc2 rfl rfl rfl rfl ?_
      refine e_goto (tgt := 92) rfl rfl ?_
      refine ih (i + 1) _ (by omega) ?_
      intro I' e1 e2 e3
      refine hq I' (fun c hc => ?_) (fun w hw => ?_) (fun w h1 h2 => ?_)
      · rw [e1 c hc, u2_row _ _ hc]
      · rw [e2 w (by omega), u2_nk _ _ (by omega)]
      · by_cases hw : w = i
        · subst hw
          rw [e2 w (by omega), u2_at]
        · exact e3 w (by omega) h2
theorem c6_begin (hS : isState K s) (hP : isPlan K p) (hd : p + 27 ≤ s) (hR : RP I p P) : Cw l G (d + 2) m6_begin [.ref s, .ref p] (I, J, K) (fun r h' => r = none ∧ ∃ I' J', h' = (I', J', K) ∧ (∀ c, (c < s ∨ s + 7 < c) → I' c = I c) ∧ (∀ c, c ≠ s → J' c = J c) ∧ RC I' J' s (P.1 1) (beg P) ∧ HC I' s (P.1 1) 8) := by
  have hS2 := hS
  have hP2 := hP
  obtain ⟨h6, p0, p1, p2, p3, p4, p5, p6, a1, a2, a3, a4, a5, a6, a7⟩ := hS2
  obtain ⟨h3, q0, q1, q2, q3, q4, r1, r2, r3, r4, r5⟩ := hP2
  have hr2 := r2.1
  have hn8 : P.1 1 ≤ 8 := hR.2.2.1.2
  have hz : I (p + 6) 2 = nI (P.1 1) := hR.2.2.1.1
  obtain ⟨n, hn⟩ : ∃ n, n = P.1 1 := ⟨_, rfl⟩
  rw [← hn] at hn8 hz
  refine Cw.of ok6_begin rfl (rfl : argL _ _ = [.ref s, .ref p, .null]) ?_
  refine e_aload_n rfl rfl ?_
  refine e_aload_n rfl rfl ?_
  refine e_getP rfl f6_33 (by assumption) rfl (by assumption) ?_
  refine e_getI rfl f6_39 (by assumption) rfl ?_
  rw [hz]
  refine e_bipush (v := nI 8) rfl bp_8N ?_
  refine e_min rfl v6_45 rfl ?_
  have hmin : (if nI 8 < nI n then nI 8 else nI n) = nI n := by
    rw [if_neg (fun q => absurd ((nI_ltI (by omega) (by omega)).mp q) (by omega))]
  rw [hmin]
  refine e_putI rfl f6_51 (by assumption) rfl rfl ?_
  refine e_iconst (v := nI 0) rfl ic_0N ?_
  refine e_ist2 rfl rfl rfl ?_
  refine begin_loop hS hP hd hn.symm n 0 _ (by omega) (u2_at _ _ _ _) (hR.frame (fun c h1 h2 => u2_row _ _ (by omega))) ?_
  intro I1 e1 e2 e3
  refine e_iconst (v := nI 0) rfl ic_0N ?_
  refine e_ist2 rfl rfl rfl ?_
  refine begin_loop2 hS 8 0 I1 (by omega) ?_
  intro I2 g1 g2 g3
  refine e_aload_n rfl rfl ?_
  refine e_iconst (v := nI 0) rfl ic_0N ?_
  refine e_putI rfl f6_56 (by assumption) rfl rfl ?_
  refine e_aload_n rfl rfl ?_
  refine e_aload_n rfl rfl ?_
  refine e_getI rfl f6_59 (by assumption) rfl ?_
  refine e_putI rfl f6_62 (by assumption) rfl rfl ?_
  refine e_aload_n rfl rfl ?_
  refine e_iconst (v := nI 0) rfl ic_0N ?_
  refine e_putI rfl f6_63 (by assumption) rfl rfl ?_
  refine e_aload_n rfl rfl ?_
  refine e_iconst (v := nI 0) rfl ic_0N ?_
  refine e_putI rfl f6_66 (by assumption) rfl rfl ?_
  refine e_aload_n rfl rfl ?_
  refine e_iconst (v := nI 0) rfl ic_0N ?_
  refine e_putI rfl f6_69 (by assumption) rfl rfl ?_
  refine e_aload_n rfl rfl ?_
  refine e_iconst (v := nI 0) rfl ic_0N ?_
  refine e_putI rfl f6_72 (by assumption) rfl rfl ?_
  refine e_aload_n rfl rfl ?_
  refine e_aload_n rfl rfl ?_
  refine e_getI rfl f6_75 (by assumption) rfl ?_
  refine e_i2l rfl ?_
  refine e_putJ rfl f6_78 (by assumption) rfl rfl ?_
  refine e_return rfl rfl ?_
  have hb : ∀ c, c ≠ s + 7 → (c < s ∨ s + 7 < c ∨ c = s) → I2 c = u2 I s 7 (nI n) c := fun c h1 h2 => by rw [g1 c h1, e1 c (by omega)]
  have hk5 : I p 5 = P.2 20 0 := hR.2.2.2.2.2.2.2.2.2.2.2.2.1
  have hk7 : I p 7 = P.2 20 2 := hR.2.2.2.2.2.2.2.2.2.2.2.2.2.2.1
  have hw : ∀ t, t < P.1 1 → I2 (s + 1) t = nI 0 ∧ I2 (s + 2) t = P.2 5 t ∧ I2 (s + 3) t = P.2 7 t ∧ I2 (s + 4) t = nI t ∧ I2 (s + 5) t = nI 0 ∧ I2 (s + 6) t = nI 0 := by
    intro t ht
    rw [g1 _ (by omega), g1 _ (by omega), g1 _ (by omega), g1 _ (by omega), g1 _ (by omega), g1 _ (by omega)]
    exact e3 t (by omega) (by omega)
  refine ⟨rfl, _, _, rfl, ?_, ?_, ⟨?_, by omega, ?_, ?_, ?_, ⟨?_, ?_, ?_, ?_, ?_, ?_⟩, ?_⟩, ?_, ?_⟩
  · intro c hc
    funext x
    simp (disch := omega) only [u2_ne]
    rw [hb c (by omega) (by omega), u2_ne _ _ (by omega)]
  · intro c hc
    exact u2_row _ _ hc
  · simp (disch := omega) only [u2_nk, u2_ne]
    rw [hb s (by omega) (by omega), u2_at, hn]
  · intro t ht
    simp (disch := omega) only [u2_ne]
    obtain ⟨w1, w2, w3, w4, w5, w6⟩ := hw t ht
    rw [w1, w2, w3, w5, w6]
    exact ⟨rfl, rfl, rfl, rfl, rfl⟩
  · intro t ht u hu
    simp (disch := omega) only [u2_ne]
    rw [(hw t ht).2.2.1, (hw t ht).2.2.2.1, (hw u hu).2.2.1, (hw u hu).2.2.2.1]
    unfold beg
    rw [if_neg (by omega), if_neg (by omega), if_neg (by omega), if_neg (by omega), if_pos (by omega), show 100 + t - 100 = t by omega]
    congr 1
    exact decide_eq_decide.mpr (and_congr_right fun _ => (nI_ltI (by omega) (by omega)).symm)
  · intro w hw8
    simp (disch := omega) only [u2_ne]
    rw [g3 w (by omega) hw8]
    rfl
  · simp (disch := omega) only [u2_at, u2_nk, u2_ne]; rfl
  · simp (disch := omega) only [u2_at, u2_nk, u2_ne]
    rw [hb p (by omega) (by omega), u2_ne _ _ (by omega), hk5]; rfl
  · simp (disch := omega) only [u2_at, u2_nk, u2_ne]; rfl
  · simp (disch := omega) only [u2_at, u2_nk, u2_ne]; rfl
  · simp (disch := omega) only [u2_at, u2_nk, u2_ne]; rfl
  · simp (disch := omega) only [u2_at, u2_nk, u2_ne]; rfl
  · rw [u2_at]
    simp (disch := omega) only [u2_at, u2_nk, u2_ne]
    rw [hb p (by omega) (by omega), u2_ne _ _ (by omega), hk7]; rfl
  · intro t ht
    refine ⟨t, by omega, ?_⟩
    simp (disch := omega) only [u2_ne]
    exact (hw t ht).2.2.2.1
  · intro t ht u hu htu _
    simp (disch := omega) only [u2_ne]
    rw [(hw t ht).2.2.2.1, (hw u hu).2.2.2.1]
    exact fun q => htu ((nI_eq (by omega) (by omega)).mp q)
end MBegin
