/-! ===== the reference: stores copied, begun, run on ===== -/
def CP (I I' : IM) (to as i j : Nat) : Prop := (∀ c x, ¬ onF to c x → I' c x = I c x) ∧ (∀ c, 124 ≤ c → c ≤ 129 → I' c to = I c as) ∧ (∀ c t, 130 ≤ c → c ≤ 135 → t < i → I' c (8 * to + t) = I c (8 * as + t)) ∧ ∀ w, w < j → I' 136 (8 * to + w) = I 136 (8 * as + w)
theorem RM.cp {I I' : IM} {to as n B : Nat} {S : SM} (h : RM I as n S B) (hn : n ≤ 8) (g : CP I I' to as 8 8) : RM I' to n S B := by
  obtain ⟨h1, h2, ⟨k1, k2, k3, k4, k5⟩, h4, p, h5, h6, h7⟩ := h
  obtain ⟨-, g0, g1, g2⟩ := g
  refine ⟨fun t ht => ?_, fun w hw => ?_, ⟨?_, ?_, ?_, ?_, ?_⟩, fun t ht u hu => ?_, p, ?_, h6, fun t ht => ?_⟩
  · rw [g1 133 t (by omega) (by omega) (by omega), g1 132 t (by omega) (by omega) (by omega), g1 131 t (by omega) (by omega) (by omega), g1 134 t (by omega) (by omega) (by omega), g1 135 t (by omega) (by omega) (by omega)]; exact h1 t ht
  · rw [g2 w hw]; exact h2 w hw
  · rw [g0 124 (by omega) (by omega)]; exact k1
  · rw [g0 126 (by omega) (by omega)]; exact k2
  · rw [g0 127 (by omega) (by omega)]; exact k3
  · rw [g0 128 (by omega) (by omega)]; exact k4
  · rw [g0 125 (by omega) (by omega)]; exact k5
  · rw [g1 131 t (by omega) (by omega) (by omega), g1 131 u (by omega) (by omega) (by omega), g1 130 t (by omega) (by omega) (by omega), g1 130 u (by omega) (by omega) (by omega)]; exact h4 t ht u hu
  · rw [g0 129 (by omega) (by omega)]; exact h5
  · rw [g1 130 t (by omega) (by omega) ht]; exact h7 t ht
section MCopy
variable {l : Launch} {G : GG} {d : Nat} {I : IM} {J : JM} {K : Kt} {Q : Option Value → Hp → Prop} {P : Pl} {f n B : Nat} {S : SM}
theorem cp_loop1 (hM : MK K) {to as : Nat} (ht : to < 23) (ha : as < 23) (hne : to ≠ as) {I0 : IM} : ∀ k i I v4 v5, i + k = 8 → CP I0 I to as i 0 → (∀ I', CP I0 I' to as 8 0 → ∀ v3 v4 v5, Gw l G d m10_copies 186 [.ref 102, .int (nI to), .int (nI as), v3, v4, v5] [] (I', J, K) Q) → Gw l G d m10_copies 74 [.ref 102, .int (nI to), .int (nI as), .int (nI i), v4, v5] [] (I, J, K) Q := by
  intro k
  induction k with
  | zero =>
    intro i I v4 v5 hi hC kk
    obtain rfl : i = 8 := by omega
    refine e_iload_n rfl rfl ?_
    refine e_bipush (v := nI 8) rfl bp_8N ?_
    first | refine e_icmp_geN (tgt := 186) rfl rfl (by omega) (by omega) (fun z => ?_) (fun z => ?_) | refine e_icmp_ge (tgt := 186) rfl rfl (fun z => ?_) (fun z => ?_)
    · exact kk I hC _ _ _
    · omega
  | succ k ih =>
    intro i I v4 v5 hi hC kk
    obtain ⟨c1, c2, c3, c4⟩ := hC
    refine e_iload_n rfl rfl ?_
    refine e_bipush (v := nI 8) rfl bp_8N ?_
    first | refine e_icmp_geN (tgt := 186) rfl rfl (by omega) (by omega) (fun z => ?_) (fun z => ?_) | refine e_icmp_ge (tgt := 186) rfl rfl (fun z => ?_) (fun z => ?_)
    · omega
    · refine e_bipush (v := nI 8) rfl bp_8N ?_
      refine e_iload_n rfl rfl ?_
      first | refine e_imulN rfl ?_ | refine e_imul rfl ?_
      refine e_iload_n rfl rfl ?_
      first | refine e_iaddN rfl ?_ | refine e_iadd rfl ?_
      refine e_ist4 rfl rfl rfl ?_
      refine e_bipush (v := nI 8) rfl bp_8N ?_
      refine e_iload_n rfl rfl ?_
      first | refine e_imulN rfl ?_ | refine e_imul rfl ?_
      refine e_iload_n rfl rfl ?_
      first | refine e_iaddN rfl ?_ | refine e_iadd rfl ?_
      refine e_ist5 rfl rfl rfl ?_
      refine e_aload_n rfl rfl ?_
      refine e_getP rfl f10_96 hM.k rfl hM.p43 ?_
      refine e_iload rfl rfl ?_
      refine e_aload_n rfl rfl ?_
      refine e_getP rfl f10_96 hM.k rfl hM.p43 ?_
      refine e_iload rfl rfl ?_
      first | refine e_ialoadN rfl hM.a43 (by omega) (by omega) ?_ | (refine e_iaload rfl hM.a43 ?_ ?_; rotate_left)
      first | refine e_iastoreN rfl hM.a43 (by omega) (by omega) ?_ | (refine e_iastore rfl hM.a43 ?_ ?_; rotate_left)
      refine e_aload_n rfl rfl ?_
      refine e_getP rfl f10_99 hM.k rfl hM.p44 ?_
      refine e_iload rfl rfl ?_
      refine e_aload_n rfl rfl ?_
      refine e_getP rfl f10_99 hM.k rfl hM.p44 ?_
      refine e_iload rfl rfl ?_
      first | refine e_ialoadN rfl hM.a44 (by omega) (by omega) ?_ | (refine e_iaload rfl hM.a44 ?_ ?_; rotate_left)
      first | refine e_iastoreN rfl hM.a44 (by omega) (by omega) ?_ | (refine e_iastore rfl hM.a44 ?_ ?_; rotate_left)
      refine e_aload_n rfl rfl ?_
      refine e_getP rfl f10_102 hM.k rfl hM.p45 ?_
      refine e_iload rfl rfl ?_
      refine e_aload_n rfl rfl ?_
      refine e_getP rfl f10_102 hM.k rfl hM.p45 ?_
      refine e_iload rfl rfl ?_
      first | refine e_ialoadN rfl hM.a45 (by omega) (by omega) ?_ | (refine e_iaload rfl hM.a45 ?_ ?_; rotate_left)
      first | refine e_iastoreN rfl hM.a45 (by omega) (by omega) ?_ | (refine e_iastore rfl hM.a45 ?_ ?_; rotate_left)
      refine e_aload_n rfl rfl ?_
      refine e_getP rfl f10_105 hM.k rfl hM.p46 ?_
      refine e_iload rfl rfl ?_
      refine e_aload_n rfl rfl ?_
      refine e_getP rfl f10_105 hM.k rfl hM.p46 ?_
      refine e_iload rfl rfl ?_
      first | refine e_ialoadN rfl hM.a46 (by omega) (by omega) ?_ | (refine e_iaload rfl hM.a46 ?_ ?_; rotate_left)
      first | refine e_iastoreN rfl hM.a46 (by omega) (by omega) ?_ | (refine e_iastore rfl hM.a46 ?_ ?_; rotate_left)
      refine e_aload_n rfl rfl ?_
      refine e_getP rfl f10_108 hM.k rfl hM.p47 ?_
      refine e_iload rfl rfl ?_
      refine e_aload_n rfl rfl ?_
      refine e_getP rfl f10_108 hM.k rfl hM.p47 ?_
      refine e_iload rfl rfl ?_
      first | refine e_ialoadN rfl hM.a47 (by omega) (by omega) ?_ | (refine e_iaload rfl hM.a47 ?_ ?_; rotate_left)
      first | refine e_iastoreN rfl hM.a47 (by omega) (by omega) ?_ | (refine e_iastore rfl hM.a47 ?_ ?_; rotate_left)
      refine e_aload_n rfl rfl ?_
      refine e_getP rfl f10_111 hM.k rfl hM.p48 ?_
      refine e_iload rfl rfl ?_
      refine e_aload_n rfl rfl ?_
      refine e_getP rfl f10_111 hM.k rfl hM.p48 ?_
      refine e_iload rfl rfl ?_
      first | refine e_ialoadN rfl hM.a48 (by omega) (by omega) ?_ | (refine e_iaload rfl hM.a48 ?_ ?_; rotate_left)
      first | refine e_iastoreN rfl hM.a48 (by omega) (by omega) ?_ | (refine e_iastore rfl hM.a48 ?_ ?_; rotate_left)
      first | refine e_inc3 rfl rfl rfl (incN1 _) ?_ | refine e_inc3 rfl rfl rfl rfl ?_
      refine e_goto (tgt := 74) rfl rfl ?_
      refine ih (i + 1) _ _ _ (by omega) ⟨fun c x hx => ?_, fun c a b => ?_, fun c t a b e => ?_, fun w hw => absurd hw (by omega)⟩ kk
      · have q : ∀ c', 130 ≤ c' → c' ≤ 135 → ¬ (c = c' ∧ x = 8 * to + i) := fun c' a b e => hx (by rw [e.1, e.2]; exact on8 a (by omega) (by omega))
        unfold u2
        rw [if_neg (q 135 (by omega) (by omega)), if_neg (q 134 (by omega) (by omega)), if_neg (q 133 (by omega) (by omega)), if_neg (q 132 (by omega) (by omega)), if_neg (q 131 (by omega) (by omega)), if_neg (q 130 (by omega) (by omega))]
        exact c1 c x hx
      · simp (disch := omega) only [u2_ne]
        exact c2 c a b
      · have rd : ∀ c, 130 ≤ c → c ≤ 135 → I c (8 * as + i) = I0 c (8 * as + i) := fun c a b => c1 c _ (by unfold onF; omega)
        by_cases q : t = i
        · subst q
          obtain rfl | rfl | rfl | rfl | rfl | rfl : c = 130 ∨ c = 131 ∨ c = 132 ∨ c = 133 ∨ c = 134 ∨ c = 135 := by omega
          all_goals simp (disch := omega) only [u2_ne, u2_at, u2_nk]
          · exact rd 130 (by omega) (by omega)
          · exact rd 131 (by omega) (by omega)
          · exact rd 132 (by omega) (by omega)
          · exact rd 133 (by omega) (by omega)
          · exact rd 134 (by omega) (by omega)
          · exact rd 135 (by omega) (by omega)
        · simp (disch := omega) only [u2_nk]
          exact c3 c t a b (by omega)
theorem cp_loop2 (hM : MK K) {to as : Nat} (ht : to < 23) (ha : as < 23) (hne : to ≠ as) {I0 : IM} {v4 v5 : Value} : ∀ k i I, i + k = 8 → CP I0 I to as 8 i → (∀ I', CP I0 I' to as 8 8 → Q none (I', J, K)) → Gw l G d m10_copies 188 [.ref 102, .int (nI to), .int (nI as), .int (nI i), v4, v5] [] (I, J, K) Q := by
  intro k
  induction k with
  | zero =>
    intro i I hi hC kk
    obtain rfl : i = 8 := by omega
    refine e_iload_n rfl rfl ?_
    refine e_bipush (v := nI 8) rfl bp_8N ?_
    first | refine e_icmp_geN (tgt := 222) rfl rfl (by omega) (by omega) (fun z => ?_) (fun z => ?_) | refine e_icmp_ge (tgt := 222) rfl rfl (fun z => ?_) (fun z => ?_)
    · refine e_return rfl rfl ?_
      exact kk I hC
    · omega
  | succ k ih =>
    intro i I hi hC kk
    obtain ⟨c1, c2, c3, c4⟩ := hC
    refine e_iload_n rfl rfl ?_
    refine e_bipush (v := nI 8) rfl bp_8N ?_
    first | refine e_icmp_geN (tgt := 222) rfl rfl (by omega) (by omega) (fun z => ?_) (fun z => ?_) | refine e_icmp_ge (tgt := 222) rfl rfl (fun z => ?_) (fun z => ?_)
    · omega
    · refine e_aload_n rfl rfl ?_
      refine e_getP rfl f10_114 hM.k rfl hM.p49 ?_
      refine e_bipush (v := nI 8) rfl bp_8N ?_
      refine e_iload_n rfl rfl ?_
      first | refine e_imulN rfl ?_ | refine e_imul rfl ?_
      refine e_iload_n rfl rfl ?_
      first | refine e_iaddN rfl ?_ | refine e_iadd rfl ?_
      refine e_aload_n rfl rfl ?_
      refine e_getP rfl f10_114 hM.k rfl hM.p49 ?_
      refine e_bipush (v := nI 8) rfl bp_8N ?_
      refine e_iload_n rfl rfl ?_
      first | refine e_imulN rfl ?_ | refine e_imul rfl ?_
      refine e_iload_n rfl rfl ?_
      first | refine e_iaddN rfl ?_ | refine e_iadd rfl ?_
      first | refine e_ialoadN rfl hM.a49 (by omega) (by omega) ?_ | (refine e_iaload rfl hM.a49 ?_ ?_; rotate_left)
      first | refine e_iastoreN rfl hM.a49 (by omega) (by omega) ?_ | (refine e_iastore rfl hM.a49 ?_ ?_; rotate_left)
      first | refine e_inc3 rfl rfl rfl (incN1 _) ?_ | refine e_inc3 rfl rfl rfl rfl ?_
      refine e_goto (tgt := 188) rfl rfl ?_
      refine ih (i + 1) _ (by omega) ⟨fun c x hx => ?_, fun c a b => ?_, fun c t a b e => ?_, fun w hw => ?_⟩ kk
      · rw [u2, if_neg (fun e => hx (by rw [e.1, e.2]; exact on8 (by omega) (by omega) (by omega)))]
        exact c1 c x hx
      · rw [u2_ne _ _ (by omega)]
        exact c2 c a b
      · rw [u2_ne _ _ (by omega)]
        exact c3 c t a b e
      · by_cases q : w = i
        · subst q
          rw [u2_at]
          exact c1 _ _ (by unfold onF; omega)
        · rw [u2_nk _ _ (by omega)]
          exact c4 w (by omega)
theorem c10_copies (hM : MK K) {to as : Nat} (ht : to < 23) (ha : as < 23) (hne : to ≠ as) : Cw l G d m10_copies [.ref 102, .int (nI to), .int (nI as)] (I, J, K) (fun r h' => r = none ∧ ∃ I', h' = (I', J, K) ∧ CP I I' to as 8 8) := by
  refine Cw.of ok10_copies rfl (rfl : argL _ _ = [.ref 102, .int (nI to), .int (nI as), .null, .null, .null]) ?_
  refine e_aload_n rfl rfl ?_
  refine e_getP rfl f10_78 hM.k rfl hM.p37 ?_
  refine e_iload_n rfl rfl ?_
  refine e_aload_n rfl rfl ?_
  refine e_getP rfl f10_78 hM.k rfl hM.p37 ?_
  refine e_iload_n rfl rfl ?_
  first | refine e_ialoadN rfl hM.a37 (by omega) (by omega) ?_ | (refine e_iaload rfl hM.a37 ?_ ?_; rotate_left)
  first | refine e_iastoreN rfl hM.a37 (by omega) (by omega) ?_ | (refine e_iastore rfl hM.a37 ?_ ?_; rotate_left)
  refine e_aload_n rfl rfl ?_
  refine e_getP rfl f10_81 hM.k rfl hM.p38 ?_
  refine e_iload_n rfl rfl ?_
  refine e_aload_n rfl rfl ?_
  refine e_getP rfl f10_81 hM.k rfl hM.p38 ?_
  refine e_iload_n rfl rfl ?_
  first | refine e_ialoadN rfl hM.a38 (by omega) (by omega) ?_ | (refine e_iaload rfl hM.a38 ?_ ?_; rotate_left)
  first | refine e_iastoreN rfl hM.a38 (by omega) (by omega) ?_ | (refine e_iastore rfl hM.a38 ?_ ?_; rotate_left)
  refine e_aload_n rfl rfl ?_
  refine e_getP rfl f10_84 hM.k rfl hM.p39 ?_
  refine e_iload_n rfl rfl ?_
  refine e_aload_n rfl rfl ?_
  refine e_getP rfl f10_84 hM.k rfl hM.p39 ?_
  refine e_iload_n rfl rfl ?_
  first | refine e_ialoadN rfl hM.a39 (by omega) (by omega) ?_ | (refine e_iaload rfl hM.a39 ?_ ?_; rotate_left)
  first | refine e_iastoreN rfl hM.a39 (by omega) (by omega) ?_ | (refine e_iastore rfl hM.a39 ?_ ?_; rotate_left)
  refine e_aload_n rfl rfl ?_
  refine e_getP rfl f10_87 hM.k rfl hM.p40 ?_
  refine e_iload_n rfl rfl ?_
  refine e_aload_n rfl rfl ?_
  refine e_getP rfl f10_87 hM.k rfl hM.p40 ?_
  refine e_iload_n rfl rfl ?_
  first | refine e_ialoadN rfl hM.a40 (by omega) (by omega) ?_ | (refine e_iaload rfl hM.a40 ?_ ?_; rotate_left)
  first | refine e_iastoreN rfl hM.a40 (by omega) (by omega) ?_ | (refine e_iastore rfl hM.a40 ?_ ?_; rotate_left)
  refine e_aload_n rfl rfl ?_
  refine e_getP rfl f10_90 hM.k rfl hM.p41 ?_
  refine e_iload_n rfl rfl ?_
  refine e_aload_n rfl rfl ?_
  refine e_getP rfl f10_90 hM.k rfl hM.p41 ?_
  refine e_iload_n rfl rfl ?_
  first | refine e_ialoadN rfl hM.a41 (by omega) (by omega) ?_ | (refine e_iaload rfl hM.a41 ?_ ?_; rotate_left)
  first | refine e_iastoreN rfl hM.a41 (by omega) (by omega) ?_ | (refine e_iastore rfl hM.a41 ?_ ?_; rotate_left)
  refine e_aload_n rfl rfl ?_
  refine e_getP rfl f10_93 hM.k rfl hM.p42 ?_
  refine e_iload_n rfl rfl ?_
  refine e_aload_n rfl rfl ?_
  refine e_getP rfl f10_93 hM.k rfl hM.p42 ?_
  refine e_iload_n rfl rfl ?_
  first | refine e_ialoadN rfl hM.a42 (by omega) (by omega) ?_ | (refine e_iaload rfl hM.a42 ?_ ?_; rotate_left)
  first | refine e_iastoreN rfl hM.a42 (by omega) (by omega) ?_ | (refine e_iastore rfl hM.a42 ?_ ?_; rotate_left)
  refine e_iconst (v := nI 0) rfl ic_0N ?_
  refine e_ist3 rfl rfl rfl ?_
  refine cp_loop1 (I0 := I) hM ht ha hne 8 0 _ _ _ (by omega) ⟨fun c x hx => ?_, fun c a b => ?_, fun c t a b e => absurd e (by omega), fun w hw => absurd hw (by omega)⟩ (fun I1 C1 v3 v4 v5 => ?_)
  · have q : ∀ c', 124 ≤ c' → c' ≤ 129 → ¬ (c = c' ∧ x = to) := fun c' a b e => hx (by rw [e.1, e.2]; exact on1 a b)
    unfold u2
    rw [if_neg (q 129 (by omega) (by omega)), if_neg (q 128 (by omega) (by omega)), if_neg (q 127 (by omega) (by omega)), if_neg (q 126 (by omega) (by omega)), if_neg (q 125 (by omega) (by omega)), if_neg (q 124 (by omega) (by omega))]
  · obtain rfl | rfl | rfl | rfl | rfl | rfl : c = 124 ∨ c = 125 ∨ c = 126 ∨ c = 127 ∨ c = 128 ∨ c = 129 := by omega
    all_goals simp (disch := omega) only [u2_ne, u2_at, u2_nk]
  · refine e_iconst (v := nI 0) rfl ic_0N ?_
    refine e_ist3 rfl rfl rfl ?_
    exact cp_loop2 (I0 := I) hM ht ha hne 8 0 I1 (by omega) C1 (fun I2 C2 => ⟨rfl, I2, rfl, C2⟩)
/-- a store begun, up to t -/

def ST (P : Pl) (I I' : IM) (f i j : Nat) : Prop := (∀ c x, ¬ onF f c x → I' c x = I c x) ∧ (I' 124 f = 0 ∧ I' 126 f = P.2 20 0 ∧ I' 127 f = 0 ∧ I' 128 f = 0 ∧ I' 125 f = P.2 20 2 ∧ I' 129 f = nI 8) ∧ (∀ t, t < i → I' 130 (8 * f + t) = nI t ∧ (t < P.1 1 → I' 131 (8 * f + t) = P.2 7 t ∧ I' 132 (8 * f + t) = P.2 5 t ∧ I' 133 (8 * f + t) = 0) ∧ I' 134 (8 * f + t) = 0 ∧ I' 135 (8 * f + t) = 0) ∧ ∀ w, w < j → I' 136 (8 * f + w) = 0
theorem RM.st {I I' : IM} (hn : P.1 1 = n) (h8 : n ≤ 8) (g : ST P I I' f 8 8) (hB : 8 ≤ B) : RM I' f n (beg P) B := by
  obtain ⟨-, ⟨g1, g2, g3, g4, g5, g6⟩, g7, g8⟩ := g
  refine ⟨fun t ht => ?_, fun w hw => g8 w hw, ⟨g1, g2, g3, g4, g5⟩, fun t ht u hu => ?_, 8, g6, hB, fun t ht => ⟨t, ht, (g7 t ht).1⟩⟩
  · obtain ⟨a, b, c, e⟩ := g7 t (by omega)
    obtain ⟨b1, b2, b3⟩ := b (by omega)
    exact ⟨b3, b2, b1, c, e⟩
  · obtain ⟨a, b, -⟩ := g7 t (by omega)
    obtain ⟨a', b', -⟩ := g7 u (by omega)
    rw [a, a', (b (by omega)).1, (b' (by omega)).1]
    unfold beg
    rw [if_neg (by omega), if_neg (by omega), if_neg (by omega), if_neg (by omega), if_pos (by omega), show 100 + t - 100 = t by omega]
    congr 1
    rw [Bool.eq_iff_iff, decide_eq_true_eq, decide_eq_true_eq, nI_ltI (by omega) (by omega)]
theorem st_loop1 (hM : MK K) (hP : MP I P) (h8 : P.1 1 ≤ 8) (hf : f < 23) {I0 : IM} (hI : ∀ c, 104 ≤ c → c ≤ 121 → I0 c = I c) : ∀ k i I1 v3 v4, i + k = 8 → ST P I0 I1 f i 0 → (∀ I', ST P I0 I' f 8 0 → ∀ v2 v3 v4, Gw l G d m10_starts 171 [.ref 102, .int (nI f), v2, v3, v4] [] (I', J, K) Q) → Gw l G d m10_starts 56 [.ref 102, .int (nI f), .int (nI i), v3, v4] [] (I1, J, K) Q := by
  intro k
  induction k with
  | zero =>
    intro i I1 v3 v4 hi hC kk
    obtain rfl : i = 8 := by omega
    refine e_iload_n rfl rfl ?_
    refine e_bipush (v := nI 8) rfl bp_8N ?_
    first | refine e_icmp_geN (tgt := 171) rfl rfl (by omega) (by omega) (fun z => ?_) (fun z => ?_) | refine e_icmp_ge (tgt := 171) rfl rfl (fun z => ?_) (fun z => ?_)
    · exact kk I1 hC _ _ _
    · omega
  | succ k ih =>
    intro i I1 v3 v4 hi hC kk
    have hC2 := hC
    obtain ⟨c1, c2, c3, c4⟩ := hC2
    have pl : ∀ c, 104 ≤ c → c ≤ 121 → I1 c = I c := fun c a b => (funext fun x => c1 c x (by unfold onF; omega)).trans (hI c a b)
    have hn1 : I1 104 1 = nI (P.1 1) := by rw [pl 104 (by omega) (by omega)]; exact hP.1.2.1
    have wr : ∀ a b h : Int32, (i < P.1 1 → a = P.2 7 i ∧ b = P.2 5 i ∧ h = 0) → ST P I0 (u2 (u2 (u2 (u2 (u2 (u2 I1 130 (8 * f + i) (nI i)) 131 (8 * f + i) a) 132 (8 * f + i) b) 133 (8 * f + i) h) 134 (8 * f + i) (nI 0)) 135 (8 * f + i) (nI 0)) f (i + 1) 0 := by
      intro a b h hh
      refine ⟨fun c x hx => ?_, ?_, fun t ht => ?_, fun w hw => absurd hw (by omega)⟩
      · have q : ∀ c', 130 ≤ c' → c' ≤ 135 → ¬ (c = c' ∧ x = 8 * f + i) := fun c' a b e => hx (by rw [e.1, e.2]; exact on8 a (by omega) (by omega))
        unfold u2
        rw [if_neg (q 135 (by omega) (by omega)), if_neg (q 134 (by omega) (by omega)), if_neg (q 133 (by omega) (by omega)), if_neg (q 132 (by omega) (by omega)), if_neg (q 131 (by omega) (by omega)), if_neg (q 130 (by omega) (by omega))]
        exact c1 c x hx
      · simp (disch := omega) only [u2_ne]
        exact c2
      · by_cases q : t = i
        · subst q
          simp (disch := omega) only [u2_ne, u2_at, u2_nk]
          exact ⟨trivial, hh, rfl, rfl⟩
        · simp (disch := omega) only [u2_nk]
          exact c3 t (by omega)
    refine e_iload_n rfl rfl ?_
    refine e_bipush (v := nI 8) rfl bp_8N ?_
    first | refine e_icmp_geN (tgt := 171) rfl rfl (by omega) (by omega) (fun z => ?_) (fun z => ?_) | refine e_icmp_ge (tgt := 171) rfl rfl (fun z => ?_) (fun z => ?_)
    · omega
    · refine e_bipush (v := nI 8) rfl bp_8N ?_
      refine e_iload_n rfl rfl ?_
      first | refine e_imulN rfl ?_ | refine e_imul rfl ?_
      refine e_iload_n rfl rfl ?_
      first | refine e_iaddN rfl ?_ | refine e_iadd rfl ?_
      refine e_ist3 rfl rfl rfl ?_
      refine e_iload_n rfl rfl ?_
      refine e_aload_n rfl rfl ?_
      refine e_getP rfl f10_13 hM.k rfl hM.p3 ?_
      refine e_iconst (v := nI 1) rfl ic_1N ?_
      first | refine e_ialoadN rfl hM.a3 (by omega) (by omega) ?_ | (refine e_iaload rfl hM.a3 ?_ ?_; rotate_left)
      rw [hn1]
      first | refine e_icmp_geN (tgt := 83) rfl rfl (by omega) (by omega) (fun z => ?_) (fun z => ?_) | refine e_icmp_ge (tgt := 83) rfl rfl (fun z => ?_) (fun z => ?_)
      · have y : P.1 1 ≤ i := by assumption
        refine e_iconst (v := nI 0) rfl ic_0N ?_
        refine e_ist4 rfl rfl rfl ?_
        refine e_aload_n rfl rfl ?_
        refine e_getP rfl f10_96 hM.k rfl hM.p43 ?_
        refine e_iload_n rfl rfl ?_
        refine e_iload_n rfl rfl ?_
        first | refine e_iastoreN rfl hM.a43 (by omega) (by omega) ?_ | (refine e_iastore rfl hM.a43 ?_ ?_; rotate_left)
        refine e_aload_n rfl rfl ?_
        refine e_getP rfl f10_99 hM.k rfl hM.p44 ?_
        refine e_iload_n rfl rfl ?_
        refine e_iload rfl rfl ?_
        refine e_if_eq (tgt := 112) rfl rfl (fun _ => ?_) (fun z => absurd rfl z)
        refine e_iconst (v := nI 0) rfl ic_0N ?_
        first | refine e_iastoreN rfl hM.a44 (by omega) (by omega) ?_ | (refine e_iastore rfl hM.a44 ?_ ?_; rotate_left)
        refine e_aload_n rfl rfl ?_
        refine e_getP rfl f10_102 hM.k rfl hM.p45 ?_
        refine e_iload_n rfl rfl ?_
        refine e_iload rfl rfl ?_
        refine e_if_eq (tgt := 133) rfl rfl (fun _ => ?_) (fun z => absurd rfl z)
        refine e_iconst (v := nI 0) rfl ic_0N ?_
        first | refine e_iastoreN rfl hM.a45 (by omega) (by omega) ?_ | (refine e_iastore rfl hM.a45 ?_ ?_; rotate_left)
        refine e_aload_n rfl rfl ?_
        refine e_getP rfl f10_105 hM.k rfl hM.p46 ?_
        refine e_iload_n rfl rfl ?_
        refine e_iload rfl rfl ?_
        refine e_if_eq (tgt := 149) rfl rfl (fun _ => ?_) (fun z => absurd rfl z)
        refine e_iconst (v := nI 2) rfl ic_2N ?_
        first | refine e_iastoreN rfl hM.a46 (by omega) (by omega) ?_ | (refine e_iastore rfl hM.a46 ?_ ?_; rotate_left)
        refine e_aload_n rfl rfl ?_
        refine e_getP rfl f10_108 hM.k rfl hM.p47 ?_
        refine e_iload_n rfl rfl ?_
        refine e_iconst (v := nI 0) rfl ic_0N ?_
        first | refine e_iastoreN rfl hM.a47 (by omega) (by omega) ?_ | (refine e_iastore rfl hM.a47 ?_ ?_; rotate_left)
        refine e_aload_n rfl rfl ?_
        refine e_getP rfl f10_111 hM.k rfl hM.p48 ?_
        refine e_iload_n rfl rfl ?_
        refine e_iconst (v := nI 0) rfl ic_0N ?_
        first | refine e_iastoreN rfl hM.a48 (by omega) (by omega) ?_ | (refine e_iastore rfl hM.a48 ?_ ?_; rotate_left)
        first | refine e_inc2 rfl rfl rfl (incN1 _) ?_ | refine e_inc2 rfl rfl rfl rfl ?_
        refine e_goto (tgt := 56) rfl rfl ?_
        exact ih (i + 1) _ _ _ (by omega) (wr _ _ _ (fun q => absurd q (by omega))) kk
      · have y : i < P.1 1 := by assumption
        obtain ⟨p3, p4, p5, p6, p7⟩ := hP.2.2.1 i y
        refine e_iconst (v := nI 1) rfl ic_1N ?_
        refine e_goto (tgt := 84) rfl rfl ?_
        refine e_ist4 rfl rfl rfl ?_
        refine e_aload_n rfl rfl ?_
        refine e_getP rfl f10_96 hM.k rfl hM.p43 ?_
        refine e_iload_n rfl rfl ?_
        refine e_iload_n rfl rfl ?_
        first | refine e_iastoreN rfl hM.a43 (by omega) (by omega) ?_ | (refine e_iastore rfl hM.a43 ?_ ?_; rotate_left)
        refine e_aload_n rfl rfl ?_
        refine e_getP rfl f10_99 hM.k rfl hM.p44 ?_
        refine e_iload_n rfl rfl ?_
        refine e_iload rfl rfl ?_
        refine e_if_eq (tgt := 112) rfl rfl (fun z => absurd z (by decide)) (fun _ => ?_)
        refine e_aload_n rfl rfl ?_
        refine e_getP rfl f10_37 hM.k rfl hM.p11 ?_
        refine e_iload_n rfl rfl ?_
        first | refine e_ialoadN rfl hM.a11 (by omega) (by omega) ?_ | (refine e_iaload rfl hM.a11 ?_ ?_; rotate_left)
        rw [u2_ne _ _ (by omega), pl 112 (by omega) (by omega), p7]
        refine e_goto (tgt := 113) rfl rfl ?_
        first | refine e_iastoreN rfl hM.a44 (by omega) (by omega) ?_ | (refine e_iastore rfl hM.a44 ?_ ?_; rotate_left)
        refine e_aload_n rfl rfl ?_
        refine e_getP rfl f10_102 hM.k rfl hM.p45 ?_
        refine e_iload_n rfl rfl ?_
        refine e_iload rfl rfl ?_
        refine e_if_eq (tgt := 133) rfl rfl (fun z => absurd z (by decide)) (fun _ => ?_)
        refine e_aload_n rfl rfl ?_
        refine e_getP rfl f10_31 hM.k rfl hM.p9 ?_
        refine e_iload_n rfl rfl ?_
        first | refine e_ialoadN rfl hM.a9 (by omega) (by omega) ?_ | (refine e_iaload rfl hM.a9 ?_ ?_; rotate_left)
        rw [u2_ne _ _ (by omega), u2_ne _ _ (by omega), pl 110 (by omega) (by omega), p5]
        refine e_goto (tgt := 134) rfl rfl ?_
        first | refine e_iastoreN rfl hM.a45 (by omega) (by omega) ?_ | (refine e_iastore rfl hM.a45 ?_ ?_; rotate_left)
        refine e_aload_n rfl rfl ?_
        refine e_getP rfl f10_105 hM.k rfl hM.p46 ?_
        refine e_iload_n rfl rfl ?_
        refine e_iload rfl rfl ?_
        refine e_if_eq (tgt := 149) rfl rfl (fun z => absurd z (by decide)) (fun _ => ?_)
        refine e_iconst (v := nI 0) rfl ic_0N ?_
        refine e_goto (tgt := 150) rfl rfl ?_
        first | refine e_iastoreN rfl hM.a46 (by omega) (by omega) ?_ | (refine e_iastore rfl hM.a46 ?_ ?_; rotate_left)
        refine e_aload_n rfl rfl ?_
        refine e_getP rfl f10_108 hM.k rfl hM.p47 ?_
        refine e_iload_n rfl rfl ?_
        refine e_iconst (v := nI 0) rfl ic_0N ?_
        first | refine e_iastoreN rfl hM.a47 (by omega) (by omega) ?_ | (refine e_iastore rfl hM.a47 ?_ ?_; rotate_left)
        refine e_aload_n rfl rfl ?_
        refine e_getP rfl f10_111 hM.k rfl hM.p48 ?_
        refine e_iload_n rfl rfl ?_
        refine e_iconst (v := nI 0) rfl ic_0N ?_
        first | refine e_iastoreN rfl hM.a48 (by omega) (by omega) ?_ | (refine e_iastore rfl hM.a48 ?_ ?_; rotate_left)
        first | refine e_inc2 rfl rfl rfl (incN1 _) ?_ | refine e_inc2 rfl rfl rfl rfl ?_
        refine e_goto (tgt := 56) rfl rfl ?_
        exact ih (i + 1) _ _ _ (by omega) (wr _ _ _ (fun _ => ⟨rfl, rfl, rfl⟩)) kk
theorem st_loop2 (hM : MK K) (hf : f < 23) {I0 : IM} {v3 v4 : Value} : ∀ k i I1, i + k = 8 → ST P I0 I1 f 8 i → (∀ I', ST P I0 I' f 8 8 → Q none (I', J, K)) → Gw l G d m10_starts 173 [.ref 102, .int (nI f), .int (nI i), v3, v4] [] (I1, J, K) Q := by
  intro k
  induction k with
  | zero =>
    intro i I1 hi hC kk
    obtain rfl : i = 8 := by omega
    refine e_iload_n rfl rfl ?_
    refine e_bipush (v := nI 8) rfl bp_8N ?_
    first | refine e_icmp_geN (tgt := 197) rfl rfl (by omega) (by omega) (fun z => ?_) (fun z => ?_) | refine e_icmp_ge (tgt := 197) rfl rfl (fun z => ?_) (fun z => ?_)
    · refine e_return rfl rfl ?_
      exact kk I1 hC
    · omega
  | succ k ih =>
    intro i I1 hi hC kk
    obtain ⟨c1, c2, c3, c4⟩ := hC
    refine e_iload_n rfl rfl ?_
    refine e_bipush (v := nI 8) rfl bp_8N ?_
    first | refine e_icmp_geN (tgt := 197) rfl rfl (by omega) (by omega) (fun z => ?_) (fun z => ?_) | refine e_icmp_ge (tgt := 197) rfl rfl (fun z => ?_) (fun z => ?_)
    · omega
    · refine e_aload_n rfl rfl ?_
      refine e_getP rfl f10_114 hM.k rfl hM.p49 ?_
      refine e_bipush (v := nI 8) rfl bp_8N ?_
      refine e_iload_n rfl rfl ?_
      first | refine e_imulN rfl ?_ | refine e_imul rfl ?_
      refine e_iload_n rfl rfl ?_
      first | refine e_iaddN rfl ?_ | refine e_iadd rfl ?_
      refine e_iconst (v := nI 0) rfl ic_0N ?_
      first | refine e_iastoreN rfl hM.a49 (by omega) (by omega) ?_ | (refine e_iastore rfl hM.a49 ?_ ?_; rotate_left)
      first | refine e_inc2 rfl rfl rfl (incN1 _) ?_ | refine e_inc2 rfl rfl rfl rfl ?_
      refine e_goto (tgt := 173) rfl rfl ?_
      refine ih (i + 1) _ (by omega) ⟨fun c x hx => ?_, ?_, fun t ht => ?_, fun w hw => ?_⟩ kk
      · rw [u2, if_neg (fun e => hx (by rw [e.1, e.2]; exact on8 (by omega) (by omega) (by omega)))]
        exact c1 c x hx
      · simp (disch := omega) only [u2_ne]
        exact c2
      · simp (disch := omega) only [u2_ne]
        exact c3 t ht
      · by_cases q : w = i
        · subst q
          rw [u2_at]; rfl
        · rw [u2_nk _ _ (by omega)]
          exact c4 w (by omega)
theorem c10_starts (hM : MK K) (hP : MP I P) (hX : wfX P) (hf : f < 23) : Cw l G d m10_starts [.ref 102, .int (nI f)] (I, J, K) (fun r h' => r = none ∧ ∃ I', h' = (I', J, K) ∧ ST P I I' f 8 8) := by
  have h8 := hX.1.1.2.1
  obtain ⟨-, -, -, -, e4, e5, e6, -⟩ := hP.1
  refine Cw.of ok10_starts rfl (rfl : argL _ _ = [.ref 102, .int (nI f), .null, .null, .null]) ?_
  refine e_aload_n rfl rfl ?_
  refine e_getP rfl f10_78 hM.k rfl hM.p37 ?_
  refine e_iload_n rfl rfl ?_
  refine e_iconst (v := nI 0) rfl ic_0N ?_
  first | refine e_iastoreN rfl hM.a37 (by omega) (by omega) ?_ | (refine e_iastore rfl hM.a37 ?_ ?_; rotate_left)
  refine e_aload_n rfl rfl ?_
  refine e_getP rfl f10_81 hM.k rfl hM.p38 ?_
  refine e_iload_n rfl rfl ?_
  refine e_aload_n rfl rfl ?_
  refine e_getP rfl f10_13 hM.k rfl hM.p3 ?_
  refine e_bipush (v := nI 6) rfl bp_6N ?_
  first | refine e_ialoadN rfl hM.a3 (by omega) (by omega) ?_ | (refine e_iaload rfl hM.a3 ?_ ?_; rotate_left)
  rw [u2_ne _ _ (by omega), e6]
  first | refine e_iastoreN rfl hM.a38 (by omega) (by omega) ?_ | (refine e_iastore rfl hM.a38 ?_ ?_; rotate_left)
  refine e_aload_n rfl rfl ?_
  refine e_getP rfl f10_84 hM.k rfl hM.p39 ?_
  refine e_iload_n rfl rfl ?_
  refine e_aload_n rfl rfl ?_
  refine e_getP rfl f10_13 hM.k rfl hM.p3 ?_
  refine e_iconst (v := nI 4) rfl ic_4N ?_
  first | refine e_ialoadN rfl hM.a3 (by omega) (by omega) ?_ | (refine e_iaload rfl hM.a3 ?_ ?_; rotate_left)
  rw [u2_ne _ _ (by omega), u2_ne _ _ (by omega), e4]
  first | refine e_iastoreN rfl hM.a39 (by omega) (by omega) ?_ | (refine e_iastore rfl hM.a39 ?_ ?_; rotate_left)
  refine e_aload_n rfl rfl ?_
  refine e_getP rfl f10_87 hM.k rfl hM.p40 ?_
  refine e_iload_n rfl rfl ?_
  refine e_iconst (v := nI 0) rfl ic_0N ?_
  first | refine e_iastoreN rfl hM.a40 (by omega) (by omega) ?_ | (refine e_iastore rfl hM.a40 ?_ ?_; rotate_left)
  refine e_aload_n rfl rfl ?_
  refine e_getP rfl f10_90 hM.k rfl hM.p41 ?_
  refine e_iload_n rfl rfl ?_
  refine e_iconst (v := nI 0) rfl ic_0N ?_
  first | refine e_iastoreN rfl hM.a41 (by omega) (by omega) ?_ | (refine e_iastore rfl hM.a41 ?_ ?_; rotate_left)
  refine e_aload_n rfl rfl ?_
  refine e_getP rfl f10_93 hM.k rfl hM.p42 ?_
  refine e_iload_n rfl rfl ?_
  refine e_bipush (v := nI 8) rfl bp_8N ?_
  first | refine e_iastoreN rfl hM.a42 (by omega) (by omega) ?_ | (refine e_iastore rfl hM.a42 ?_ ?_; rotate_left)
  refine e_iconst (v := nI 0) rfl ic_0N ?_
  refine e_ist2 rfl rfl rfl ?_
  refine st_loop1 (I0 := I) hM hP h8 hf (fun _ _ _ => rfl) 8 0 _ _ _ (by omega) ⟨fun c x hx => ?_, ?_, fun t ht => absurd ht (by omega), fun w hw => absurd hw (by omega)⟩ (fun I1 C1 v2 v3 v4 => ?_)
  · have q : ∀ c', 124 ≤ c' → c' ≤ 129 → ¬ (c = c' ∧ x = f) := fun c' a b e => hx (by rw [e.1, e.2]; exact on1 a b)
    unfold u2
    rw [if_neg (q 129 (by omega) (by omega)), if_neg (q 128 (by omega) (by omega)), if_neg (q 127 (by omega) (by omega)), if_neg (q 126 (by omega) (by omega)), if_neg (q 125 (by omega) (by omega)), if_neg (q 124 (by omega) (by omega))]
  · simp (disch := omega) only [u2_ne, u2_at, u2_nk]
    exact ⟨rfl, trivial, rfl, rfl, trivial, trivial⟩
  · refine e_iconst (v := nI 0) rfl ic_0N ?_
    refine e_ist2 rfl rfl rfl ?_
    exact st_loop2 (I0 := I) hM hf 8 0 I1 (by omega) C1 (fun I2 C2 => ⟨rfl, I2, rfl, C2⟩)
theorem goesOn_loop (hM : MK K) (hX : wfX P) (hn : P.1 1 = n) {N : Nat} (hN : N ≤ 99) {way sp : Int32} : ∀ k i I J S, i + k = N → MP I P → RM I 1 n S B → W1 n S → I 102 52 = way → I 102 53 = sp → (∀ I' J', FM 1 I J I' J' → RM I' 1 n (itS (paS P false way sp n) k S) B → Q none (I', J', K)) → Gw l G (d + 7) m10_goesOn 2 [.ref 102, .int (nI N), .int (nI i)] [] (I, J, K) Q := by
  intro k
  induction k with
  | zero =>
    intro i I J S hi hP hR hW hw hs kk
    refine e_iload_n rfl rfl ?_
    refine e_iload_n rfl rfl ?_
    first | refine e_icmp_geN (tgt := 19) rfl rfl (by omega) (by omega) (fun z => ?_) (fun z => ?_) | refine e_icmp_ge (tgt := 19) rfl rfl (fun z => ?_) (fun z => ?_)
    · refine e_return rfl rfl ?_
      exact kk I J FM.rf hR
    · omega
  | succ k ih =>
    intro i I J S hi hP hR hW hw hs kk
    refine e_iload_n rfl rfl ?_
    refine e_iload_n rfl rfl ?_
    first | refine e_icmp_geN (tgt := 19) rfl rfl (by omega) (by omega) (fun z => ?_) (fun z => ?_) | refine e_icmp_ge (tgt := 19) rfl rfl (fun z => ?_) (fun z => ?_)
    · omega
    · refine e_aload_n rfl rfl ?_
      refine e_iconst (v := nI 1) rfl ic_1N ?_
      refine e_iconst (v := nI 0) rfl ic_0N ?_
      refine e_callV (kd := 10) (M2 := m10_passes) rfl v10_387 ok10_passes (c10_passes (d := d) hM hP hX hn hR hW (by omega) false hw hs) rfl hM.k rfl rfl rfl rfl (fun r1 h1 q1 => ?_)
      obtain ⟨rfl, I1, J1, rfl, g1, R1⟩ := q1
      first | refine e_inc2 rfl rfl rfl (incN1 _) ?_ | refine e_inc2 rfl rfl rfl rfl ?_
      refine e_goto (tgt := 2) rfl rfl ?_
      exact ih (i + 1) I1 J1 _ (by omega) (hP.fm g1) R1 (W1_pa hW) (by rw [g1.obj (by omega)]; exact hw) (by rw [g1.obj (by omega)]; exact hs) (fun I2 J2 g2 R2 => kk I2 J2 (g1.tr g2) R2)
theorem c10_goesOn (hM : MK K) (hP : MP I P) (hX : wfX P) (hn : P.1 1 = n) (hR : RM I 1 n S B) (hW : W1 n S) {N : Nat} (hN : N ≤ 99) {way sp : Int32} (hw : I 102 52 = way) (hs : I 102 53 = sp) : Cw l G (d + 7) m10_goesOn [.ref 102, .int (nI N)] (I, J, K) (fun r h' => r = none ∧ ∃ I' J', h' = (I', J', K) ∧ FM 1 I J I' J' ∧ RM I' 1 n (itS (paS P false way sp n) N S) B) := by
  refine Cw.of ok10_goesOn rfl (rfl : argL _ _ = [.ref 102, .int (nI N), .null]) ?_
  refine e_iconst (v := nI 0) rfl ic_0N ?_
  refine e_ist2 rfl rfl rfl ?_
  exact goesOn_loop hM hX hn hN N 0 I J S (by omega) hP hR hW hw hs (fun I1 J1 g1 R1 => ⟨rfl, I1, J1, rfl, g1, R1⟩)
theorem pa_0 {sp : Int32} {dr : Bool} : paS P dr (nI 0) sp n = pa0 P dr n := funext fun S => pa_sp (by decide)
/-- the run's store as now, and on -/
theorem FM.of_cp {to as i j : Nat} {I I' : IM} {J : JM} (h : CP I I' to as i j) : FM to I J I' J := ⟨fun c x a _ => h.1 c x a, fun _ _ _ => rfl⟩
theorem FM.of_st {i j : Nat} {I I' : IM} {J : JM} (h : ST P I I' f i j) : FM f I J I' J := ⟨fun c x a _ => h.1 c x a, fun _ _ _ => rfl⟩
theorem RM.fm {f g : Nat} {I I' : IM} {J J' : JM} (h : RM I f n S B) (hn : n ≤ 8) (e : FM g I J I' J') (hfg : f ≠ g) : RM I' f n S B := h.frame hn (fun c i q => e.1 c i (by unfold onF at q ⊢; omega) (by unfold onF at q; omega))
theorem c10_runs (hM : MK K) (hP : MP I P) (hX : wfX P) (hn : P.1 1 = n) (hR : RM I 0 n S B) (hW : W1 n S) {N : Nat} (hN : N ≤ 99) {sp : Int32} (hw : I 102 52 = nI 0) (hs : I 102 53 = sp) : Cw l G (d + 8) m10_runs [.ref 102, .int (nI N)] (I, J, K) (fun r h' => r = none ∧ ∃ I' J', h' = (I', J', K) ∧ FM 1 I J I' J' ∧ RM I' 1 n (itS (pa0 P false n) N S) B) := by
  have h8 := hX.1.1.2.1
  refine Cw.of ok10_runs rfl (rfl : argL _ _ = [.ref 102, .int (nI N)]) ?_
  refine e_aload_n rfl rfl ?_
  refine e_iconst (v := nI 1) rfl ic_1N ?_
  refine e_iconst (v := nI 0) rfl ic_0N ?_
  refine e_callV (kd := 10) (M2 := m10_copies) rfl v10_391 ok10_copies (c10_copies (d := d + 7) (to := 1) (as := 0) hM (by omega) (by omega) (by omega)) rfl hM.k rfl rfl rfl rfl (fun r1 h1 q1 => ?_)
  obtain ⟨rfl, I1, rfl, C1⟩ := q1
  have g1 : FM 1 I J I1 J := FM.of_cp C1
  refine e_aload_n rfl rfl ?_
  refine e_iload_n rfl rfl ?_
  refine e_callV (kd := 10) (M2 := m10_goesOn) rfl v10_394 ok10_goesOn (c10_goesOn (d := d) (way := nI 0) (sp := sp) hM (hP.fm g1) hX hn (hR.cp (by omega) C1) hW hN (by rw [g1.obj (by omega)]; exact hw) (by rw [g1.obj (by omega)]; exact hs)) rfl hM.k rfl rfl rfl rfl (fun r1 h1 q1 => ?_)
  obtain ⟨rfl, I2, J2, rfl, g2, R2⟩ := q1
  refine e_return rfl rfl ?_
  rw [pa_0] at R2
  exact ⟨rfl, I2, J2, rfl, g1.tr g2, R2⟩
end MCopy
