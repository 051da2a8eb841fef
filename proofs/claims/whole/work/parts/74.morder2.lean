/-! ===== the reference: order ===== -/
def FRw (I : IM) (J : JM) (I' : IM) (J' : JM) : Prop := (∀ c i, ¬ onF 1 c i → ¬ (c = 102 ∧ (i = 36 ∨ i = 58)) → c ≠ 138 → c ≠ 139 → I' c i = I c i) ∧ ∀ c, c ≠ 122 → c ≠ 123 → J' c = J c
theorem FRw.rf {I : IM} {J : JM} : FRw I J I J := ⟨fun _ _ _ _ _ _ => rfl, fun _ _ _ => rfl⟩
theorem FRw.tr {I I1 I2 : IM} {J J1 J2 : JM} (h : FRw I J I1 J1) (g : FRw I1 J1 I2 J2) : FRw I J I2 J2 := ⟨fun c i a b e f => (g.1 c i a b e f).trans (h.1 c i a b e f), fun c a b => (g.2 c a b).trans (h.2 c a b)⟩
theorem FRw.of {I I' : IM} {J J' : JM} (h : FM 1 I J I' J') : FRw I J I' J' := ⟨fun c i a b _ _ => h.1 c i a (fun q => b ⟨q.1, Or.inl q.2⟩), h.2⟩
theorem FRw.fq {I I' : IM} {J J' : JM} (h : FRw I J I' J') : FQm I J I' J' := ⟨fun c i a b _ e f _ => h.1 c i a (fun q => b ⟨q.1, q.2.elim (fun w => Or.inr (Or.inl w)) (fun w => Or.inr (Or.inr (Or.inr w)))⟩) e f, h.2⟩
def RS (I : IM) (m : Nat) (s : Int32 × List Nat) : Prop := I 102 58 = s.1 ∧ (s.1 = -1 ∨ ∀ j, j < m → I 139 j = nI (s.2.getD j 0))
def PRw (I : IM) (P : Pl) (S : SM) (n m B : Nat) (v : Nat → Nat) : Prop := MP I P ∧ RM I 0 n S B ∧ I 102 52 = nI 0 ∧ I 102 53 = -1 ∧ I 102 57 = nI m ∧ ∀ j, j < m → I 137 j = nI (v j)
theorem PRw.fr {I I' : IM} {J J' : JM} {P : Pl} {S : SM} {n m B : Nat} {v : Nat → Nat} (h : PRw I P S n m B v) (h8 : n ≤ 8) (g : FRw I J I' J') : PRw I' P S n m B v := by
  obtain ⟨h1, h2, h3, h4, h5, h6⟩ := h
  have o : ∀ k, k ≠ 36 → k ≠ 58 → I' 102 k = I 102 k := fun k a b => g.1 102 k (by unfold onF; omega) (by omega) (by omega) (by omega)
  refine ⟨h1.frame (fun c a b => funext fun i => g.1 c i (by unfold onF; omega) (by omega) (by omega) (by omega)), h2.frame h8 (fun c i q => g.1 c i (by unfold onF at q ⊢; omega) (by unfold onF at q; omega) (by unfold onF at q; omega) (by unfold onF at q; omega)), by rw [o 52 (by omega) (by omega)]; exact h3, by rw [o 53 (by omega) (by omega)]; exact h4, by rw [o 57 (by omega) (by omega)]; exact h5, fun j hj => ?_⟩
  rw [g.1 137 j (by unfold onF; omega) (by omega) (by omega) (by omega)]
  exact h6 j hj
section MOrder
variable {l : Launch} {G : GG} {d : Nat} {I : IM} {J : JM} {K : Kt} {Q : Option Value → Hp → Prop} {P : Pl} {S : SM} {im : Bool} {SI : SM} {m : Nat} {T : SM} {kn : Int32} {u : Nat} {Hs : Nat → SM} {B n : Nat}
theorem mrow_loop (hM : MK K) (hX : wfX P) (hn : P.1 1 = n) {g : Nat → Nat} (hm : m ≤ 4) (hg : ∀ j, j < m → g j < n) {x1 x2 : Int32} {v4 : Value} : ∀ k i I J S, i + k = 20 → MP I P → RM I 1 n S B → W1 n S → I 102 52 = nI 0 → I 102 53 = -1 → I 102 57 = nI m → (∀ j, j < m → I 138 j = nI (g j)) → (∀ I' J', FM 1 I J I' J' → RM I' 1 n (rnS (dayO P n m g) i k S) B → ∀ v3, Gw l G (d + 7) m10_rows 106 [.ref 102, .int x1, .int x2, v3, v4] [] (I', J', K) Q) → Gw l G (d + 7) m10_rows 69 [.ref 102, .int x1, .int x2, .int (nI i), v4] [] (I, J, K) Q := by
  have h8 := hX.1.1.2.1
  intro k
  induction k with
  | zero =>
    intro i I J S hi hP hR hW hw hs h57 hr kk
    refine e_iload_n rfl rfl ?_
    refine e_bipush (v := nI 20) rfl bp_20N ?_
    first | refine e_icmp_geN (tgt := 106) rfl rfl (by omega) (by omega) (fun z => ?_) (fun z => ?_) | refine e_icmp_ge (tgt := 106) rfl rfl (fun z => ?_) (fun z => ?_)
    · exact kk I J FM.rf hR _
    · omega
  | succ k ih =>
    intro i I J S hi hP hR hW hw hs h57 hr kk
    have tail : ∀ I1 J1 S1, FM 1 I J I1 J1 → RM I1 1 n S1 B → W1 n S1 → S1 = (if i < m then unsA P S (g i) else S) → Gw l G (d + 7) m10_rows 94 [.ref 102, .int x1, .int x2, .int (nI i), v4] [] (I1, J1, K) Q := by
      intro I1 J1 S1 g1 R1 W1' e1
      have w1 : I1 102 52 = nI 0 := by rw [g1.obj (by omega)]; exact hw
      have s1 : I1 102 53 = -1 := by rw [g1.obj (by omega)]; exact hs
      refine e_aload_n rfl rfl ?_
      refine e_iconst (v := nI 1) rfl ic_1N ?_
      refine e_iconst (v := nI 0) rfl ic_0N ?_
      refine e_callV (kd := 10) (M2 := m10_passes) rfl v10_387 ok10_passes (c10_passes (d := d) (f := 1) (way := nI 0) (sp := -1) hM (hP.fm g1) hX hn R1 W1' (by omega) false w1 s1) rfl hM.k rfl rfl rfl rfl (fun r1 h1 q1 => ?_)
      obtain ⟨rfl, I2, J2, rfl, g2, R2⟩ := q1
      rw [pa_0] at R2
      have g3 := g1.tr g2
      have R3 : RM I2 1 n (dayO P n m g i S) B := by unfold dayO; rw [← e1]; exact R2
      have W3 : W1 n (dayO P n m g i S) := by unfold dayO pa0; rw [← e1]; exact W1_pa W1'
      first | refine e_inc3 rfl rfl rfl (incN1 _) ?_ | refine e_inc3 rfl rfl rfl rfl ?_
      refine e_goto (tgt := 69) rfl rfl ?_
      exact ih (i + 1) I2 J2 _ (by omega) (hP.fm g3) R3 W3 (by rw [g3.obj (by omega)]; exact hw) (by rw [g3.obj (by omega)]; exact hs) (by rw [g3.obj (by omega)]; exact h57) (fun j hj => by rw [g3.row (by omega) (by omega)]; exact hr j hj) (fun I4 J4 g4 R4 => kk I4 J4 (g3.tr g4) R4)
    refine e_iload_n rfl rfl ?_
    refine e_bipush (v := nI 20) rfl bp_20N ?_
    first | refine e_icmp_geN (tgt := 106) rfl rfl (by omega) (by omega) (fun z => ?_) (fun z => ?_) | refine e_icmp_ge (tgt := 106) rfl rfl (fun z => ?_) (fun z => ?_)
    · omega
    · refine e_iload_n rfl rfl ?_
      refine e_aload_n rfl rfl ?_
      refine e_getI rfl f10_425 hM.k rfl ?_
      rw [h57]
      first | refine e_icmp_geN (tgt := 94) rfl rfl (by omega) (by omega) (fun z => ?_) (fun z => ?_) | refine e_icmp_ge (tgt := 94) rfl rfl (fun z => ?_) (fun z => ?_)
      · have y : m ≤ i := by assumption
        exact tail I J S FM.rf hR hW (by rw [if_neg (by omega)])
      · have y : i < m := by assumption
        obtain ⟨ky, k1, k2⟩ := hW.2
        refine e_aload_n rfl rfl ?_
        refine e_iconst (v := nI 1) rfl ic_1N ?_
        refine e_aload_n rfl rfl ?_
        refine e_getP rfl f10_123 hM.k rfl hM.p55 ?_
        refine e_iload_n rfl rfl ?_
        first | refine e_ialoadN rfl hM.a55 (by omega) (by omega) ?_ | (refine e_iaload rfl hM.a55 ?_ ?_; rotate_left)
        rw [hr i y]
        refine e_callV (kd := 10) (M2 := m10_opens) rfl v10_367 ok10_opens (c10_opens (d := d + 2) (f := 1) hM hP hX hn hR (by omega) (hg i y) k1 k2) rfl hM.k rfl rfl rfl rfl (fun r1 h1 q1 => ?_)
        obtain ⟨rfl, I1, J1, rfl, g1, R1⟩ := q1
        exact tail I1 J1 _ g1 R1 hW.uA (by rw [if_pos y])
theorem mbest_cp (hM : MK K) {g : Nat → Nat} (hm : m ≤ 4) {I0 : IM} (h57 : I0 102 57 = nI m) (hr : ∀ j, j < m → I0 138 j = nI (g j)) {x1 x2 x3 : Int32} : ∀ k i I, i + k = m → (∀ c, c ≠ 139 → I c = I0 c) → (∀ j, j < i → I 139 j = nI (g j)) → (∀ I', (∀ c, c ≠ 139 → I' c = I0 c) → (∀ j, j < m → I' 139 j = nI (g j)) → Q none (I', J, K)) → Gw l G d m10_rows 137 [.ref 102, .int x1, .int x2, .int x3, .int (nI i)] [] (I, J, K) Q := by
  intro k
  induction k with
  | zero =>
    intro i I hi h1 h2 kk
    refine e_iload rfl rfl ?_
    refine e_aload_n rfl rfl ?_
    refine e_getI rfl f10_425 hM.k rfl ?_
    rw [h1 102 (by omega), h57]
    first | refine e_icmp_geN (tgt := 166) rfl rfl (by omega) (by omega) (fun z => ?_) (fun z => ?_) | refine e_icmp_ge (tgt := 166) rfl rfl (fun z => ?_) (fun z => ?_)
    · refine e_return rfl rfl ?_
      exact kk I h1 (fun j hj => h2 j (by omega))
    · omega
  | succ k ih =>
    intro i I hi h1 h2 kk
    refine e_iload rfl rfl ?_
    refine e_aload_n rfl rfl ?_
    refine e_getI rfl f10_425 hM.k rfl ?_
    rw [h1 102 (by omega), h57]
    first | refine e_icmp_geN (tgt := 166) rfl rfl (by omega) (by omega) (fun z => ?_) (fun z => ?_) | refine e_icmp_ge (tgt := 166) rfl rfl (fun z => ?_) (fun z => ?_)
    · omega
    · refine e_aload_n rfl rfl ?_
      refine e_getP rfl f10_126 hM.k rfl hM.p56 ?_
      refine e_iload rfl rfl ?_
      refine e_aload_n rfl rfl ?_
      refine e_getP rfl f10_123 hM.k rfl hM.p55 ?_
      refine e_iload rfl rfl ?_
      first | refine e_ialoadN rfl hM.a55 (by omega) (by omega) ?_ | (refine e_iaload rfl hM.a55 ?_ ?_; rotate_left)
      rw [h1 138 (by omega), hr i (by omega)]
      first | refine e_iastoreN rfl hM.a56 (by omega) (by omega) ?_ | (refine e_iastore rfl hM.a56 ?_ ?_; rotate_left)
      first | refine e_inc4 rfl rfl rfl (incN1 _) ?_ | refine e_inc4 rfl rfl rfl rfl ?_
      refine e_goto (tgt := 137) rfl rfl ?_
      refine ih (i + 1) _ (by omega) (fun c hc => (u2_row _ _ hc).trans (h1 c hc)) (fun j hj => ?_) kk
      by_cases c : j = i
      · subst c; rw [u2_at]
      · rw [u2_nk _ _ c]; exact h2 j (by omega)
theorem mrows_in (hM : MK K) (h8 : n ≤ 8) {v : Nat → Nat} (hm : m ≤ 4) (hv : ∀ j, j < m → v j < n) {D f k us : Nat} {g : Nat → Nat} (hk : k < m) (hkf : k + 1 + f = m) (hus : us < 16) (hgn : ∀ j, j < k → g j < n) (hp : PRw I P S n m B v) (hr : ∀ j, j < k → I 138 j = nI (g j)) {v4 : Value}
    (ih : ∀ us g s I J, us < 16 → (∀ j, j < k + 1 → g j < n) → PRw I P S n m B v → (∀ j, j < k + 1 → I 138 j = nI (g j)) → RS I m s → Cw l G D m10_rows [.ref 102, .int (nI (k + 1)), .int (nI us)] (I, J, K) (fun r h' => r = none ∧ ∃ I' J', h' = (I', J', K) ∧ FRw I J I' J' ∧ (∀ j, j < k + 1 → I' 138 j = I 138 j) ∧ RS I' m (rwF m v (stO P n S m) f (k + 1) us g s))) : ∀ c i I1 J1 s, i + c = m → FRw I J I1 J1 → (∀ j, j < k → I1 138 j = I 138 j) → RS I1 m s → (∀ I' J', FRw I J I' J' → (∀ j, j < k → I' 138 j = I 138 j) → RS I' m (lpF (fun i s => if us.testBit i = true then s else rwF m v (stO P n S m) f (k + 1) (us ||| 2 ^ i) (fun j => if j = k then v i else g j) s) c i s) → Q none (I', J', K)) → Gw l G (D + 1) m10_rows 10 [.ref 102, .int (nI k), .int (nI us), .int (nI i), v4] [] (I1, J1, K) Q := by
  intro c
  induction c with
  | zero =>
    intro i I1 J1 s hi g1 e1 r1 kk
    obtain ⟨-, -, -, -, h57, -⟩ := hp.fr h8 g1
    refine e_iload_n rfl rfl ?_
    refine e_aload_n rfl rfl ?_
    refine e_getI rfl f10_425 hM.k rfl ?_
    rw [h57]
    first | refine e_icmp_geN (tgt := 60) rfl rfl (by omega) (by omega) (fun z => ?_) (fun z => ?_) | refine e_icmp_ge (tgt := 60) rfl rfl (fun z => ?_) (fun z => ?_)
    · refine e_return rfl rfl ?_
      exact kk I1 J1 g1 e1 r1
    · omega
  | succ c ihc =>
    intro i I1 J1 s hi g1 e1 r1 kk
    obtain ⟨-, -, -, -, h57, h6⟩ := hp.fr h8 g1
    refine e_iload_n rfl rfl ?_
    refine e_aload_n rfl rfl ?_
    refine e_getI rfl f10_425 hM.k rfl ?_
    rw [h57]
    first | refine e_icmp_geN (tgt := 60) rfl rfl (by omega) (by omega) (fun z => ?_) (fun z => ?_) | refine e_icmp_ge (tgt := 60) rfl rfl (fun z => ?_) (fun z => ?_)
    · omega
    · refine e_iload_n rfl rfl ?_
      refine e_iload_n rfl rfl ?_
      refine e_ishr rfl ?_
      refine e_iconst (v := nI 1) rfl ic_1N ?_
      refine e_iand rfl ?_
      refine e_iconst (v := nI 1) rfl ic_1N ?_
      refine e_icmp_ne (tgt := 30) rfl rfl (fun z => ?_) (fun z => ?_)
      · rw [bit_t (by omega) (by omega)] at z
        have hlt : us ||| 2 ^ i < 16 := Nat.or_lt_two_pow (n := 4) hus (Nat.pow_lt_pow_right (by omega) (by omega) : 2 ^ i < 2 ^ 4)
        refine e_aload_n rfl rfl ?_
        refine e_getP rfl f10_123 hM.k rfl hM.p55 ?_
        refine e_iload_n rfl rfl ?_
        refine e_aload_n rfl rfl ?_
        refine e_getP rfl f10_120 hM.k rfl hM.p54 ?_
        refine e_iload_n rfl rfl ?_
        first | refine e_ialoadN rfl hM.a54 (by omega) (by omega) ?_ | (refine e_iaload rfl hM.a54 ?_ ?_; rotate_left)
        rw [h6 i (by omega)]
        first | refine e_iastoreN rfl hM.a55 (by omega) (by omega) ?_ | (refine e_iastore rfl hM.a55 ?_ ?_; rotate_left)
        refine e_aload_n rfl rfl ?_
        refine e_iload_n rfl rfl ?_
        refine e_iconst (v := nI 1) rfl ic_1N ?_
        first | refine e_iaddN rfl ?_ | refine e_iadd rfl ?_
        refine e_iload_n rfl rfl ?_
        refine e_iconst (v := nI 1) rfl ic_1N ?_
        refine e_iload_n rfl rfl ?_
        refine e_ishl rfl ?_
        rw [sh_p i (by omega)]
        refine e_ior rfl ?_
        rw [nI_or]
        have g2 : FRw I J (u2 I1 138 k (nI (v i))) J1 := g1.tr ⟨fun c x _ _ e _ => u2_ne _ _ e, fun _ _ _ => rfl⟩
        have hr2 : ∀ j, j < k + 1 → u2 I1 138 k (nI (v i)) 138 j = nI (if j = k then v i else g j) := fun j hj => by
          by_cases w : j = k
          · subst w; rw [u2_at, if_pos rfl]
          · rw [u2_nk _ _ w, if_neg w, e1 j (by omega)]; exact hr j (by omega)
        have hg2 : ∀ j, j < k + 1 → (if j = k then v i else g j) < n := fun j hj => by
          by_cases w : j = k
          · rw [if_pos w]; exact hv i (by omega)
          · rw [if_neg w]; exact hgn j (by omega)
        have rs2 : RS (u2 I1 138 k (nI (v i))) m s := ⟨by rw [u2_ne _ _ (by omega)]; exact r1.1, r1.2.imp_right (fun w j hj => by rw [u2_ne _ _ (by omega)]; exact w j hj)⟩
        refine e_callV (kd := 10) (M2 := m10_rows) rfl v10_428 ok10_rows (ih (us ||| 2 ^ i) (fun j => if j = k then v i else g j) s _ J1 hlt hg2 (hp.fr h8 g2) hr2 rs2) rfl hM.k rfl rfl rfl rfl (fun r1 h1 q1 => ?_)
        obtain ⟨rfl, I2, J2, rfl, g3, e3, r3⟩ := q1
        first | refine e_inc3 rfl rfl rfl (incN1 _) ?_ | refine e_inc3 rfl rfl rfl rfl ?_
        refine e_goto (tgt := 10) rfl rfl ?_
        refine ihc (i + 1) I2 J2 _ (by omega) (g2.tr g3) (fun j hj => ?_) r3 (fun I4 J4 g4 e4 r4 => kk I4 J4 g4 e4 ?_)
        · rw [e3 j (by omega), u2_nk _ _ (by omega)]; exact e1 j hj
        · rw [lpF, if_neg z]; exact r4
      · rw [bit_t (by omega) (by omega)] at z
        refine e_goto (tgt := 54) rfl rfl ?_
        first | refine e_inc3 rfl rfl rfl (incN1 _) ?_ | refine e_inc3 rfl rfl rfl rfl ?_
        refine e_goto (tgt := 10) rfl rfl ?_
        refine ihc (i + 1) I1 J1 _ (by omega) g1 e1 r1 (fun I4 J4 g4 e4 r4 => kk I4 J4 g4 e4 ?_)
        rw [lpF, if_pos z]; exact r4
theorem c10_rows (hM : MK K) (hX : wfX P) (hn : P.1 1 = n) (hW : W1 n S) {v : Nat → Nat} (hm : m ≤ 4) (hv : ∀ j, j < m → v j < n) : ∀ f D k us g s I J, D = d + f + 7 → k + f = m → us < 16 → (∀ j, j < k → g j < n) → PRw I P S n m B v → (∀ j, j < k → I 138 j = nI (g j)) → RS I m s → Cw l G D m10_rows [.ref 102, .int (nI k), .int (nI us)] (I, J, K) (fun r h' => r = none ∧ ∃ I' J', h' = (I', J', K) ∧ FRw I J I' J' ∧ (∀ j, j < k → I' 138 j = I 138 j) ∧ RS I' m (rwF m v (stO P n S m) f k us g s)) := by
  have h8 := hX.1.1.2.1
  intro f
  induction f with
  | zero =>
    intro D k us g s I J hD hk hus hg hp hr hs
    obtain rfl : D = d + 7 := by omega
    obtain rfl : k = m := by omega
    obtain ⟨p1, p2, p3, p4, p5, p6⟩ := hp
    have eg : goF P n S k (fun j => (L4 k g).getD j 0) = goF P n S k g := goF_congr (fun j hj => L4_get hj)
    refine Cw.of ok10_rows rfl (rfl : argL _ _ = [.ref 102, .int (nI k), .int (nI us), .null, .null]) ?_
    refine e_iload_n rfl rfl ?_
    refine e_aload_n rfl rfl ?_
    refine e_getI rfl f10_425 hM.k rfl ?_
    rw [p5]
    first | refine e_icmp_geN (tgt := 61) rfl rfl (by omega) (by omega) (fun z => ?_) (fun z => ?_) | refine e_icmp_ge (tgt := 61) rfl rfl (fun z => ?_) (fun z => ?_)
    · refine e_aload_n rfl rfl ?_
      refine e_iconst (v := nI 1) rfl ic_1N ?_
      refine e_iconst (v := nI 0) rfl ic_0N ?_
      refine e_callV (kd := 10) (M2 := m10_copies) rfl v10_391 ok10_copies (c10_copies (d := d + 6) (to := 1) (as := 0) hM (by omega) (by omega) (by omega)) rfl hM.k rfl rfl rfl rfl (fun r1 h1 q1 => ?_)
      obtain ⟨rfl, I1, rfl, C1⟩ := q1
      refine e_iconst (v := nI 0) rfl ic_0N ?_
      refine e_ist3 rfl rfl rfl ?_
      have g1 : FM 1 I J I1 J := FM.of_cp C1
      refine mrow_loop hM hX hn hm hg 20 0 I1 J S (by omega) (p1.fm g1) (p2.cp (by omega) C1) hW (by rw [g1.obj (by omega)]; exact p3) (by rw [g1.obj (by omega)]; exact p4) (by rw [g1.obj (by omega)]; exact p5) (fun j hj => by rw [g1.row (by omega) (by omega)]; exact hr j hj) (fun I2 J2 g2 R2 v3 => ?_)
      have g3 := g1.tr g2
      have R0 : RM I2 0 n S B := p2.fm (by omega) g3 (by omega)
      refine e_aload_n rfl rfl ?_
      refine e_getP rfl f10_87 hM.k rfl hM.p40 ?_
      refine e_iconst (v := nI 1) rfl ic_1N ?_
      first | refine e_ialoadN rfl hM.a40 (by omega) (by omega) ?_ | (refine e_iaload rfl hM.a40 ?_ ?_; rotate_left)
      rw [R2.2.2.1.2.2.1]
      refine e_aload_n rfl rfl ?_
      refine e_getP rfl f10_87 hM.k rfl hM.p40 ?_
      refine e_iconst (v := nI 0) rfl ic_0N ?_
      first | refine e_ialoadN rfl hM.a40 (by omega) (by omega) ?_ | (refine e_iaload rfl hM.a40 ?_ ?_; rotate_left)
      rw [R0.2.2.1.2.2.1]
      refine e_isub rfl ?_
      have egF : rnS (dayO P n k g) 0 20 S 10 0 - S 10 0 = goF P n S k g := rfl
      rw [egF]
      refine e_ist3 rfl rfl rfl ?_
      refine e_iload_n rfl rfl ?_
      refine e_aload_n rfl rfl ?_
      refine e_getI rfl f10_431 hM.k rfl ?_
      rw [g3.obj (by omega), hs.1]
      have es : rwF k v (stO P n S k) 0 k us g s = (if s.1 < goF P n S k g then (goF P n S k g, L4 k g) else s) := by
        rw [rwF, stO, eg]
      rw [es]
      refine e_icmp_gt (tgt := 129) rfl rfl (fun z => ?_) (fun z => ?_)
      · rw [if_pos z]
        refine e_aload_n rfl rfl ?_
        refine e_iload_n rfl rfl ?_
        refine e_putI rfl f10_431 hM.k rfl rfl ?_
        refine e_iconst (v := nI 0) rfl ic_0N ?_
        refine e_ist4 rfl rfl rfl ?_
        refine mbest_cp (g := g) hM hm (I0 := u2 I2 102 58 (goF P n S k g)) (by rw [u2_nk _ _ (by omega), g3.obj (by omega)]; exact p5) (fun j hj => by rw [u2_ne _ _ (by omega), g3.row (by omega) (by omega)]; exact hr j hj) k 0 _ (by omega) (fun _ _ => rfl) (fun j hj => absurd hj (by omega)) (fun I4 h4 e4 => ⟨rfl, I4, J2, rfl, (FRw.of g3).tr ⟨fun c i _ b _ e => ?_, fun _ _ _ => rfl⟩, fun j hj => ?_, ?_, Or.inr (fun j hj => ?_)⟩)
        · rw [h4 c e]; exact if_neg (fun q => b ⟨q.1, Or.inr q.2⟩)
        · rw [h4 138 (by omega), u2_ne _ _ (by omega), g3.row (by omega) (by omega)]
        · rw [h4 102 (by omega), u2_at]
        · rw [e4 j hj, L4_get hj]
      · rw [if_neg z]
        refine e_return rfl rfl ?_
        refine ⟨rfl, I2, J2, rfl, FRw.of g3, fun j hj => by rw [g3.row (by omega) (by omega)], by rw [g3.obj (by omega)]; exact hs.1, hs.2.imp_right (fun w j hj => by rw [g3.row (by omega) (by omega)]; exact w j hj)⟩
    · omega
  | succ f ih =>
    intro D k us g s I J hD hk hus hg hp hr hs
    obtain ⟨D', rfl⟩ : ∃ D', D = D' + 1 := ⟨d + f + 7, by omega⟩
    have h57 := hp.2.2.2.2.1
    refine Cw.of ok10_rows rfl (rfl : argL _ _ = [.ref 102, .int (nI k), .int (nI us), .null, .null]) ?_
    refine e_iload_n rfl rfl ?_
    refine e_aload_n rfl rfl ?_
    refine e_getI rfl f10_425 hM.k rfl ?_
    rw [h57]
    first | refine e_icmp_geN (tgt := 61) rfl rfl (by omega) (by omega) (fun z => ?_) (fun z => ?_) | refine e_icmp_ge (tgt := 61) rfl rfl (fun z => ?_) (fun z => ?_)
    · omega
    · refine e_iconst (v := nI 0) rfl ic_0N ?_
      refine e_ist3 rfl rfl rfl ?_
      refine mrows_in (g := g) hM (by omega) hm hv (by omega) (by omega) hus hg hp hr (fun us g s I J a b c e r => ih D' (k + 1) us g s I J (by omega) (by omega) a b c e r) m 0 I J s (by omega) FRw.rf (fun _ _ => rfl) hs (fun I' J' f1 e1 r1 => ⟨rfl, I', J', rfl, f1, e1, ?_⟩)
      rw [rwF]
      exact r1
theorem mfirst_loop (hM : MK K) (h8 : n ≤ 8) {I0 : IM} (hn1 : I0 104 1 = nI n) (hR : RM I0 0 n S B) {x : Int32} : ∀ k i m f I, i + k = n → m ≤ 4 → m ≤ i → (∀ c y, c ≠ 137 → ¬ (c = 102 ∧ y = 57) → I c y = I0 c y) → I 102 57 = nI m → (∀ j, j < m → I 137 j = nI (f j)) → (∀ I', (∀ c y, c ≠ 137 → ¬ (c = 102 ∧ y = 57) → I' c y = I0 c y) → I' 102 57 = nI (fcF S k i m f).1 → (∀ j, j < (fcF S k i m f).1 → I' 137 j = nI ((fcF S k i m f).2 j)) → ∀ v, Gw l G (d + 1) m10_order 79 [.ref 102, .int x, v] [] (I', J, K) Q) → Gw l G (d + 1) m10_order 23 [.ref 102, .int x, .int (nI i)] [] (I, J, K) Q := by
  intro k
  induction k with
  | zero =>
    intro i m f I hi hm hmi g h57 hf kk
    refine e_iload_n rfl rfl ?_
    refine e_aload_n rfl rfl ?_
    refine e_getP rfl f10_13 hM.k rfl hM.p3 ?_
    refine e_iconst (v := nI 1) rfl ic_1N ?_
    first | refine e_ialoadN rfl hM.a3 (by omega) (by omega) ?_ | (refine e_iaload rfl hM.a3 ?_ ?_; rotate_left)
    rw [g 104 1 (by omega) (by omega), hn1]
    first | refine e_icmp_geN (tgt := 79) rfl rfl (by omega) (by omega) (fun z => ?_) (fun z => ?_) | refine e_icmp_ge (tgt := 79) rfl rfl (fun z => ?_) (fun z => ?_)
    · exact kk I g h57 hf _
    · omega
  | succ k ih =>
    intro i m f I hi hm hmi g h57 hf kk
    have z0 := (hR.z (by omega : i < n)).1
    rw [fcF] at kk
    refine e_iload_n rfl rfl ?_
    refine e_aload_n rfl rfl ?_
    refine e_getP rfl f10_13 hM.k rfl hM.p3 ?_
    refine e_iconst (v := nI 1) rfl ic_1N ?_
    first | refine e_ialoadN rfl hM.a3 (by omega) (by omega) ?_ | (refine e_iaload rfl hM.a3 ?_ ?_; rotate_left)
    rw [g 104 1 (by omega) (by omega), hn1]
    first | refine e_icmp_geN (tgt := 79) rfl rfl (by omega) (by omega) (fun z => ?_) (fun z => ?_) | refine e_icmp_ge (tgt := 79) rfl rfl (fun z => ?_) (fun z => ?_)
    · omega
    · refine e_aload_n rfl rfl ?_
      refine e_getI rfl f10_425 hM.k rfl ?_
      rw [h57]
      refine e_iconst (v := nI 4) rfl ic_4N ?_
      first | refine e_icmp_geN (tgt := 79) rfl rfl (by omega) (by omega) (fun z => ?_) (fun z => ?_) | refine e_icmp_ge (tgt := 79) rfl rfl (fun z => ?_) (fun z => ?_)
      · rw [if_pos (by omega)] at kk
        exact kk I g h57 hf _
      · rw [if_neg (by omega)] at kk
        refine e_aload_n rfl rfl ?_
        refine e_iconst (v := nI 0) rfl ic_0N ?_
        refine e_iload_n rfl rfl ?_
        refine e_callVp (kd := 10) (M2 := m10_isClosed) rfl v10_333 ok10_isClosed (c10_isClosed (d := d) (f := 0) hM (by omega) (by omega)) rfl hM.k rfl rfl rfl rfl ?_
        rw [show 8 * 0 + i = i by omega, g 133 i (by omega) (by omega), z0]
        refine e_if_neB (tgt := 53) rfl rfl (fun z => ?_) (fun z => ?_)
        · rw [if_pos (of_decide_eq_true z)] at kk
          refine e_aload_n rfl rfl ?_
          refine e_getP rfl f10_120 hM.k rfl hM.p54 ?_
          refine e_aload_n rfl rfl ?_
          refine e_getI rfl f10_425 hM.k rfl ?_
          rw [h57]
          refine e_iload_n rfl rfl ?_
          first | refine e_iastoreN rfl hM.a54 (by omega) (by omega) ?_ | (refine e_iastore rfl hM.a54 ?_ ?_; rotate_left)
          refine e_aload_n rfl rfl ?_
          refine e_dup rfl rfl ?_
          refine e_getI rfl f10_425 hM.k rfl ?_
          rw [u2_ne _ _ (by omega), h57]
          refine e_iconst (v := nI 1) rfl ic_1N ?_
          first | refine e_iaddN rfl ?_ | refine e_iadd rfl ?_
          refine e_putI rfl f10_425 hM.k rfl rfl ?_
          first | refine e_inc2 rfl rfl rfl (incN1 _) ?_ | refine e_inc2 rfl rfl rfl rfl ?_
          refine e_goto (tgt := 23) rfl rfl ?_
          refine ih (i + 1) (m + 1) _ _ (by omega) (by omega) (by omega) (fun c y a b => ?_) (u2_at _ _ _ _) (fun j hj => ?_) kk
          · rw [u2, if_neg b, u2_ne _ _ a]; exact g c y a b
          · rw [u2_ne _ _ (by omega)]
            by_cases e : j = m
            · subst e; rw [u2_at, if_pos rfl]
            · rw [u2_nk _ _ e, if_neg e]; exact hf j (by omega)
        · rw [if_neg (of_decide_eq_false z)] at kk
          refine e_goto (tgt := 73) rfl rfl ?_
          first | refine e_inc2 rfl rfl rfl (incN1 _) ?_ | refine e_inc2 rfl rfl rfl rfl ?_
          refine e_goto (tgt := 23) rfl rfl ?_
          exact ih (i + 1) m f I (by omega) hm (by omega) g h57 hf kk
theorem c10_order (hM : MK K) (hI : MI I P S im SI m T kn u Hs B) (hn : P.1 1 = n) (hW : W1 n S) (x : Int32) : Cw l G (d + 12) m10_order [.ref 102, .int x] (I, J, K) (fun r h' => r = some (.int (a_order P n S x)) ∧ MPst I J K h' P S im SI m T kn u Hs (B + 2)) := by
  have g0 : FQm I J (u2 I 102 0 (nI 0)) J := FQm.w0
  have hI1 := hI.t0 J
  obtain ⟨p1, p2, p3, p4, p5, p6, p7, p8, p9⟩ := hI1
  rw [hn] at p3
  have h8 := p2.1.1.2.1
  have hn1 : (u2 I 102 0 (nI 0)) 104 1 = nI n := by rw [← hn]; exact p1.1.2.1
  have no : ¬ inN 5 x = true → ∀ v, Gw l G (d + 12) m10_order 14 [.ref 102, .int x, v] [] (u2 I 102 0 (nI 0), J, K) (fun r h' => r = some (.int (a_order P n S x)) ∧ MPst I J K h' P S im SI m T kn u Hs (B + 2)) := by
    intro hno v
    rw [a_order, if_neg hno]
    refine e_iconst rfl ic_m1 ?_
    refine e_ireturn rfl rfl ?_
    exact ⟨rfl, hI.fin g0⟩
  refine Cw.of ok10_order rfl (rfl : argL _ _ = [.ref 102, .int x, .null]) ?_
  refine e_aload_n rfl rfl ?_
  refine e_iconst (v := nI 0) rfl ic_0N ?_
  refine e_putI rfl f10_151 hM.k rfl rfl ?_
  refine e_iload_n rfl rfl ?_
  refine e_if_lt (tgt := 14) rfl rfl (fun y => ?_) (fun y0 => ?_)
  · exact no (fun q => (inN_lo (k := 4) (by omega) q).1 y) _
  · refine e_iload_n rfl rfl ?_
    refine e_iconst (v := nI 4) rfl ic_4N ?_
    refine e_icmp_le (tgt := 16) rfl rfl (fun y1 => ?_) (fun y1 => ?_)
    · have hx : inN 5 x = true := inN_hi (k := 4) (by omega) y0 y1
      obtain ⟨f1, f2, f3⟩ := fcF_in (S := S) (n := n) n 0 0 (fun _ => 0) (by omega) (by omega) (fun j hj => absurd hj (by omega)) (fun a b h1 h2 => absurd h2 (by omega))
      obtain ⟨o1, o2⟩ := or_rw (P := P) (n := n) (S := S) f1 f3 (fun _ => 0)
      rw [a_order, if_pos hx]
      obtain ⟨i, hi, rfl⟩ := inN_of (by omega) hx
      refine e_aload_n rfl rfl ?_
      refine e_iconst (v := nI 0) rfl ic_0N ?_
      refine e_putI rfl f10_425 hM.k rfl rfl ?_
      refine e_iconst (v := nI 0) rfl ic_0N ?_
      refine e_ist2 rfl rfl rfl ?_
      refine mfirst_loop (d := d + 11) (I0 := u2 I 102 0 (nI 0)) hM (by omega) hn1 p3 n 0 0 (fun _ => 0) _ (by omega) (by omega) (by omega) (fun c y _ b => if_neg b) (u2_at _ _ _ _) (fun j hj => absurd hj (by omega)) (fun I1 h1 e57 e137 v => ?_)
      generalize hF : fcF S n 0 0 (fun _ => 0) = F at *
      have k1 : FQm (u2 I 102 0 (nI 0)) J (u2 I1 102 58 (-1)) J := ⟨fun c y a b e1 e2 e3 e4 => by rw [u2, if_neg (fun q => b ⟨q.1, Or.inr (Or.inr (Or.inr q.2))⟩)]; exact h1 c y e1 (fun q => b ⟨q.1, Or.inr (Or.inr (Or.inl q.2))⟩), fun _ _ _ => rfl⟩
      have M1 := MI.fq (hI.t0 J) k1
      have R1 : RM (u2 I1 102 58 (-1)) 0 n S (B + 1 + 1) := by have := M1.2.2.1; rw [hn] at this; exact this
      have pr : PRw (u2 I1 102 58 (-1)) P S n F.1 (B + 1 + 1) F.2 := ⟨M1.1, R1, M1.2.2.2.2.2.2.2.1, M1.2.2.2.2.2.2.2.2, by rw [u2_nk _ _ (by omega)]; exact e57, fun j hj => by rw [u2_ne _ _ (by omega)]; exact e137 j hj⟩
      refine e_aload_n rfl rfl ?_
      refine e_iconst rfl ic_m1 ?_
      refine e_putI rfl f10_431 hM.k rfl rfl ?_
      refine e_aload_n rfl rfl ?_
      refine e_iconst (v := nI 0) rfl ic_0N ?_
      refine e_iconst (v := nI 0) rfl ic_0N ?_
      refine e_callV (kd := 10) (M2 := m10_rows) rfl v10_428 ok10_rows (c10_rows (d := d + (4 - F.1)) hM p2 hn hW f1 f2 F.1 (d + 11) 0 0 (fun _ => 0) (-1, []) _ J (by omega) (by omega) (by omega) (fun j hj => absurd hj (by omega)) pr (fun j hj => absurd hj (by omega)) ⟨u2_at _ _ _ _, Or.inl rfl⟩) rfl hM.k rfl rfl rfl rfl (fun r1 h1 q1 => ?_)
      obtain ⟨rfl, I2, J2, rfl, g2, -, r2⟩ := q1
      have fin : MPst I J K (I2, J2, K) P S im SI m T kn u Hs (B + 2) := hI.fin ((g0.tr k1).tr g2.fq)
      have e57' : I2 102 57 = nI F.1 := by rw [g2.1 102 57 (by unfold onF; omega) (by omega) (by omega) (by omega)]; exact pr.2.2.2.2.1
      refine e_iload_n rfl rfl ?_
      refine e_iconst (v := nI 4) rfl ic_4N ?_
      first | refine e_icmp_neN (tgt := 102) rfl rfl (by omega) (by omega) (fun z => ?_) (fun z => ?_) | refine e_icmp_ne (tgt := 102) rfl rfl (fun z => ?_) (fun z => ?_)
      · have y4 : i ≠ 4 := by assumption
        rw [if_neg (ne42 y4 (by omega) (by omega))]
        refine e_iload_n rfl rfl ?_
        refine e_aload_n rfl rfl ?_
        refine e_getI rfl f10_425 hM.k rfl ?_
        rw [e57']
        first | refine e_icmp_geN (tgt := 119) rfl rfl (by omega) (by omega) (fun z => ?_) (fun z => ?_) | refine e_icmp_ge (tgt := 119) rfl rfl (fun z => ?_) (fun z => ?_)
        · rw [if_neg (fun q => absurd ((nI_ltI (by omega) (by omega)).mp q) (by omega))]
          refine e_bipush rfl bp_m2 ?_
          refine e_ireturn rfl rfl ?_
          exact ⟨rfl, fin⟩
        · have y5 : i < F.1 := by assumption
          have eb : I2 139 i = nI ((orF P n S F.1 24 F.2 (-1) (fun _ => 0)).2 i) := by
            rw [o2 i y5]
            refine (r2.2.resolve_left (fun q => ?_)) i y5
            obtain ⟨q1, q2, q3⟩ := goF_in (P := P) (n := n) (m := F.1) (S := S) (g := F.2) (WF_wfQ p2.1)
            rw [← o1] at q
            have hge : (-1 : Int32) < (orF P n S F.1 24 F.2 (-1) (fun _ => 0)).1 := or_pos (WF_wfQ p2.1) 23 _ _ (Or.inl rfl)
            rw [q] at hge
            exact absurd hge (by decide)
          rw [if_pos ((nI_ltI (by omega) (by omega)).mpr y5), nI_clamp (by omega)]
          refine e_aload_n rfl rfl ?_
          refine e_getP rfl f10_126 hM.k rfl hM.p56 ?_
          refine e_iload_n rfl rfl ?_
          first | refine e_ialoadN rfl hM.a56 (by omega) (by omega) ?_ | (refine e_iaload rfl hM.a56 ?_ ?_; rotate_left)
          rw [eb]
          refine e_goto (tgt := 121) rfl rfl ?_
          refine e_ireturn rfl rfl ?_
          exact ⟨rfl, fin⟩
      · have y4 : i = 4 := by assumption
        rw [if_pos (by rw [y4])]
        refine e_aload_n rfl rfl ?_
        refine e_getI rfl f10_431 hM.k rfl ?_
        rw [r2.1, ← o1]
        refine e_goto (tgt := 121) rfl rfl ?_
        refine e_ireturn rfl rfl ?_
        exact ⟨rfl, fin⟩
    · exact no (fun q => absurd (inN_lo (k := 4) (by omega) q).2 y1) _
end MOrder
