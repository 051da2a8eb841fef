/-! ===== WANTS counted; the reference: go, ahead, want, count ===== -/
theorem cF_set {f g : Nat → Bool} {w : Nat} (hf : f w = false) (hg : g w = true) (h : ∀ j, j ≠ w → g j = f j) : ∀ k i, cF g i k = cF f i k + (if i ≤ w ∧ w < i + k then 1 else 0)
  | 0, i => by rw [cF, cF, if_neg (by omega)]
  | k + 1, i => by
    have hc := cF_set hf hg h k (i + 1)
    by_cases e : i = w
    · subst e
      rw [if_neg (by omega)] at hc
      rw [cF, cF, hf, hg, hc, if_pos rfl, if_neg (by decide)]
      rw [if_pos (by omega)]
      omega
    · have a1 : (if i + 1 ≤ w ∧ w < i + 1 + k then 1 else 0 : Nat) = (if i ≤ w ∧ w < i + (k + 1) then 1 else 0) := by
        by_cases c : i ≤ w ∧ w < i + (k + 1)
        · rw [if_pos c, if_pos (by omega)]
        · rw [if_neg c, if_neg (by omega)]
      rw [cF, cF, h i e, hc, a1]
      omega
/-- WANTS: those of days gone are MET or MISSED, i of them today's done -/
def W2 (P : Pl) (i : Nat) (S : SM) : Prop := (∀ w, w < P.1 3 → (S 6 w = 0 ∨ S 6 w = nI 1 ∨ S 6 w = nI 2) ∧ (S 6 w = 0 ↔ (if w < i then S 8 0 < P.2 11 w else S 8 0 ≤ P.2 11 w))) ∧ S 11 0 = nI (cnt (fun w => decide (S 6 w = nI 1)) (P.1 3)) ∧ S 12 0 = nI (cnt (fun w => decide (S 6 w = nI 2)) (P.1 3))
theorem W2.rows {P : Pl} {i : Nat} {S S' : SM} (h : W2 P i S) (h6 : ∀ c, S' 6 c = S 6 c) (h8 : S' 8 0 = S 8 0) (h11 : S' 11 0 = S 11 0) (h12 : S' 12 0 = S 12 0) : W2 P i S' := by
  unfold W2
  rw [show S' 6 = S 6 from funext h6, h8, h11, h12]
  exact h
theorem W2.sv {P : Pl} {n w : Nat} {S : SM} (h : W2 P w S) (hw : w < P.1 3) (busy : Int32) : W2 P (w + 1) (sv1 P n busy S w).2 := by
  obtain ⟨h1, h2, h3⟩ := h
  obtain ⟨a, b⟩ := h1 w hw
  rw [if_neg (Nat.lt_irrefl w)] at b
  rw [sv1_I]
  by_cases c : P.2 11 w = S 8 0
  · rw [if_pos c]
    have z : S 6 w = 0 := b.mpr (by rw [c]; exact Int32.le_refl _)
    have key : ∀ v S', (v = nI 1 ∨ v = nI 2) → S' 6 = u2 S 6 w v 6 → S' 8 0 = S 8 0 → S' 11 0 = (if v = nI 1 then S 11 0 + nI 1 else S 11 0) → S' 12 0 = (if v = nI 2 then S 12 0 + nI 1 else S 12 0) → W2 P (w + 1) S' := by
      intro v S' hv e6 e8 e11 e12
      have at6 : S' 6 w = v := by rw [e6, u2_at]
      have ne6 : ∀ j, j ≠ w → S' 6 j = S 6 j := fun j hj => by rw [e6, u2_nk _ _ hj]
      have v0 : ¬ v = 0 := by rcases hv with rfl | rfl <;> decide
      refine ⟨fun j hj => ?_, ?_, ?_⟩
      · by_cases q : j = w
        · subst q
          rw [at6, e8, if_pos (by omega), c]
          exact ⟨Or.inr hv, ⟨fun z => absurd z v0, fun z => absurd z Int32.lt_irrefl⟩⟩
        · rw [ne6 j q, e8]
          obtain ⟨a', b'⟩ := h1 j hj
          refine ⟨a', b'.trans ?_⟩
          by_cases q2 : j < w
          · rw [if_pos q2, if_pos (by omega)]
          · rw [if_neg q2, if_neg (by omega)]
      · rw [e11]
        by_cases q : v = nI 1
        · rw [if_pos q, h2, nI_add]
          congr 1
          have := cF_set (f := fun w => decide (S 6 w = nI 1)) (g := fun w => decide (S' 6 w = nI 1)) (w := w) (by rw [z]; decide) (by rw [at6]; exact decide_eq_true q) (fun j hj => by rw [ne6 j hj]) (P.1 3) 0
          rw [if_pos (by omega)] at this
          exact this.symm
        · rw [if_neg q, h2]
          congr 1
          exact cF_congr _ _ (fun j _ _ => by
            by_cases q2 : j = w
            · subst q2; rw [at6, z, decide_eq_false q]; decide
            · rw [ne6 j q2])
      · rw [e12]
        by_cases q : v = nI 2
        · rw [if_pos q, h3, nI_add]
          congr 1
          have := cF_set (f := fun w => decide (S 6 w = nI 2)) (g := fun w => decide (S' 6 w = nI 2)) (w := w) (by rw [z]; decide) (by rw [at6]; exact decide_eq_true q) (fun j hj => by rw [ne6 j hj]) (P.1 3) 0
          rw [if_pos (by omega)] at this
          exact this.symm
        · rw [if_neg q, h3]
          congr 1
          exact cF_congr _ _ (fun j _ _ => by
            by_cases q2 : j = w
            · subst q2; rw [at6, z, decide_eq_false q]; decide
            · rw [ne6 j q2])
    unfold svI
    split
    · refine key (nI 2) _ (Or.inr rfl) ?_ ?_ ?_ ?_
      · dsimp only; rw [u2_row _ _ (by omega)]
      · dsimp only; rw [u2_ne _ _ (by omega), u2_ne _ _ (by omega)]
      · dsimp only; rw [if_neg (by decide), u2_ne _ _ (by omega), u2_ne _ _ (by omega)]
      · dsimp only; rw [if_pos rfl, u2_at]
    · refine key (nI 1) _ (Or.inl rfl) ?_ ?_ ?_ ?_
      · dsimp only; rw [u2_row _ _ (by omega), u2_row _ _ (by omega), u2_row _ _ (by omega)]
      · dsimp only; rw [u2_ne _ _ (by omega), u2_ne _ _ (by omega), u2_ne _ _ (by omega), u2_ne _ _ (by omega)]
      · dsimp only; rw [if_pos rfl, u2_ne _ _ (by omega), u2_ne _ _ (by omega), u2_at]
      · dsimp only; rw [if_neg (by decide), u2_ne _ _ (by omega), u2_ne _ _ (by omega), u2_ne _ _ (by omega), u2_ne _ _ (by omega)]
  · rw [if_neg c]
    refine ⟨fun j hj => ?_, h2, h3⟩
    obtain ⟨a', b'⟩ := h1 j hj
    refine ⟨a', b'.trans ?_⟩
    dsimp only
    by_cases q : j = w
    · subst q
      rw [if_neg (Nat.lt_irrefl j), if_pos (by omega)]
      exact ⟨fun z => Int32.lt_of_le_of_ne z (fun q => c q.symm), fun z => Int32.le_of_lt z⟩
    · by_cases q2 : j < w
      · rw [if_pos q2, if_pos (by omega)]
      · rw [if_neg q2, if_neg (by omega)]
theorem W2_svS {P : Pl} {n : Nat} : ∀ k w b S, w + k = P.1 3 → W2 P w S → W2 P (P.1 3) (svS P n w k b S)
  | 0, w, _, _, e, h => by
    obtain rfl : w = P.1 3 := by omega
    exact h
  | k + 1, w, b, S, e, h => by
    rw [svS]
    exact W2_svS k (w + 1) _ _ (by omega) (h.sv (by omega) b)
theorem W2_pa {P : Pl} {dr : Bool} {way sp : Int32} {n : Nat} {S : SM} (hX : WFk P) (h : W2 P 0 S) {D : Nat} (hD : S 8 0 = nI D) (hD2 : D < 2 ^ 30) : W2 P 0 (paS P dr way sp n S) := by
  have h1 : W2 P 0 (otS P way sp n 0 (P.1 2) S) := h.rows (fun c => otS_row (by omega) _ _ _) (otS_row (by omega) _ _ _) (otS_row (by omega) _ _ _) (otS_row (by omega) _ _ _)
  have h2 : W2 P (P.1 3) (svS P n 0 (P.1 3) 0 (otS P way sp n 0 (P.1 2) S)) := W2_svS _ _ _ _ (by omega) h1
  have e2 : svS P n 0 (P.1 3) 0 (otS P way sp n 0 (P.1 2) S) 8 0 = nI D := by rw [svS_row (by omega), otS_row (by omega)]; exact hD
  unfold paS
  dsimp only
  generalize svS P n 0 (P.1 3) 0 (otS P way sp n 0 (P.1 2) S) = S2 at h2 e2
  have r3 : ∀ r c, r ≠ 0 → r ≠ 4 → (if way = nI 5 then S2 else goS 0 n S2) r c = S2 r c := fun r c a b => ite_app rfl (goS_row ⟨a, b⟩ _ _ _)
  generalize (if way = nI 5 then S2 else goS 0 n S2) = S3 at r3
  have r4 : ∀ r c, r ≠ 0 → r ≠ 4 → r ≠ 1 → r ≠ 14 → (if way = nI 1 then S3 else ruS P dr 0 n S3) r c = S2 r c := fun r c a b e g => (ite_app rfl (ruS_row ⟨e, g⟩ _ _ _)).trans (r3 r c a b)
  generalize (if way = nI 1 then S3 else ruS P dr 0 n S3) = S4 at r4
  have r5 : ∀ r c, r ≠ 0 → r ≠ 4 → r ≠ 1 → r ≠ 14 → blS P 0 n S4 r c = S2 r c := fun r c a b e g => (blS_row a _ _ _).trans (r4 r c a b e g)
  generalize blS P 0 n S4 = S5 at r5
  have e8 : S5 8 0 = nI D := (r5 8 0 (by omega) (by omega) (by omega) (by omega)).trans e2
  obtain ⟨w1, w2, w3⟩ := h2
  have f6 : ∀ c, u2 S5 8 0 (S5 8 0 + nI 1) 6 c = S2 6 c := fun c => by rw [u2_ne _ _ (by omega)]; exact r5 6 c (by omega) (by omega) (by omega) (by omega)
  refine ⟨fun w hw => ?_, ?_, ?_⟩
  · obtain ⟨a, b⟩ := w1 w hw
    rw [f6, u2_at, e8, nI_add]
    rw [if_pos hw, e2] at b
    obtain ⟨j, j1, j2⟩ := (hX.2.2.2.2.1 w hw).2.1
    rw [j2] at b ⊢
    refine ⟨a, b.trans ?_⟩
    rw [if_neg (by omega), nI_ltI (by omega) (by omega), nI_leI (by omega) (by omega)]
    omega
  · rw [u2_ne _ _ (by omega), r5 11 0 (by omega) (by omega) (by omega) (by omega), w2]
    congr 1
    exact cF_congr _ _ (fun j _ _ => by rw [f6])
  · rw [u2_ne _ _ (by omega), r5 12 0 (by omega) (by omega) (by omega) (by omega), w3]
    congr 1
    exact cF_congr _ _ (fun j _ _ => by rw [f6])
/-- a state in order, its day D at most -/
def WA (P : Pl) (D : Nat) (S : SM) : Prop := W1 (P.1 1) S ∧ W2 P 0 S ∧ ∃ q, q ≤ D ∧ S 8 0 = nI q
theorem WA.pa {P : Pl} {D : Nat} {S : SM} (h : WA P D S) (hX : WFk P) (hD : D < 2 ^ 29) (dr : Bool) (way sp : Int32) : WA P (D + 1) (paS P dr way sp (P.1 1) S) := by
  obtain ⟨h1, h2, q, q1, q2⟩ := h
  exact ⟨W1_pa h1, W2_pa hX h2 q2 (by omega), q + 1, by omega, by rw [pa_day, q2, nI_add]⟩
theorem WA.it {P : Pl} (hX : WFk P) {dr : Bool} {way sp : Int32} : ∀ k {D : Nat} {S : SM}, WA P D S → D + k < 2 ^ 29 → WA P (D + k) (itS (paS P dr way sp (P.1 1)) k S)
  | 0, _, _, h, _ => h
  | k + 1, D, S, h, e => by
    have := WA.it hX (dr := dr) (way := way) (sp := sp) k (h.pa hX (by omega) dr way sp) (by omega)
    rw [show D + 1 + k = D + (k + 1) by omega] at this
    exact this
theorem WA.mono {P : Pl} {D D' : Nat} {S : SM} (h : WA P D S) (e : D ≤ D') : WA P D' S := by
  obtain ⟨h1, h2, q, q1, q2⟩ := h
  exact ⟨h1, h2, q, by omega, q2⟩
theorem WA.wfS {P : Pl} {D : Nat} {S : SM} (h : WA P D S) (hD : D ≤ 20000) : wfS P S := by
  obtain ⟨⟨h1, h1'⟩, -, q, q1, q2⟩ := h
  exact ⟨h1, h1', q, by omega, q2⟩
section MGo
variable {l : Launch} {G : GG} {d : Nat} {I : IM} {J : JM} {K : Kt} {Q : Option Value → Hp → Prop} {P : Pl} {S : SM} {im : Bool} {SI : SM} {m : Nat} {T : SM} {kn : Int32} {u : Nat} {Hs : Nat → SM} {B n f : Nat}
theorem mwants_loop (hM : MK K) (hn : I 104 3 = nI n) (h8 : n ≤ 8) {n' : Nat} (hR : RM I f n' S B) (hf : f < 23) {x : Int32} : ∀ k i many, i + k = n → many ≤ i → Q (some (.int (nI (many + cF (fun w => decide (S 6 w = x)) i k)))) (I, J, K) → Gw l G d m10_wantsOf 5 [.ref 102, .int (nI f), .int x, .int (nI many), .int (nI i)] [] (I, J, K) Q := by
  intro k
  induction k with
  | zero =>
    intro i many hi hm hq
    refine e_iload rfl rfl ?_
    refine e_aload_n rfl rfl ?_
    refine e_getP rfl f10_13 hM.k rfl hM.p3 ?_
    refine e_iconst (v := nI 3) rfl ic_3N ?_
    first | refine e_ialoadN rfl hM.a3 (by omega) (by omega) ?_ | (refine e_iaload rfl hM.a3 ?_ ?_; rotate_left)
    rw [hn]
    first | refine e_icmp_geN (tgt := 46) rfl rfl (by omega) (by omega) (fun z => ?_) (fun z => ?_) | refine e_icmp_ge (tgt := 46) rfl rfl (fun z => ?_) (fun z => ?_)
    · refine e_iload_n rfl rfl ?_
      refine e_ireturn rfl rfl ?_
      exact hq
    · omega
  | succ k ih =>
    intro i many hi hm hq
    have e0 := hR.2.1 i (by omega)
    refine e_iload rfl rfl ?_
    refine e_aload_n rfl rfl ?_
    refine e_getP rfl f10_13 hM.k rfl hM.p3 ?_
    refine e_iconst (v := nI 3) rfl ic_3N ?_
    first | refine e_ialoadN rfl hM.a3 (by omega) (by omega) ?_ | (refine e_iaload rfl hM.a3 ?_ ?_; rotate_left)
    rw [hn]
    first | refine e_icmp_geN (tgt := 46) rfl rfl (by omega) (by omega) (fun z => ?_) (fun z => ?_) | refine e_icmp_ge (tgt := 46) rfl rfl (fun z => ?_) (fun z => ?_)
    · omega
    · refine e_iload_n rfl rfl ?_
      refine e_aload_n rfl rfl ?_
      refine e_getP rfl f10_114 hM.k rfl hM.p49 ?_
      refine e_bipush (v := nI 8) rfl bp_8N ?_
      refine e_iload_n rfl rfl ?_
      first | refine e_imulN rfl ?_ | refine e_imul rfl ?_
      refine e_iload rfl rfl ?_
      first | refine e_iaddN rfl ?_ | refine e_iadd rfl ?_
      first | refine e_ialoadN rfl hM.a49 (by omega) (by omega) ?_ | (refine e_iaload rfl hM.a49 ?_ ?_; rotate_left)
      rw [e0]
      refine e_iload_n rfl rfl ?_
      rw [cF] at hq
      refine e_icmp_ne (tgt := 37) rfl rfl (fun z => ?_) (fun z => ?_)
      · rw [if_neg (by rw [decide_eq_false z]; decide), ← Nat.add_assoc] at hq
        refine e_iconst (v := nI 0) rfl ic_0N ?_
        first | refine e_iaddN rfl ?_ | refine e_iadd rfl ?_
        refine e_ist3 rfl rfl rfl ?_
        first | refine e_inc4 rfl rfl rfl (incN1 _) ?_ | refine e_inc4 rfl rfl rfl rfl ?_
        refine e_goto (tgt := 5) rfl rfl ?_
        exact ih (i + 1) _ (by omega) (by omega) hq
      · rw [if_pos (by rw [decide_eq_true z]), ← Nat.add_assoc] at hq
        refine e_iconst (v := nI 1) rfl ic_1N ?_
        refine e_goto (tgt := 38) rfl rfl ?_
        first | refine e_iaddN rfl ?_ | refine e_iadd rfl ?_
        refine e_ist3 rfl rfl rfl ?_
        first | refine e_inc4 rfl rfl rfl (incN1 _) ?_ | refine e_inc4 rfl rfl rfl rfl ?_
        refine e_goto (tgt := 5) rfl rfl ?_
        exact ih (i + 1) _ (by omega) (by omega) hq
theorem c10_wantsOf (hM : MK K) (hn : I 104 3 = nI n) (h8 : n ≤ 8) {n' : Nat} (hR : RM I f n' S B) (hf : f < 23) (x : Int32) : Cp l G d m10_wantsOf [.ref 102, .int (nI f), .int x] (I, J, K) (.int (nI (cnt (fun w => decide (S 6 w = x)) n))) := by
  refine Cp.of ok10_wantsOf rfl (rfl : argL _ _ = [.ref 102, .int (nI f), .int x, .null, .null]) ?_
  refine e_iconst (v := nI 0) rfl ic_0N ?_
  refine e_ist3 rfl rfl rfl ?_
  refine e_iconst (v := nI 0) rfl ic_0N ?_
  refine e_ist4 rfl rfl rfl ?_
  refine mwants_loop hM hn h8 hR hf n 0 0 (by omega) (by omega) ?_
  rw [Nat.zero_add]
  exact ⟨rfl, rfl⟩
theorem mgo_loop (hM : MK K) (hX : wfX P) (hn : P.1 1 = n) {N : Nat} (hN : N ≤ 99) {sp : Int32} : ∀ k i I J S, i + k = N → MP I P → RM I 0 n S B → W1 n S → I 102 52 = nI 0 → I 102 53 = sp → (∀ I' J', FM 0 I J I' J' → RM I' 0 n (itS (pa0 P true n) k S) B → ∀ v, Gw l G (d + 7) m10_go 59 [.ref 102, .int (nI N), v] [] (I', J', K) Q) → Gw l G (d + 7) m10_go 42 [.ref 102, .int (nI N), .int (nI i)] [] (I, J, K) Q := by
  intro k
  induction k with
  | zero =>
    intro i I J S hi hP hR hW hw hs kk
    refine e_iload_n rfl rfl ?_
    refine e_iload_n rfl rfl ?_
    first | refine e_icmp_geN (tgt := 59) rfl rfl (by omega) (by omega) (fun z => ?_) (fun z => ?_) | refine e_icmp_ge (tgt := 59) rfl rfl (fun z => ?_) (fun z => ?_)
    · exact kk I J FM.rf hR _
    · omega
  | succ k ih =>
    intro i I J S hi hP hR hW hw hs kk
    refine e_iload_n rfl rfl ?_
    refine e_iload_n rfl rfl ?_
    first | refine e_icmp_geN (tgt := 59) rfl rfl (by omega) (by omega) (fun z => ?_) (fun z => ?_) | refine e_icmp_ge (tgt := 59) rfl rfl (fun z => ?_) (fun z => ?_)
    · omega
    · refine e_aload_n rfl rfl ?_
      refine e_iconst (v := nI 0) rfl ic_0N ?_
      refine e_iconst (v := nI 1) rfl ic_1N ?_
      refine e_callV (kd := 10) (M2 := m10_passes) rfl v10_387 ok10_passes (c10_passes (d := d) (f := 0) (way := nI 0) (sp := sp) hM hP hX hn hR hW (by omega) true hw hs) rfl hM.k rfl rfl rfl rfl (fun r1 h1 q1 => ?_)
      obtain ⟨rfl, I1, J1, rfl, g1, R1⟩ := q1
      first | refine e_inc2 rfl rfl rfl (incN1 _) ?_ | refine e_inc2 rfl rfl rfl rfl ?_
      refine e_goto (tgt := 42) rfl rfl ?_
      rw [pa_0] at R1
      refine ih (i + 1) I1 J1 _ (by omega) (hP.fm g1) R1 (W1_pa hW) (by rw [g1.obj (by omega)]; exact hw) (by rw [g1.obj (by omega)]; exact hs) (fun I2 J2 g2 R2 => kk I2 J2 (g1.tr g2) R2)
theorem c10_go (hM : MK K) (hI : MI I P S im SI m T kn u Hs B) (hn : P.1 1 = n) (hW : W1 n S) (x : Int32) : Cw l G (d + 7) m10_go [.ref 102, .int x] (I, J, K) (fun r h' => r = some (.int (a_go P n S x)) ∧ MPst I J K h' P (if isGo S x = true then itS (pa0 P true n) x.toNatClampNeg S else S) im SI m T kn (if isGo S x = true ∧ ¬ x = nI 0 then 0 else u) Hs (B + 2)) := by
  have g0 : FQm I J (u2 I 102 0 (nI 0)) J := FQm.w0
  have hI1 := hI.t0 J
  obtain ⟨p1, p2, p3, p4, p5, ⟨t1, t2, t3, t4⟩, ⟨hu, hu20, hH⟩, p8, p9⟩ := hI1
  have h8 := p2.1.1.2.1
  have ed := p3.2.2.1.1
  unfold a_go
  have no : isGo S x = false → ∀ v, Gw l G (d + 7) m10_go 29 [.ref 102, .int x, v] [] (u2 I 102 0 (nI 0), J, K) (fun r h' => r = some (.int (if isGo S x = true then itS (pa0 P true n) x.toNatClampNeg S 8 0 else -1)) ∧ MPst I J K h' P (if isGo S x = true then itS (pa0 P true n) x.toNatClampNeg S else S) im SI m T kn (if isGo S x = true ∧ ¬ x = nI 0 then 0 else u) Hs (B + 2)) := by
    intro hno v
    rw [hno]
    refine e_iconst rfl ic_m1 ?_
    refine e_ireturn rfl rfl ?_
    refine ⟨rfl, ?_⟩
    rw [if_neg (by decide), if_neg (fun q => absurd q.1 (by decide))]
    exact hI.fin g0
  refine Cw.of ok10_go rfl (rfl : argL _ _ = [.ref 102, .int x, .null]) ?_
  refine e_aload_n rfl rfl ?_
  refine e_iconst (v := nI 0) rfl ic_0N ?_
  refine e_putI rfl f10_151 hM.k rfl rfl ?_
  refine e_iload_n rfl rfl ?_
  refine e_if_lt (tgt := 29) rfl rfl (fun z => ?_) (fun z => ?_)
  · exact no (by unfold isGo; rw [Bool.eq_false_iff.mpr (fun q => (inN_lo (k := 99) (by omega) q).1 z), Bool.false_and]) _
  · refine e_iload_n rfl rfl ?_
    refine e_bipush (v := nI 99) rfl bp_99N ?_
    refine e_icmp_gt (tgt := 29) rfl rfl (fun y => ?_) (fun y => ?_)
    · exact no (by unfold isGo; rw [Bool.eq_false_iff.mpr (fun q => absurd (inN_lo (k := 99) (by omega) q).2 (Int32.not_le.mpr y)), Bool.false_and]) _
    · have hin : inN 100 x = true := inN_hi (k := 99) (by omega) z (Int32.not_lt.mp y)
      obtain ⟨i, hi, rfl⟩ := inN_of (by omega) hin
      refine e_aload_n rfl rfl ?_
      refine e_getP rfl f10_78 hM.k rfl hM.p37 ?_
      refine e_iconst (v := nI 0) rfl ic_0N ?_
      first | refine e_ialoadN rfl hM.a37 (by omega) (by omega) ?_ | (refine e_iaload rfl hM.a37 ?_ ?_; rotate_left)
      rw [ed]
      refine e_iload_n rfl rfl ?_
      refine e_iadd rfl ?_
      refine e_sipush (v := nI 9900) rfl sp_9900N ?_
      refine e_icmp_le (tgt := 31) rfl rfl (fun v => ?_) (fun v => ?_)
      · have yes : isGo S (nI i) = true := by unfold isGo; rw [hin, decide_eq_true v]; rfl
        rw [yes, nI_clamp (by omega)]
        have tail : ∀ uu I1, (∀ c k, ¬ (c = 102 ∧ k = 51) → I1 c k = (u2 I 102 0 (nI 0)) c k) → I1 102 51 = nI uu → uu ≤ u → (if true = true ∧ ¬ nI i = nI 0 then 0 else u) = uu → Gw l G (d + 7) m10_go 40 [.ref 102, .int (nI i), .null] [] (I1, J, K) (fun r h' => r = some (.int (if true = true then itS (pa0 P true n) i S 8 0 else -1)) ∧ MPst I J K h' P (if true = true then itS (pa0 P true n) i S else S) im SI m T kn (if true = true ∧ ¬ nI i = nI 0 then 0 else u) Hs (B + 2)) := by
          intro uu I1 g1 e1 hle eu
          rw [eu]
          have fr : ∀ f c k, onF f c k → I1 c k = (u2 I 102 0 (nI 0)) c k := fun f c k o => g1 c k (by unfold onF at o; omega)
          have fc : ∀ c, c ≠ 102 → I1 c = (u2 I 102 0 (nI 0)) c := fun c hc => funext fun k => g1 c k (fun q => hc q.1)
          have fo : ∀ k, k ≠ 51 → I1 102 k = (u2 I 102 0 (nI 0)) 102 k := fun k hk => g1 102 k (fun q => hk q.2)
          have P1 : MP I1 P := p1.frame (fun c a b => fc c (by omega))
          have R1 : RM I1 0 n S (B + 1) := by rw [← hn]; exact p3.frame h8 (fr _)
          refine e_iconst (v := nI 0) rfl ic_0N ?_
          refine e_ist2 rfl rfl rfl ?_
          refine mgo_loop (sp := -1) hM p2 hn (by omega) i 0 I1 J S (by omega) P1 R1 hW (by rw [fo 52 (by omega)]; exact p8) (by rw [fo 53 (by omega)]; exact p9) (fun I2 J2 g2 R2 v => ?_)
          refine e_aload_n rfl rfl ?_
          refine e_getP rfl f10_78 hM.k rfl hM.p37 ?_
          refine e_iconst (v := nI 0) rfl ic_0N ?_
          first | refine e_ialoadN rfl hM.a37 (by omega) (by omega) ?_ | (refine e_iaload rfl hM.a37 ?_ ?_; rotate_left)
          rw [R2.2.2.1.1]
          refine e_ireturn rfl rfl ?_
          refine ⟨rfl, I2, J2, rfl, ⟨fun c a => ?_, fun c a => g2.2 c (by omega) (by omega), fun k a => ?_⟩, P1.fm g2, p2, by rw [hn]; exact R2.mono (by omega), by rw [g2.obj (by omega), fo 50 (by omega)]; exact p4, fun q => ((((p5 q).frame h8 (fr _)).fm h8 g2 (by omega))).mono (by omega), ⟨by rw [g2.obj (by omega), fo 59 (by omega)]; exact t1, t2, by rw [g2.obj (by omega), fo 60 (by omega)]; exact t3, fun j hj => ?_⟩, ⟨by rw [g2.obj (by omega)]; exact e1, by omega, fun j hj => (((hH j (by omega)).frame h8 (fr _)).fm h8 g2 (by omega)).mono (by omega)⟩, by rw [g2.obj (by omega), fo 52 (by omega)]; exact p8, by rw [g2.obj (by omega), fo 53 (by omega)]; exact p9⟩
          · rw [g2.row (by omega) (by omega), fc c (by omega), u2_row _ _ (by omega)]
          · rw [g2.obj (by omega), fo k (by omega), u2_nk _ _ (by omega)]
          · rw [g2.row (by omega) (by omega), g2.row (by omega) (by omega), g2.row (by omega) (by omega), g2.row (by omega) (by omega), fc 140 (by omega), fc 141 (by omega), fc 142 (by omega), fc 143 (by omega)]
            exact t4 j hj
        refine e_iload_n rfl rfl ?_
        first | refine e_if_leN (tgt := 40) rfl rfl (by omega) (fun z => ?_) (fun z => ?_) | refine e_if_le (tgt := 40) rfl rfl (fun z => ?_) (fun z => ?_)
        · have x0 : i = 0 := by assumption
          exact tail u _ (fun _ _ _ => rfl) hu (by omega) (by rw [if_neg (fun q => q.2 (by rw [x0]))])
        · have x0 : 0 < i := by assumption
          refine e_aload_n rfl rfl ?_
          refine e_iconst (v := nI 0) rfl ic_0N ?_
          refine e_putI rfl f10_307 hM.k rfl rfl ?_
          exact tail 0 _ (fun c k h => if_neg h) (u2_at _ _ _ _) (by omega) (by rw [if_pos ⟨rfl, ne42 (by omega) (by omega) (by omega)⟩])
      · exact no (by unfold isGo; rw [decide_eq_false v, Bool.and_false]) _
end MGo
