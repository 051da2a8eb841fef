/-! ===== the reference: a DAY ===== -/
theorem W1.go {n : Nat} {S : SM} (h : W1 n S) (t : Nat) : W1 n (go1 S t) := by
  unfold go1
  split
  · next c =>
    obtain ⟨h1, h2⟩ := h
    have h9 : ∀ S' : SM, S' 9 = S 9 → ∃ k, k ≤ 99 ∧ S' 9 0 = nI k := fun S' e => by rw [e]; exact h2
    split
    · next c2 =>
      refine ⟨fun u hu => ?_, h9 _ (u2_row _ _ (by omega))⟩
      obtain ⟨st, de, fr, a, b, c', e0, e1, e4, f, g⟩ := h1 u hu
      by_cases e : u = t
      · subst e
        have st1 : st = 1 := (nI_eq (by omega) (by omega)).mp (e0.symm.trans c)
        have := g st1
        refine ⟨st, de, fr - 1, a, b, by omega, ?_, ?_, ?_, by omega, fun _ => ?_⟩
        · rw [u2_ne _ _ (by omega)]; exact e0
        · rw [u2_ne _ _ (by omega)]; exact e1
        · rw [u2_at, e4, pk_sub (by omega)]
        · rw [e4, pk_sub (by omega)] at c2
          have := (nI_ltI (by omega : 0 < 2 ^ 31) (by omega)).mp c2
          omega
      · refine ⟨st, de, fr, a, b, c', ?_, ?_, ?_, f, g⟩
        · rw [u2_ne _ _ (by omega)]; exact e0
        · rw [u2_ne _ _ (by omega)]; exact e1
        · rw [u2_nk _ _ e]; exact e4
    · refine ⟨fun u hu => ?_, h9 _ ((u2_row _ _ (by omega)).trans (u2_row _ _ (by omega)))⟩
      obtain ⟨st, de, fr, a, b, c', e0, e1, e4, f, g⟩ := h1 u hu
      by_cases e : u = t
      · subst e
        refine ⟨2, de, 0, by omega, b, by omega, ?_, ?_, ?_, by omega, by omega⟩
        · rw [u2_at]
        · rw [u2_ne _ _ (by omega), u2_ne _ _ (by omega)]; exact e1
        · rw [u2_ne _ _ (by omega), u2_at]
      · refine ⟨st, de, fr, a, b, c', ?_, ?_, ?_, f, g⟩
        · rw [u2_nk _ _ e, u2_ne _ _ (by omega)]; exact e0
        · rw [u2_ne _ _ (by omega), u2_ne _ _ (by omega)]; exact e1
        · rw [u2_ne _ _ (by omega), u2_nk _ _ e]; exact e4
  · exact h
theorem W1.goS {n : Nat} : ∀ {k t : Nat} {S : SM}, W1 n S → W1 n (goS t k S)
  | 0, _, _, h => h
  | k + 1, t, S, h => W1.goS (k := k) (t := t + 1) (h.go t)
theorem rsB_rw {dr : Bool} {S : SM} {o : Int32} {r : Nat} (hr : r ≠ 14) : (rsB dr S o).2 r = S r := by
  unfold rsB
  split
  · rfl
  · split
    · rfl
    · exact u2_row _ _ hr
theorem W1.rs {n : Nat} {S : SM} (h : W1 n S) (dr : Bool) (o : Int32) : W1 n (rsB dr S o).2 := h.rows (rsB_rw (by omega)) (rsB_rw (by omega)) (rsB_rw (by omega)) (rsB_rw (by omega))
theorem W1.ru {n : Nat} {P : Pl} {S : SM} (h : W1 n S) (dr : Bool) (t : Nat) : W1 n (ru1 P dr S t) := by
  unfold ru1
  split
  · split
    · obtain ⟨h1, h2⟩ := h.rs dr (odds P S t)
      have hS1 : (rsB dr S (odds P S t)).2 1 = S 1 := rsB_rw (by omega)
      refine ⟨fun u hu => ?_, by rw [u2_row _ _ (by omega)]; exact h2⟩
      obtain ⟨st, de, fr, a, b, c', e0, e1, e4, f, g⟩ := h1 u hu
      by_cases e : u = t
      · subst e
        rw [hS1] at e1
        refine ⟨st, min 10 (de + 1), fr, a, by omega, c', ?_, ?_, ?_, f, g⟩
        · rw [u2_ne _ _ (by omega)]; exact e0
        · rw [u2_at, e1, nI_add]
          by_cases q : de + 1 < 10
          · rw [if_pos ((nI_ltI (by omega) (by omega)).mpr q), Nat.min_eq_right (by omega)]
          · rw [if_neg (fun z => q ((nI_ltI (by omega) (by omega)).mp z)), Nat.min_eq_left (by omega)]
        · rw [u2_ne _ _ (by omega)]; exact e4
      · refine ⟨st, de, fr, a, b, c', ?_, ?_, ?_, f, g⟩
        · rw [u2_ne _ _ (by omega)]; exact e0
        · rw [u2_nk _ _ e]; exact e1
        · rw [u2_ne _ _ (by omega)]; exact e4
    · exact h.rs dr _
  · exact h
theorem W1.ruS {n : Nat} {P : Pl} {dr : Bool} : ∀ {k t : Nat} {S : SM}, W1 n S → W1 n (ruS P dr t k S)
  | 0, _, _, h => h
  | k + 1, t, S, h => W1.ruS (k := k) (t := t + 1) (h.ru dr t)
theorem W1.bl {n : Nat} {P : Pl} {S : SM} (h : W1 n S) (t : Nat) : W1 n (bl1 P S t) := by
  unfold bl1
  split
  · next c =>
    obtain ⟨h1, h2⟩ := h
    refine ⟨fun u hu => ?_, by rw [u2_row _ _ (by omega)]; exact h2⟩
    obtain ⟨st, de, fr, a, b, c', e0, e1, e4, f, g⟩ := h1 u hu
    by_cases e : u = t
    · subst e
      have st0 : st = 0 := (nI_eq (by omega) (by omega : 0 < 2 ^ 31)).mp (e0.symm.trans c.1)
      refine ⟨3, de, fr, by omega, b, c', u2_at _ _ _ _, ?_, ?_, by omega, by omega⟩
      · rw [u2_ne _ _ (by omega)]; exact e1
      · rw [u2_ne _ _ (by omega)]; exact e4
    · refine ⟨st, de, fr, a, b, c', ?_, ?_, ?_, f, g⟩
      · rw [u2_nk _ _ e]; exact e0
      · rw [u2_ne _ _ (by omega)]; exact e1
      · rw [u2_ne _ _ (by omega)]; exact e4
  · exact h
theorem W1.blS {n : Nat} {P : Pl} : ∀ {k t : Nat} {S : SM}, W1 n S → W1 n (blS P t k S)
  | 0, _, _, h => h
  | k + 1, t, S, h => W1.blS (k := k) (t := t + 1) (h.bl t)
theorem W1_pa {n : Nat} {P : Pl} {dr : Bool} {way sp : Int32} {S : SM} (h : W1 n S) : W1 n (paS P dr way sp n S) := by
  unfold paS
  dsimp only
  refine W1.rows ?_ (u2_row _ _ (by omega)) (u2_row _ _ (by omega)) (u2_row _ _ (by omega)) (u2_row _ _ (by omega))
  refine W1.blS ?_
  have h2 : W1 n (svS P n 0 (P.1 3) 0 (otS P way sp n 0 (P.1 2) S)) := h.otS.svSh
  have h3 : W1 n (if way = nI 5 then svS P n 0 (P.1 3) 0 (otS P way sp n 0 (P.1 2) S) else goS 0 n (svS P n 0 (P.1 3) 0 (otS P way sp n 0 (P.1 2) S))) := by
    split
    · exact h2
    · exact h2.goS
  split
  · exact h3
  · exact h3.ruS
theorem lt9 (x : Int32) : nI 9 < x ↔ nI 10 ≤ x := by
  rw [Int32.lt_iff_toInt_lt, Int32.le_iff_toInt_le]
  have e1 : (nI 9).toInt = 9 := by decide
  have e2 : (nI 10).toInt = 10 := by decide
  omega
section MPass
variable {l : Launch} {G : GG} {d : Nat} {J0 : JM} {K : Kt} {Q : Option Value → Hp → Prop} {P : Pl} {f n B : Nat}
theorem p1_loop (hM : MK K) (hX : wfX P) (hn : P.1 1 = n) (hf : f < 23) {way sp : Int32} {dr : Bool} : ∀ k i I J S, i + k = P.1 2 → MP I P → RM I f n S B → W1 n S → I 102 52 = way → I 102 53 = sp → (∀ I' J', FM f I J I' J' → RM I' f n (otS P way sp n i k S) B → ∀ v3, Gw l G (d + 6) m10_passes 65 [.ref 102, .int (nI f), .int (bI dr), v3, .null, .null] [] (I', J', K) Q) → Gw l G (d + 6) m10_passes 2 [.ref 102, .int (nI f), .int (bI dr), .int (nI i), .null, .null] [] (I, J, K) Q := by
  have h10 := hX.1.1.2.2.1
  have h8 := hX.1.1.2.1
  intro k
  induction k with
  | zero =>
    intro i I J S hi hP hR hW hw hs kk
    have e2 : I 104 2 = nI (P.1 2) := hP.1.2.2.1
    refine e_iload_n rfl rfl ?_
    refine e_aload_n rfl rfl ?_
    refine e_getP rfl f10_13 hM.k rfl hM.p3 ?_
    refine e_iconst (v := nI 2) rfl ic_2N ?_
    first | refine e_ialoadN rfl hM.a3 (by omega) (by omega) ?_ | (refine e_iaload rfl hM.a3 ?_ ?_; rotate_left)
    rw [e2]
    first | refine e_icmp_geN (tgt := 65) rfl rfl (by omega) (by omega) (fun z => ?_) (fun z => ?_) | refine e_icmp_ge (tgt := 65) rfl rfl (fun z => ?_) (fun z => ?_)
    · exact kk I J FM.rf hR _
    · omega
  | succ k ih =>
    intro i I J S hi hP hR hW hw hs kk
    have e2 : I 104 2 = nI (P.1 2) := hP.1.2.2.1
    obtain ⟨q8, q9⟩ := hP.2.2.2.1 i (by omega)
    obtain ⟨⟨j, hj, ej⟩, -⟩ := hX.1.2.2.2.1 i (by omega)
    have ed := hR.2.2.1.1
    obtain ⟨ky, k1, k2⟩ := hW.2
    have next : ∀ I1 J1, FM f I J I1 J1 → RM I1 f n (ot1 P way sp n S i) B → Gw l G (d + 6) m10_passes 59 [.ref 102, .int (nI f), .int (bI dr), .int (nI i), .null, .null] [] (I1, J1, K) Q := by
      intro I1 J1 g1 R1
      first | refine e_inc3 rfl rfl rfl (incN1 _) ?_ | refine e_inc3 rfl rfl rfl rfl ?_
      refine e_goto (tgt := 2) rfl rfl ?_
      exact ih (i + 1) I1 J1 _ (by omega) (hP.fm g1) R1 (hW.ot i) (by rw [g1.obj (by omega)]; exact hw) (by rw [g1.obj (by omega)]; exact hs) (fun I2 J2 g2 R2 => kk I2 J2 (g1.tr g2) R2)
    have skip : ¬ (P.2 9 i = S 8 0 ∧ ¬ (way = nI 2 ∧ P.2 8 i = sp)) → Gw l G (d + 6) m10_passes 59 [.ref 102, .int (nI f), .int (bI dr), .int (nI i), .null, .null] [] (I, J, K) Q := by
      intro hno
      refine next I J FM.rf ?_
      rw [ot1, if_neg hno]
      exact hR
    have open_ : P.2 9 i = S 8 0 → ¬ (way = nI 2 ∧ P.2 8 i = sp) → Gw l G (d + 6) m10_passes 48 [.ref 102, .int (nI f), .int (bI dr), .int (nI i), .null, .null] [] (I, J, K) Q := by
      intro y1 y2
      refine e_aload_n rfl rfl ?_
      refine e_iload_n rfl rfl ?_
      refine e_aload_n rfl rfl ?_
      refine e_getP rfl f10_40 hM.k rfl hM.p12 ?_
      refine e_iload_n rfl rfl ?_
      first | refine e_ialoadN rfl hM.a12 (by omega) (by omega) ?_ | (refine e_iaload rfl hM.a12 ?_ ?_; rotate_left)
      rw [q8, ej]
      refine e_callV (kd := 10) (M2 := m10_opensTold) rfl v10_374 ok10_opensTold (c10_opensTold (d := d) hM hP hX hn hR hf (by omega) k1 k2 hw) rfl hM.k rfl rfl rfl rfl (fun r1 h1 q1 => ?_)
      obtain ⟨rfl, I1, J1, rfl, g1, R1⟩ := q1
      refine next I1 J1 g1 ?_
      rw [ot1, if_pos ⟨y1, y2⟩, ej, nI_clamp (by omega)]
      exact R1
    refine e_iload_n rfl rfl ?_
    refine e_aload_n rfl rfl ?_
    refine e_getP rfl f10_13 hM.k rfl hM.p3 ?_
    refine e_iconst (v := nI 2) rfl ic_2N ?_
    first | refine e_ialoadN rfl hM.a3 (by omega) (by omega) ?_ | (refine e_iaload rfl hM.a3 ?_ ?_; rotate_left)
    rw [e2]
    first | refine e_icmp_geN (tgt := 65) rfl rfl (by omega) (by omega) (fun z => ?_) (fun z => ?_) | refine e_icmp_ge (tgt := 65) rfl rfl (fun z => ?_) (fun z => ?_)
    · omega
    · refine e_aload_n rfl rfl ?_
      refine e_getP rfl f10_43 hM.k rfl hM.p13 ?_
      refine e_iload_n rfl rfl ?_
      first | refine e_ialoadN rfl hM.a13 (by omega) (by omega) ?_ | (refine e_iaload rfl hM.a13 ?_ ?_; rotate_left)
      rw [q9]
      refine e_aload_n rfl rfl ?_
      refine e_getP rfl f10_78 hM.k rfl hM.p37 ?_
      refine e_iload_n rfl rfl ?_
      first | refine e_ialoadN rfl hM.a37 (by omega) (by omega) ?_ | (refine e_iaload rfl hM.a37 ?_ ?_; rotate_left)
      rw [ed]
      refine e_icmp_ne (tgt := 59) rfl rfl (fun z => ?_) (fun z => ?_)
      · exact skip (fun q => z q.1)
      · refine e_aload_n rfl rfl ?_
        refine e_getI rfl f10_361 hM.k rfl ?_
        rw [hw]
        refine e_iconst (v := nI 2) rfl ic_2N ?_
        refine e_icmp_ne (tgt := 48) rfl rfl (fun y => ?_) (fun y => ?_)
        · exact open_ z (fun q => y q.1)
        · refine e_aload_n rfl rfl ?_
          refine e_getP rfl f10_40 hM.k rfl hM.p12 ?_
          refine e_iload_n rfl rfl ?_
          first | refine e_ialoadN rfl hM.a12 (by omega) (by omega) ?_ | (refine e_iaload rfl hM.a12 ?_ ?_; rotate_left)
          refine e_aload_n rfl rfl ?_
          refine e_getI rfl f10_117 hM.k rfl ?_
          rw [q8, hs]
          refine e_icmp_eq (tgt := 59) rfl rfl (fun x => ?_) (fun x => ?_)
          · exact skip (fun q => q.2 ⟨y, x⟩)
          · exact open_ z (fun q => x q.2)
theorem p2_loop (hM : MK K) (hX : wfX P) (hn : P.1 1 = n) (hf : f < 23) {dr : Bool} : ∀ k w busy I J S, w + k = P.1 3 → MP I P → RM I f n S B → (∀ I' J', FM f I J I' J' → RM I' f n (svS P n w k busy S) B → ∀ (b3 : Int32) v4, Gw l G (d + 6) m10_passes 112 [.ref 102, .int (nI f), .int (bI dr), .int b3, v4, .null] [] (I', J', K) Q) → Gw l G (d + 6) m10_passes 70 [.ref 102, .int (nI f), .int (bI dr), .int busy, .int (nI w), .null] [] (I, J, K) Q := by
  have h3 := hX.1.1.2.2.2
  intro k
  induction k with
  | zero =>
    intro w busy I J S hi hP hR kk
    have e3 : I 104 3 = nI (P.1 3) := hP.1.2.2.2.1
    refine e_iload rfl rfl ?_
    refine e_aload_n rfl rfl ?_
    refine e_getP rfl f10_13 hM.k rfl hM.p3 ?_
    refine e_iconst (v := nI 3) rfl ic_3N ?_
    first | refine e_ialoadN rfl hM.a3 (by omega) (by omega) ?_ | (refine e_iaload rfl hM.a3 ?_ ?_; rotate_left)
    rw [e3]
    first | refine e_icmp_geN (tgt := 112) rfl rfl (by omega) (by omega) (fun z => ?_) (fun z => ?_) | refine e_icmp_ge (tgt := 112) rfl rfl (fun z => ?_) (fun z => ?_)
    · exact kk I J FM.rf hR _ _
    · omega
  | succ k ih =>
    intro w busy I J S hi hP hR kk
    have e3 : I 104 3 = nI (P.1 3) := hP.1.2.2.2.1
    have q11 := (hP.2.2.2.2.1 w (by omega)).2.1
    have ed := hR.2.2.1.1
    rw [svS, sv1_I] at kk
    refine e_iload rfl rfl ?_
    refine e_aload_n rfl rfl ?_
    refine e_getP rfl f10_13 hM.k rfl hM.p3 ?_
    refine e_iconst (v := nI 3) rfl ic_3N ?_
    first | refine e_ialoadN rfl hM.a3 (by omega) (by omega) ?_ | (refine e_iaload rfl hM.a3 ?_ ?_; rotate_left)
    rw [e3]
    first | refine e_icmp_geN (tgt := 112) rfl rfl (by omega) (by omega) (fun z => ?_) (fun z => ?_) | refine e_icmp_ge (tgt := 112) rfl rfl (fun z => ?_) (fun z => ?_)
    · omega
    · refine e_aload_n rfl rfl ?_
      refine e_getP rfl f10_49 hM.k rfl hM.p15 ?_
      refine e_iload rfl rfl ?_
      first | refine e_ialoadN rfl hM.a15 (by omega) (by omega) ?_ | (refine e_iaload rfl hM.a15 ?_ ?_; rotate_left)
      rw [q11]
      refine e_aload_n rfl rfl ?_
      refine e_getP rfl f10_78 hM.k rfl hM.p37 ?_
      refine e_iload_n rfl rfl ?_
      first | refine e_ialoadN rfl hM.a37 (by omega) (by omega) ?_ | (refine e_iaload rfl hM.a37 ?_ ?_; rotate_left)
      rw [ed]
      refine e_icmp_ne (tgt := 106) rfl rfl (fun z => ?_) (fun z => ?_)
      · rw [if_neg z] at kk
        first | refine e_inc4 rfl rfl rfl (incN1 _) ?_ | refine e_inc4 rfl rfl rfl rfl ?_
        refine e_goto (tgt := 70) rfl rfl ?_
        exact ih (w + 1) busy I J S (by omega) hP hR kk
      · rw [if_pos z] at kk
        refine e_aload_n rfl rfl ?_
        refine e_iload_n rfl rfl ?_
        refine e_iload rfl rfl ?_
        refine e_iload_n rfl rfl ?_
        refine e_callV (kd := 10) (M2 := m10_serves) rfl v10_377 ok10_serves (c10_serves (d := d + 1) hM hP hX hn hR hf (by omega) busy) rfl hM.k rfl rfl rfl rfl (fun r1 h1 q1 => ?_)
        obtain ⟨rfl, I1, J1, rfl, g1, R1⟩ := q1
        refine e_ist3 rfl rfl rfl ?_
        first | refine e_inc4 rfl rfl rfl (incN1 _) ?_ | refine e_inc4 rfl rfl rfl rfl ?_
        refine e_goto (tgt := 70) rfl rfl ?_
        exact ih (w + 1) _ I1 J1 _ (by omega) (hP.fm g1) R1 (fun I2 J2 g2 R2 => kk I2 J2 (g1.tr g2) R2)
theorem p3_loop (hM : MK K) (hX : wfX P) (hn : P.1 1 = n) (hf : f < 23) {dr : Bool} {b3 : Int32} {way : Int32} (hway : ¬ way = nI 5) : ∀ k t I J S v5, t + k = n → MP I P → RM I f n S B → W1 n S → I 102 52 = way → (∀ I' J', FM f I J I' J' → RM I' f n (goS t k S) B → ∀ v4 v5, Gw l G (d + 6) m10_passes 192 [.ref 102, .int (nI f), .int (bI dr), .int b3, v4, v5] [] (I', J', K) Q) → Gw l G (d + 6) m10_passes 115 [.ref 102, .int (nI f), .int (bI dr), .int b3, .int (nI t), v5] [] (I, J, K) Q := by
  have h8 := hX.1.1.2.1
  intro k
  induction k with
  | zero =>
    intro t I J S v5 hi hP hR hW hw kk
    have hn1 : I 104 1 = nI n := by rw [← hn]; exact hP.1.2.1
    refine e_iload rfl rfl ?_
    refine e_aload_n rfl rfl ?_
    refine e_getP rfl f10_13 hM.k rfl hM.p3 ?_
    refine e_iconst (v := nI 1) rfl ic_1N ?_
    first | refine e_ialoadN rfl hM.a3 (by omega) (by omega) ?_ | (refine e_iaload rfl hM.a3 ?_ ?_; rotate_left)
    rw [hn1]
    first | refine e_icmp_geN (tgt := 192) rfl rfl (by omega) (by omega) (fun z => ?_) (fun z => ?_) | refine e_icmp_ge (tgt := 192) rfl rfl (fun z => ?_) (fun z => ?_)
    · exact kk I J FM.rf hR _ _
    · omega
  | succ k ih =>
    intro t I J S v5 hi hP hR hW hw kk
    have hn1 : I 104 1 = nI n := by rw [← hn]; exact hP.1.2.1
    obtain ⟨e0, -, -, e4, -⟩ := hR.1 t (by omega)
    obtain ⟨st, de, fr, a, b, c, w0, w1, w4, -, wg⟩ := hW.1 t (by omega)
    have next : ∀ I1 J1 v5, FM f I J I1 J1 → RM I1 f n (go1 S t) B → Gw l G (d + 6) m10_passes 186 [.ref 102, .int (nI f), .int (bI dr), .int b3, .int (nI t), v5] [] (I1, J1, K) Q := by
      intro I1 J1 v5 g1 R1
      first | refine e_inc4 rfl rfl rfl (incN1 _) ?_ | refine e_inc4 rfl rfl rfl rfl ?_
      refine e_goto (tgt := 115) rfl rfl ?_
      exact ih (t + 1) I1 J1 _ _ (by omega) (hP.fm g1) R1 (hW.go t) (by rw [g1.obj (by omega)]; exact hw) (fun I2 J2 g2 R2 => kk I2 J2 (g1.tr g2) R2)
    refine e_iload rfl rfl ?_
    refine e_aload_n rfl rfl ?_
    refine e_getP rfl f10_13 hM.k rfl hM.p3 ?_
    refine e_iconst (v := nI 1) rfl ic_1N ?_
    first | refine e_ialoadN rfl hM.a3 (by omega) (by omega) ?_ | (refine e_iaload rfl hM.a3 ?_ ?_; rotate_left)
    rw [hn1]
    first | refine e_icmp_geN (tgt := 192) rfl rfl (by omega) (by omega) (fun z => ?_) (fun z => ?_) | refine e_icmp_ge (tgt := 192) rfl rfl (fun z => ?_) (fun z => ?_)
    · omega
    · refine e_aload_n rfl rfl ?_
      refine e_getI rfl f10_361 hM.k rfl ?_
      rw [hw]
      refine e_iconst (v := nI 5) rfl ic_5N ?_
      refine e_icmp_eq (tgt := 192) rfl rfl (fun z => absurd z hway) (fun _ => ?_)
      refine e_bipush (v := nI 8) rfl bp_8N ?_
      refine e_iload_n rfl rfl ?_
      first | refine e_imulN rfl ?_ | refine e_imul rfl ?_
      refine e_iload rfl rfl ?_
      first | refine e_iaddN rfl ?_ | refine e_iadd rfl ?_
      refine e_ist5 rfl rfl rfl ?_
      refine e_aload_n rfl rfl ?_
      refine e_getP rfl f10_105 hM.k rfl hM.p46 ?_
      refine e_iload rfl rfl ?_
      first | refine e_ialoadN rfl hM.a46 (by omega) (by omega) ?_ | (refine e_iaload rfl hM.a46 ?_ ?_; rotate_left)
      rw [e0]
      refine e_iconst (v := nI 1) rfl ic_1N ?_
      refine e_icmp_eq (tgt := 157) rfl rfl (fun z => ?_) (fun z => ?_)
      · have st1 : st = 1 := (nI_eq (by omega) (by omega)).mp (w0.symm.trans z)
        have fr1 := wg st1
        have zo := z
        refine e_aload_n rfl rfl ?_
        refine e_getP rfl f10_108 hM.k rfl hM.p47 ?_
        refine e_iload rfl rfl ?_
        refine e_dup2 rfl rfl rfl ?_
        first | refine e_ialoadN rfl hM.a47 (by omega) (by omega) ?_ | (refine e_iaload rfl hM.a47 ?_ ?_; rotate_left)
        rw [e4, w4]
        refine e_iconst (v := nI 1) rfl ic_1N ?_
        first | refine e_isubN rfl (by omega) ?_ | refine e_isub rfl ?_
        first | refine e_iastoreN rfl hM.a47 (by omega) (by omega) ?_ | (refine e_iastore rfl hM.a47 ?_ ?_; rotate_left)
        refine e_aload_n rfl rfl ?_
        refine e_getP rfl f10_108 hM.k rfl hM.p47 ?_
        refine e_iload rfl rfl ?_
        first | refine e_ialoadN rfl hM.a47 (by omega) (by omega) ?_ | (refine e_iaload rfl hM.a47 ?_ ?_; rotate_left)
        rw [u2_at]
        have R1 : RM (u2 I 134 (8 * f + t) (nI (fr - 1))) f n (u2 S 4 t (nI (fr - 1))) B := hR.w4 (by omega) _
        first | refine e_if_neB (tgt := 186) rfl rfl (fun z => ?_) (fun z => ?_) | refine e_if_neN (tgt := 186) rfl rfl (by omega) (fun z => ?_) (fun z => ?_) | refine e_if_ne (tgt := 186) rfl rfl (fun z => ?_) (fun z => ?_)
        · have y : fr - 1 ≠ 0 := by assumption
          refine next _ J _ (FM.w (on8 (by omega) (by omega) (by omega))) ?_
          rw [go1, if_pos zo, w4, pk_sub (by omega), if_pos (by show nI 0 < nI (fr - 1); exact (nI_ltI (by omega) (by omega)).mpr (by omega))]
          exact R1
        · have y : fr - 1 = 0 := by assumption
          refine e_aload_n rfl rfl ?_
          refine e_getP rfl f10_105 hM.k rfl hM.p46 ?_
          refine e_iload rfl rfl ?_
          refine e_iconst (v := nI 2) rfl ic_2N ?_
          first | refine e_iastoreN rfl hM.a46 (by omega) (by omega) ?_ | (refine e_iastore rfl hM.a46 ?_ ?_; rotate_left)
          refine next _ J _ ((FM.w (on8 (by omega) (by omega) (by omega))).tr (FM.w (on8 (by omega) (by omega) (by omega)))) ?_
          rw [go1, if_pos zo, w4, pk_sub (by omega), if_neg (by rw [y]; decide)]
          rw [y] at R1
          rw [y]
          exact R1.w0 (by omega) _
      · refine e_goto (tgt := 186) rfl rfl ?_
        refine next I J _ FM.rf ?_
        rw [go1, if_neg z]
        exact hR
theorem p4_loop (hM : MK K) (hX : wfX P) (hn : P.1 1 = n) (hf : f < 23) {dr : Bool} {b3 : Int32} {v5 : Value} {way : Int32} (hway : ¬ way = nI 1) : ∀ k t I J S, t + k = n → MP I P → RM I f n S B → I 102 52 = way → (∀ I' J', FM f I J I' J' → RM I' f n (ruS P dr t k S) B → ∀ v4, Gw l G (d + 6) m10_passes 272 [.ref 102, .int (nI f), .int (bI dr), .int b3, v4, v5] [] (I', J', K) Q) → Gw l G (d + 6) m10_passes 195 [.ref 102, .int (nI f), .int (bI dr), .int b3, .int (nI t), v5] [] (I, J, K) Q := by
  have h8 := hX.1.1.2.1
  intro k
  induction k with
  | zero =>
    intro t I J S hi hP hR hw kk
    have hn1 : I 104 1 = nI n := by rw [← hn]; exact hP.1.2.1
    refine e_iload rfl rfl ?_
    refine e_aload_n rfl rfl ?_
    refine e_getP rfl f10_13 hM.k rfl hM.p3 ?_
    refine e_iconst (v := nI 1) rfl ic_1N ?_
    first | refine e_ialoadN rfl hM.a3 (by omega) (by omega) ?_ | (refine e_iaload rfl hM.a3 ?_ ?_; rotate_left)
    rw [hn1]
    first | refine e_icmp_geN (tgt := 272) rfl rfl (by omega) (by omega) (fun z => ?_) (fun z => ?_) | refine e_icmp_ge (tgt := 272) rfl rfl (fun z => ?_) (fun z => ?_)
    · exact kk I J FM.rf hR _
    · omega
  | succ k ih =>
    intro t I J S hi hP hR hw kk
    have hn1 : I 104 1 = nI n := by rw [← hn]; exact hP.1.2.1
    obtain ⟨e0, e1, -⟩ := hR.1 t (by omega)
    have next : ∀ I1 J1, FM f I J I1 J1 → RM I1 f n (ru1 P dr S t) B → Gw l G (d + 6) m10_passes 266 [.ref 102, .int (nI f), .int (bI dr), .int b3, .int (nI t), v5] [] (I1, J1, K) Q := by
      intro I1 J1 g1 R1
      first | refine e_inc4 rfl rfl rfl (incN1 _) ?_ | refine e_inc4 rfl rfl rfl rfl ?_
      refine e_goto (tgt := 195) rfl rfl ?_
      exact ih (t + 1) I1 J1 _ (by omega) (hP.fm g1) R1 (by rw [g1.obj (by omega)]; exact hw) (fun I2 J2 g2 R2 => kk I2 J2 (g1.tr g2) R2)
    refine e_iload rfl rfl ?_
    refine e_aload_n rfl rfl ?_
    refine e_getP rfl f10_13 hM.k rfl hM.p3 ?_
    refine e_iconst (v := nI 1) rfl ic_1N ?_
    first | refine e_ialoadN rfl hM.a3 (by omega) (by omega) ?_ | (refine e_iaload rfl hM.a3 ?_ ?_; rotate_left)
    rw [hn1]
    first | refine e_icmp_geN (tgt := 272) rfl rfl (by omega) (by omega) (fun z => ?_) (fun z => ?_) | refine e_icmp_ge (tgt := 272) rfl rfl (fun z => ?_) (fun z => ?_)
    · omega
    · refine e_aload_n rfl rfl ?_
      refine e_getI rfl f10_361 hM.k rfl ?_
      rw [hw]
      refine e_iconst (v := nI 1) rfl ic_1N ?_
      refine e_icmp_eq (tgt := 272) rfl rfl (fun z => absurd z hway) (fun _ => ?_)
      refine e_aload_n rfl rfl ?_
      refine e_iload_n rfl rfl ?_
      refine e_iload rfl rfl ?_
      refine e_callVp (kd := 10) (M2 := m10_isClosed) rfl v10_333 ok10_isClosed (c10_isClosed (d := d + 5) hM hf (by omega)) rfl hM.k rfl rfl rfl rfl ?_
      rw [e0]
      refine e_if_eqB (tgt := 266) rfl rfl (fun z => ?_) (fun z => ?_)
      · refine next I J FM.rf ?_
        rw [ru1, if_neg (of_decide_eq_false z)]
        exact hR
      · have z := of_decide_eq_true z
        refine e_aload_n rfl rfl ?_
        refine e_iload_n rfl rfl ?_
        refine e_iload rfl rfl ?_
        refine e_iload_n rfl rfl ?_
        refine e_callV (kd := 10) (M2 := m10_doesRust) rfl v10_381 ok10_doesRust (c10_doesRust (d := d + 1) hM hP hX hn hR hf (by omega) dr) rfl hM.k rfl rfl rfl rfl (fun r1 h1 q1 => ?_)
        obtain ⟨rfl, I1, J1, rfl, g1, R1⟩ := q1
        have hS1 : (rsB dr S (odds P S t)).2 1 = S 1 := rsB_rw (by omega)
        refine e_if_eqB (tgt := 266) rfl rfl (fun y => ?_) (fun y => ?_)
        · refine next I1 J1 g1 ?_
          rw [ru1, if_pos z, if_neg (by rw [y]; decide)]
          exact R1
        · have e1' := (R1.1 t (by omega)).2.1
          rw [hS1] at e1'
          refine e_aload_n rfl rfl ?_
          refine e_getP rfl f10_102 hM.k rfl hM.p45 ?_
          refine e_bipush (v := nI 8) rfl bp_8N ?_
          refine e_iload_n rfl rfl ?_
          first | refine e_imulN rfl ?_ | refine e_imul rfl ?_
          refine e_iload rfl rfl ?_
          first | refine e_iaddN rfl ?_ | refine e_iadd rfl ?_
          refine e_bipush (v := nI 10) rfl bp_10N ?_
          refine e_aload_n rfl rfl ?_
          refine e_getP rfl f10_102 hM.k rfl hM.p45 ?_
          refine e_bipush (v := nI 8) rfl bp_8N ?_
          refine e_iload_n rfl rfl ?_
          first | refine e_imulN rfl ?_ | refine e_imul rfl ?_
          refine e_iload rfl rfl ?_
          first | refine e_iaddN rfl ?_ | refine e_iadd rfl ?_
          first | refine e_ialoadN rfl hM.a45 (by omega) (by omega) ?_ | (refine e_iaload rfl hM.a45 ?_ ?_; rotate_left)
          rw [e1']
          refine e_iconst (v := nI 1) rfl ic_1N ?_
          refine e_iadd rfl ?_
          refine e_min rfl v10_385 rfl ?_
          first | refine e_iastoreN rfl hM.a45 (by omega) (by omega) ?_ | (refine e_iastore rfl hM.a45 ?_ ?_; rotate_left)
          refine next _ J1 (g1.tr (FM.w (on8 (by omega) (by omega) (by omega)))) ?_
          rw [ru1, if_pos z, if_pos y]
          exact R1.w1 (by omega) _
theorem p5_loop (hM : MK K) (hX : wfX P) (hn : P.1 1 = n) (hf : f < 23) {dr : Bool} {b3 : Int32} {v5 : Value} : ∀ k t I J S, t + k = n → MP I P → RM I f n S B → (∀ I' J', FM f I J I' J' → RM I' f n (blS P t k S) B → ∀ v4, Gw l G (d + 6) m10_passes 348 [.ref 102, .int (nI f), .int (bI dr), .int b3, v4, v5] [] (I', J', K) Q) → Gw l G (d + 6) m10_passes 275 [.ref 102, .int (nI f), .int (bI dr), .int b3, .int (nI t), v5] [] (I, J, K) Q := by
  have h8 := hX.1.1.2.1
  intro k
  induction k with
  | zero =>
    intro t I J S hi hP hR kk
    have hn1 : I 104 1 = nI n := by rw [← hn]; exact hP.1.2.1
    refine e_iload rfl rfl ?_
    refine e_aload_n rfl rfl ?_
    refine e_getP rfl f10_13 hM.k rfl hM.p3 ?_
    refine e_iconst (v := nI 1) rfl ic_1N ?_
    first | refine e_ialoadN rfl hM.a3 (by omega) (by omega) ?_ | (refine e_iaload rfl hM.a3 ?_ ?_; rotate_left)
    rw [hn1]
    first | refine e_icmp_geN (tgt := 348) rfl rfl (by omega) (by omega) (fun z => ?_) (fun z => ?_) | refine e_icmp_ge (tgt := 348) rfl rfl (fun z => ?_) (fun z => ?_)
    · exact kk I J FM.rf hR _
    · omega
  | succ k ih =>
    intro t I J S hi hP hR kk
    have hn1 : I 104 1 = nI n := by rw [← hn]; exact hP.1.2.1
    obtain ⟨e0, e1, -⟩ := hR.1 t (by omega)
    have q6 := (hP.2.2.1 t (by omega)).2.2.2.1
    have ed := hR.2.2.1.1
    have next : ∀ I1 J1, FM f I J I1 J1 → RM I1 f n (bl1 P S t) B → Gw l G (d + 6) m10_passes 342 [.ref 102, .int (nI f), .int (bI dr), .int b3, .int (nI t), v5] [] (I1, J1, K) Q := by
      intro I1 J1 g1 R1
      first | refine e_inc4 rfl rfl rfl (incN1 _) ?_ | refine e_inc4 rfl rfl rfl rfl ?_
      refine e_goto (tgt := 275) rfl rfl ?_
      exact ih (t + 1) I1 J1 _ (by omega) (hP.fm g1) R1 (fun I2 J2 g2 R2 => kk I2 J2 (g1.tr g2) R2)
    have skip : ¬ (S 0 t = 0 ∧ (P.2 6 t ≤ S 8 0 ∨ nI 10 ≤ S 1 t)) → Gw l G (d + 6) m10_passes 342 [.ref 102, .int (nI f), .int (bI dr), .int b3, .int (nI t), v5] [] (I, J, K) Q := by
      intro hno
      refine next I J FM.rf ?_
      rw [bl1, if_neg hno]
      exact hR
    have boom : (S 0 t = 0 ∧ (P.2 6 t ≤ S 8 0 ∨ nI 10 ≤ S 1 t)) → Gw l G (d + 6) m10_passes 329 [.ref 102, .int (nI f), .int (bI dr), .int b3, .int (nI t), v5] [] (I, J, K) Q := by
      intro hy
      refine e_aload_n rfl rfl ?_
      refine e_getP rfl f10_105 hM.k rfl hM.p46 ?_
      refine e_bipush (v := nI 8) rfl bp_8N ?_
      refine e_iload_n rfl rfl ?_
      first | refine e_imulN rfl ?_ | refine e_imul rfl ?_
      refine e_iload rfl rfl ?_
      first | refine e_iaddN rfl ?_ | refine e_iadd rfl ?_
      refine e_iconst (v := nI 3) rfl ic_3N ?_
      first | refine e_iastoreN rfl hM.a46 (by omega) (by omega) ?_ | (refine e_iastore rfl hM.a46 ?_ ?_; rotate_left)
      refine next _ J (FM.w (on8 (by omega) (by omega) (by omega))) ?_
      rw [bl1, if_pos hy]
      exact hR.w0 (by omega) _
    refine e_iload rfl rfl ?_
    refine e_aload_n rfl rfl ?_
    refine e_getP rfl f10_13 hM.k rfl hM.p3 ?_
    refine e_iconst (v := nI 1) rfl ic_1N ?_
    first | refine e_ialoadN rfl hM.a3 (by omega) (by omega) ?_ | (refine e_iaload rfl hM.a3 ?_ ?_; rotate_left)
    rw [hn1]
    first | refine e_icmp_geN (tgt := 348) rfl rfl (by omega) (by omega) (fun z => ?_) (fun z => ?_) | refine e_icmp_ge (tgt := 348) rfl rfl (fun z => ?_) (fun z => ?_)
    · omega
    · refine e_aload_n rfl rfl ?_
      refine e_iload_n rfl rfl ?_
      refine e_iload rfl rfl ?_
      refine e_callVp (kd := 10) (M2 := m10_isClosed) rfl v10_333 ok10_isClosed (c10_isClosed (d := d + 5) hM hf (by omega)) rfl hM.k rfl rfl rfl rfl ?_
      rw [e0]
      refine e_if_eqB (tgt := 342) rfl rfl (fun z => ?_) (fun z => ?_)
      · exact skip (fun q => of_decide_eq_false z q.1)
      · have z := of_decide_eq_true z
        refine e_aload_n rfl rfl ?_
        refine e_getP rfl f10_34 hM.k rfl hM.p10 ?_
        refine e_iload rfl rfl ?_
        first | refine e_ialoadN rfl hM.a10 (by omega) (by omega) ?_ | (refine e_iaload rfl hM.a10 ?_ ?_; rotate_left)
        rw [q6]
        refine e_aload_n rfl rfl ?_
        refine e_getP rfl f10_78 hM.k rfl hM.p37 ?_
        refine e_iload_n rfl rfl ?_
        first | refine e_ialoadN rfl hM.a37 (by omega) (by omega) ?_ | (refine e_iaload rfl hM.a37 ?_ ?_; rotate_left)
        rw [ed]
        refine e_icmp_le (tgt := 329) rfl rfl (fun y => ?_) (fun y => ?_)
        · exact boom ⟨z, Or.inl y⟩
        · refine e_aload_n rfl rfl ?_
          refine e_getP rfl f10_102 hM.k rfl hM.p45 ?_
          refine e_bipush (v := nI 8) rfl bp_8N ?_
          refine e_iload_n rfl rfl ?_
          first | refine e_imulN rfl ?_ | refine e_imul rfl ?_
          refine e_iload rfl rfl ?_
          first | refine e_iaddN rfl ?_ | refine e_iadd rfl ?_
          first | refine e_ialoadN rfl hM.a45 (by omega) (by omega) ?_ | (refine e_iaload rfl hM.a45 ?_ ?_; rotate_left)
          rw [e1]
          refine e_bipush (v := nI 9) rfl bp_9N ?_
          refine e_icmp_le (tgt := 342) rfl rfl (fun x => ?_) (fun x => ?_)
          · exact skip (fun q => q.2.elim y (fun q => absurd ((lt9 _).mpr q) (Int32.not_lt.mpr x)))
          · exact boom ⟨z, Or.inr ((lt9 _).mp (Int32.not_le.mp x))⟩
theorem c10_passes {I : IM} {J : JM} {S : SM} (hM : MK K) (hP : MP I P) (hX : wfX P) (hn : P.1 1 = n) (hR : RM I f n S B) (hW : W1 n S) (hf : f < 23) (dr : Bool) {way sp : Int32} (hw : I 102 52 = way) (hs : I 102 53 = sp) : Cw l G (d + 6) m10_passes [.ref 102, .int (nI f), .int (bI dr)] (I, J, K) (fun r h' => r = none ∧ ∃ I' J', h' = (I', J', K) ∧ FM f I J I' J' ∧ RM I' f n (paS P dr way sp n S) B) := by
  have h8 := hX.1.1.2.1
  unfold paS
  dsimp only
  have hW1 : W1 n (otS P way sp n 0 (P.1 2) S) := hW.otS
  have hW2 : W1 n (svS P n 0 (P.1 3) 0 (otS P way sp n 0 (P.1 2) S)) := hW1.svSh
  refine Cw.of ok10_passes rfl (rfl : argL _ _ = [.ref 102, .int (nI f), .int (bI dr), .null, .null, .null]) ?_
  refine e_iconst (v := nI 0) rfl ic_0N ?_
  refine e_ist3 rfl rfl rfl ?_
  refine p1_loop hM hX hn hf (P.1 2) 0 I J S (by omega) hP hR hW hw hs (fun I1 J1 g1 R1 v3 => ?_)
  generalize otS P way sp n 0 (P.1 2) S = S1 at R1 hW1 hW2
  refine e_iconst (v := nI 0) rfl ic_0N ?_
  refine e_ist3 rfl rfl rfl ?_
  refine e_iconst (v := nI 0) rfl ic_0N ?_
  refine e_ist4 rfl rfl rfl ?_
  refine p2_loop hM hX hn hf (P.1 3) 0 (nI 0) I1 J1 S1 (by omega) (hP.fm g1) R1 (fun I2 J2 g2 R2 b3 v4 => ?_)
  have R2 : RM I2 f n (svS P n 0 (P.1 3) 0 S1) B := R2
  generalize svS P n 0 (P.1 3) 0 S1 = S2 at R2 hW2
  have g12 := g1.tr g2
  have w2 : I2 102 52 = way := by rw [g12.obj (by omega)]; exact hw
  have hn2 : I2 104 1 = nI n := by rw [g12.row (by omega) (by omega), ← hn]; exact hP.1.2.1
  have k5 : ∀ I3 J3 S3 v4 v5, FM f I J I3 J3 → RM I3 f n S3 B → Gw l G (d + 6) m10_passes 272 [.ref 102, .int (nI f), .int (bI dr), .int b3, v4, v5] [] (I3, J3, K) (fun r h' => r = none ∧ ∃ I' J', h' = (I', J', K) ∧ FM f I J I' J' ∧ RM I' f n (u2 (blS P 0 n S3) 8 0 (blS P 0 n S3 8 0 + nI 1)) B) := by
    intro I3 J3 S3 v4 v5 g3 R3
    refine e_iconst (v := nI 0) rfl ic_0N ?_
    refine e_ist4 rfl rfl rfl ?_
    refine p5_loop hM hX hn hf n 0 I3 J3 S3 (by omega) (hP.fm g3) R3 (fun I4 J4 g4 R4 v4 => ?_)
    refine e_aload_n rfl rfl ?_
    refine e_getP rfl f10_78 hM.k rfl hM.p37 ?_
    refine e_iload_n rfl rfl ?_
    refine e_dup2 rfl rfl rfl ?_
    first | refine e_ialoadN rfl hM.a37 (by omega) (by omega) ?_ | (refine e_iaload rfl hM.a37 ?_ ?_; rotate_left)
    rw [R4.2.2.1.1]
    refine e_iconst (v := nI 1) rfl ic_1N ?_
    refine e_iadd rfl ?_
    first | refine e_iastoreN rfl hM.a37 (by omega) (by omega) ?_ | (refine e_iastore rfl hM.a37 ?_ ?_; rotate_left)
    refine e_return rfl rfl ?_
    exact ⟨rfl, _, J4, rfl, (g3.tr g4).tr (FM.w (on1 (by omega) (by omega))), R4.w8 _⟩
  have k4 : ∀ I3 J3 S3 v4 v5, FM f I J I3 J3 → RM I3 f n S3 B → Gw l G (d + 6) m10_passes 192 [.ref 102, .int (nI f), .int (bI dr), .int b3, v4, v5] [] (I3, J3, K) (fun r h' => r = none ∧ ∃ I' J', h' = (I', J', K) ∧ FM f I J I' J' ∧ RM I' f n (u2 (blS P 0 n (if way = nI 1 then S3 else ruS P dr 0 n S3)) 8 0 (blS P 0 n (if way = nI 1 then S3 else ruS P dr 0 n S3) 8 0 + nI 1)) B) := by
    intro I3 J3 S3 v4 v5 g3 R3
    have w3 : I3 102 52 = way := by rw [g3.obj (by omega)]; exact hw
    have n3 : I3 104 1 = nI n := by rw [g3.row (by omega) (by omega), ← hn]; exact hP.1.2.1
    by_cases c : way = nI 1
    · rw [if_pos c]
      refine e_iconst (v := nI 0) rfl ic_0N ?_
      refine e_ist4 rfl rfl rfl ?_
      refine e_iload rfl rfl ?_
      refine e_aload_n rfl rfl ?_
      refine e_getP rfl f10_13 hM.k rfl hM.p3 ?_
      refine e_iconst (v := nI 1) rfl ic_1N ?_
      first | refine e_ialoadN rfl hM.a3 (by omega) (by omega) ?_ | (refine e_iaload rfl hM.a3 ?_ ?_; rotate_left)
      rw [n3]
      first | refine e_icmp_geN (tgt := 272) rfl rfl (by omega) (by omega) (fun z => ?_) (fun z => ?_) | refine e_icmp_ge (tgt := 272) rfl rfl (fun z => ?_) (fun z => ?_)
      · exact k5 I3 J3 S3 _ _ g3 R3
      · refine e_aload_n rfl rfl ?_
        refine e_getI rfl f10_361 hM.k rfl ?_
        rw [w3]
        refine e_iconst (v := nI 1) rfl ic_1N ?_
        refine e_icmp_eq (tgt := 272) rfl rfl (fun _ => ?_) (fun z => absurd c z)
        exact k5 I3 J3 S3 _ _ g3 R3
    · rw [if_neg c]
      refine e_iconst (v := nI 0) rfl ic_0N ?_
      refine e_ist4 rfl rfl rfl ?_
      exact p4_loop hM hX hn hf c n 0 I3 J3 S3 (by omega) (hP.fm g3) R3 w3 (fun I4 J4 g4 R4 v4 => k5 I4 J4 _ _ _ (g3.tr g4) R4)
  by_cases c : way = nI 5
  · rw [if_pos c]
    refine e_iconst (v := nI 0) rfl ic_0N ?_
    refine e_ist4 rfl rfl rfl ?_
    refine e_iload rfl rfl ?_
    refine e_aload_n rfl rfl ?_
    refine e_getP rfl f10_13 hM.k rfl hM.p3 ?_
    refine e_iconst (v := nI 1) rfl ic_1N ?_
    first | refine e_ialoadN rfl hM.a3 (by omega) (by omega) ?_ | (refine e_iaload rfl hM.a3 ?_ ?_; rotate_left)
    rw [hn2]
    first | refine e_icmp_geN (tgt := 192) rfl rfl (by omega) (by omega) (fun z => ?_) (fun z => ?_) | refine e_icmp_ge (tgt := 192) rfl rfl (fun z => ?_) (fun z => ?_)
    · exact k4 I2 J2 S2 _ _ g12 R2
    · refine e_aload_n rfl rfl ?_
      refine e_getI rfl f10_361 hM.k rfl ?_
      rw [w2]
      refine e_iconst (v := nI 5) rfl ic_5N ?_
      refine e_icmp_eq (tgt := 192) rfl rfl (fun _ => ?_) (fun z => absurd c z)
      exact k4 I2 J2 S2 _ _ g12 R2
  · rw [if_neg c]
    refine e_iconst (v := nI 0) rfl ic_0N ?_
    refine e_ist4 rfl rfl rfl ?_
    exact p3_loop hM hX hn hf c n 0 I2 J2 S2 _ (by omega) (hP.fm g12) R2 hW2 w2 (fun I3 J3 g3 R3 v4 v5 => k4 I3 J3 _ _ _ (g12.tr g3) R3)
end MPass
