/-! ===== best, chance, dented ===== -/
/-- a day with an opening ahead of it, if it is that one -/
def dayB (P : Pl) (n t q i : Nat) (S : SM) : SM := pa0 P false n (if i = q then unsA P S t else S)
theorem dayB8 {P : Pl} {n t q i : Nat} {S : SM} : dayB P n t q i S 8 0 = S 8 0 + nI 1 := by
  unfold dayB pa0
  rw [pa_day, ite_app (v := S 8 0) (unsA_row (by omega)) rfl]
theorem dayB10 {P : Pl} (hW : wfP P) {n t q i : Nat} {S : SM} (h : P.2 20 4 < S 8 0) : dayB P n t q i S 10 0 = S 10 0 := by
  unfold dayB pa0
  rw [pa_glory hW (by rw [ite_app (v := S 8 0) (unsA_row (by omega)) rfl]; exact h), ite_app (v := S 10 0) (unsA_row (by omega)) rfl]
def gbF (P : Pl) (n : Nat) (S : SM) (t q : Nat) : Int32 := rnS (dayB P n t q) 0 30 S 10 0 - S 10 0
/-- the best day: from q on -/
def bsF (f : Nat → Int32) : Nat → Nat → Int32 → Int32 → Int32 × Int32
  | 0, _, mo, be => (mo, be)
  | k + 1, q, mo, be => if mo < f q then bsF f k (q + 1) (f q) (nI q) else bsF f k (q + 1) mo be
def chF (P : Pl) (n : Nat) (S : SM) (N tn : Nat) : Nat → Int32 → Nat → Nat
  | 0, _, c => c
  | k + 1, x, c => chF P n S N tn k (itS (pa0 P true n) N (u2 S 14 0 x) 14 0) (if tn ≤ cnt (fun t => decide (itS (pa0 P true n) N (u2 S 14 0 x) 0 t = nI 3)) n then c + 1 else c)
/-- is all that was seen so, from one day on -/
def seF (P : Pl) (n m : Nat) (T : SM) (c : Int32) : Nat → Nat → SM → Bool
  | 0, _, _ => true
  | k + 1, i, S => if ssF T c (nI i) n (pa0 P false n S 0) 0 m = true then seF P n m T c k (i + 1) (pa0 P false n S) else false
theorem ssF_congr {T : SM} {c day : Int32} {n : Nat} {f g : Nat → Int32} (hn : n < 2 ^ 31) (h : ∀ t, t < n → f t = g t) : ∀ k i, ssF T c day n f i k = ssF T c day n g i k
  | 0, _ => rfl
  | k + 1, i => by
    have e : (inN n (T 2 i) = true ∧ f (T 2 i).toNatClampNeg = nI 3) ↔ (inN n (T 2 i) = true ∧ g (T 2 i).toNatClampNeg = nI 3) := by
      constructor
      · rintro ⟨a, b⟩
        obtain ⟨j, hj, e⟩ := inN_of hn a
        rw [e, nI_clamp (by omega), h j hj] at b
        exact ⟨a, by rw [e, nI_clamp (by omega)]; exact b⟩
      · rintro ⟨a, b⟩
        obtain ⟨j, hj, e⟩ := inN_of hn a
        rw [e, nI_clamp (by omega), ← h j hj] at b
        exact ⟨a, by rw [e, nI_clamp (by omega)]; exact b⟩
    rw [ssF, ssF, ssF_congr hn h k (i + 1)]
    simp only [e]
section MRun3
variable {l : Launch} {G : GG} {d : Nat} {I : IM} {J : JM} {K : Kt} {Q : Option Value → Hp → Prop} {P : Pl} {S : SM} {im : Bool} {SI : SM} {m : Nat} {T : SM} {kn : Int32} {u : Nat} {Hs : Nat → SM} {B n : Nat}
theorem gbo_loop (hG : GK K) (hW : wfP P) (hn : P.1 1 = n) {t q : Nat} (ht : t < n) (hq : q ≤ 20) : ∀ k i I J S D, i + k = 30 → RP I 33 P → S 8 0 = nI D → D + k < 2 ^ 31 → RC I J 70 n S → I 60 2 = bI false → I 60 3 = nI 0 → (∀ I' J', FQ I J I' J' → I' 60 = I 60 → I' 70 10 = rnS (dayB P n t q) i k S 10 0 → ∀ v, Gw l G (d + 6) m9_gainedByOpening 67 [.ref 0, .int (nI t), .int (nI q), v] [] (I', J', K) Q) → Gw l G (d + 6) m9_gainedByOpening 13 [.ref 0, .int (nI t), .int (nI q), .int (nI i)] [] (I, J, K) Q := by
  have hG2 := hG
  obtain ⟨⟨k9, t0, t2, t3, t4, t5, t6, t7, t9, t10, t11, t12⟩, -, -, -, hP, hD, hS6, hS, -⟩ := hG2
  have h0 := hD.1
  have d0 := hD.2.1
  have h3 := hP.1
  have h6 := hS.1
  intro k
  induction k with
  | zero =>
    intro i I J S D hi hR eD hDk hC d2 d3 kk
    obtain rfl : i = 30 := by omega
    refine e_iload_n rfl rfl ?_
    refine e_bipush (v := nI 30) rfl bp_30N ?_
    first | refine e_icmp_geN (tgt := 67) rfl rfl (by omega) (by omega) (fun z => ?_) (fun z => ?_) | refine e_icmp_ge (tgt := 67) rfl rfl (fun z => ?_) (fun z => ?_)
    · exact kk I J FQ.rf rfl hC.2.2.2.2.2.1.2.2.1 _
    · omega
  | succ k ih =>
    intro i I J S D hi hR eD hDk hC d2 d3 kk
    have e8 : I 70 8 = S 8 0 := hC.2.2.2.2.2.1.1
    have o9 : I 33 9 = P.2 20 4 := hR.2.2.2.2.2.2.2.2.2.2.2.2.2.2.2.2
    have tail : ∀ I1 J1 S1, FQ I J I1 J1 → I1 60 = I 60 → RC I1 J1 70 n S1 → S1 = (if i = q then unsA P S t else S) → Gw l G (d + 6) m9_gainedByOpening 50 [.ref 0, .int (nI t), .int (nI q), .int (nI i)] [] (I1, J1, K) Q := by
      intro I1 J1 S1 q1 e1 C1 eS
      have d2' : I1 60 2 = bI false := by rw [e1]; exact d2
      have d3' : I1 60 3 = nI 0 := by rw [e1]; exact d3
      refine e_aload_n rfl rfl ?_
      refine e_getP rfl f9_34 (by assumption) rfl (by assumption) ?_
      refine e_aload_n rfl rfl ?_
      refine e_getP rfl f9_45 (by assumption) rfl (by assumption) ?_
      refine e_callV (kd := 0) (M2 := m0_pass) rfl v9_212 ok0_pass (c0_pass hG.hd70 (q1.rp hR) hW C1 hn d2' d3' rfl) rfl (by assumption) rfl rfl rfl rfl (fun r1 h1 q1 => ?_)
      obtain ⟨rfl, I2, J2, rfl, f2, C2⟩ := q1
      first | refine e_inc3 rfl rfl rfl (incN1 _) ?_ | refine e_inc3 rfl rfl rfl rfl ?_
      refine e_goto (tgt := 13) rfl rfl ?_
      rw [pa_sp (sp' := nI 0) (by decide)] at C2
      have e60 := f2.c60 (by omega)
      have C2' : RC I2 J2 70 n (dayB P n t q i S) := by unfold dayB; rw [← eS]; exact C2
      refine ih (i + 1) I2 J2 _ (D + 1) (by omega) ((q1.tr f2.fq).rp hR) (by rw [dayB8, eD, nI_add]) (by omega) C2' (by rw [e60, e1]; exact d2) (by rw [e60, e1]; exact d3) (fun I3 J3 f3 e3 e => ?_)
      exact kk I3 J3 ((q1.tr f2.fq).tr f3) (by rw [e3, e60, e1]) e
    refine e_iload_n rfl rfl ?_
    refine e_bipush (v := nI 30) rfl bp_30N ?_
    first | refine e_icmp_geN (tgt := 67) rfl rfl (by omega) (by omega) (fun z => ?_) (fun z => ?_) | refine e_icmp_ge (tgt := 67) rfl rfl (fun z => ?_) (fun z => ?_)
    · omega
    · refine e_aload_n rfl rfl ?_
      refine e_getP rfl f9_34 (by assumption) rfl (by assumption) ?_
      refine e_aload_n rfl rfl ?_
      refine e_getP rfl f9_45 (by assumption) rfl (by assumption) ?_
      refine e_callVp (kd := 0) (M2 := m0_mayBringGlory) rfl v9_252 ok0_mayBringGlory (c0_mayBringGlory h0 d0 h3 h6) rfl (by assumption) rfl rfl rfl rfl ?_
      first | refine e_if_eqB (tgt := 67) rfl rfl (fun z => ?_) (fun z => ?_) | refine e_if_eqN (tgt := 67) rfl rfl (by omega) (fun z => ?_) (fun z => ?_) | refine e_if_eq (tgt := 67) rfl rfl (fun z => ?_) (fun z => ?_)
      · rw [e8, o9] at z
        have z0 := Int32.not_le.mp (of_decide_eq_false z)
        refine kk I J FQ.rf rfl ?_ _
        rw [rn_late (L := P.2 20 4) (fun _ _ => dayB8) (fun _ _ h => dayB10 hW h) (k + 1) i S D eD hDk z0]
        exact hC.2.2.2.2.2.1.2.2.1
      · refine e_iload_n rfl rfl ?_
        refine e_iload_n rfl rfl ?_
        first | refine e_icmp_neN (tgt := 50) rfl rfl (by omega) (by omega) (fun z => ?_) (fun z => ?_) | refine e_icmp_ne (tgt := 50) rfl rfl (fun z => ?_) (fun z => ?_)
        · have y : i ≠ q := by assumption
          exact tail I J S FQ.rf rfl hC (by rw [if_neg y])
        · have y : i = q := by assumption
          refine e_aload_n rfl rfl ?_
          refine e_getP rfl f9_34 (by assumption) rfl (by assumption) ?_
          refine e_aload_n rfl rfl ?_
          refine e_getP rfl f9_45 (by assumption) rfl (by assumption) ?_
          refine e_iload_n rfl rfl ?_
          refine e_callV (kd := 0) (M2 := m0_unsealAnyway) rfl v9_256 ok0_unsealAnyway (c0_unsealAnyway hG.hd70 hR hW hC hn ht) rfl (by assumption) rfl rfl rfl rfl (fun r1 h1 q1 => ?_)
          obtain ⟨rfl, I1, J1, rfl, f1, C1⟩ := q1
          exact tail I1 J1 _ f1.fq (f1.c60 (by omega)) C1 (by rw [if_pos y]; rfl)
theorem c9_gainedByOpening (hG : GK K) (hR : RP I 33 P) (hW : wfP P) (hC : RC I J 62 n S) {D : Nat} (eD : S 8 0 = nI D) (hD2 : D ≤ 20000) (hn : P.1 1 = n) {t q : Nat} (ht : t < n) (hq : q ≤ 20) (d2 : I 60 2 = bI false) (d3 : I 60 3 = nI 0) : Cw l G (d + 6) m9_gainedByOpening [.ref 0, .int (nI t), .int (nI q)] (I, J, K) (fun r h' => r = some (.int (gbF P n S t q)) ∧ ∃ I' J', h' = (I', J', K) ∧ FQ I J I' J' ∧ I' 60 = I 60) := by
  have hG2 := hG
  obtain ⟨⟨k9, t0, t2, t3, t4, t5, t6, t7, t9, t10, t11, t12⟩, -, -, -, hP, hD, hS, hS7, -⟩ := hG2
  have h6 := hS.1
  have h67 := hS7.1
  refine Cw.of ok9_gainedByOpening rfl (rfl : argL _ _ = [.ref 0, .int (nI t), .int (nI q), .null]) ?_
  refine e_aload_n rfl rfl ?_
  refine e_getP rfl f9_45 (by assumption) rfl (by assumption) ?_
  refine e_aload_n rfl rfl ?_
  refine e_getP rfl f9_41 (by assumption) rfl (by assumption) ?_
  refine e_callV (kd := 6) (M2 := m6_take) rfl v9_219 ok6_take (c6_take hS7 hS (by omega)) rfl (by assumption) rfl rfl rfl rfl (fun r1 h1 q1 => ?_)
  obtain ⟨rfl, I1, J1, rfl, tk⟩ := q1
  refine e_iconst (v := nI 0) rfl ic_0N ?_
  refine e_ist3 rfl rfl rfl ?_
  have q1 : FQ I J I1 J1 := FQ.took tk
  have C1 : RC I1 J1 70 n S := took_rc tk hC
  refine gbo_loop hG hW hn ht hq 30 0 _ _ S D (by omega) (q1.rp hR) eD (by omega) C1 (by rw [tk.1 60 (by omega)]; exact d2) (by rw [tk.1 60 (by omega)]; exact d3) (fun I2 J2 f2 e60 e v => ?_)
  have q2 := q1.tr f2
  refine e_aload_n rfl rfl ?_
  refine e_getP rfl f9_45 (by assumption) rfl (by assumption) ?_
  refine e_getI rfl f9_221 (by assumption) rfl ?_
  refine e_aload_n rfl rfl ?_
  refine e_getP rfl f9_41 (by assumption) rfl (by assumption) ?_
  refine e_getI rfl f9_221 (by assumption) rfl ?_
  rw [e, (q2.now hC).2.2.2.2.2.1.2.2.1]
  refine e_isub rfl ?_
  exact e_ireturn rfl rfl ⟨rfl, I2, J2, rfl, q2, by rw [e60, tk.1 60 (by omega)]⟩
def a_best (P : Pl) (n : Nat) (S : SM) (t w : Int32) : Int32 :=
  if inN n t = true ∧ inN 2 w = true then (if S 0 t.toNatClampNeg = 0 then (if w = nI 0 then (bsF (gbF P n S t.toNatClampNeg) 21 0 (-1) (nI 0)).2 else (bsF (gbF P n S t.toNatClampNeg) 21 0 (-1) (nI 0)).1) else -2) else -1
theorem best_loop (hG : GK K) (hW : wfP P) {D : Nat} (eD : S 8 0 = nI D) (hD2 : D ≤ 20000) (hn : P.1 1 = n) {t w : Nat} (ht : t < n) (hw : w < 2) : ∀ k q I J mo be v, q + k = 21 → RP I 33 P → RC I J 62 n S → I 60 2 = bI false → I 60 3 = nI 0 → (∀ I' J', FQ I J I' J' → Q (some (.int (if nI w = nI 0 then (bsF (gbF P n S t) k q mo be).2 else (bsF (gbF P n S t) k q mo be).1))) (I', J', K)) → Gw l G (d + 7) m9_best 51 [.ref 0, .int (nI t), .int (nI w), .int mo, .int be, .int (nI q), v] [] (I, J, K) Q := by
  have hG2 := hG
  obtain ⟨⟨k9, t0, t2, t3, t4, t5, t6, t7, t9, t10, t11, t12⟩, -, -, -, hP, hD, hS6, hS, -⟩ := hG2
  intro k
  induction k with
  | zero =>
    intro q I J mo be v hq hR hC d2 d3 kk
    obtain rfl : q = 21 := by omega
    have := kk I J FQ.rf
    refine e_iload rfl rfl ?_
    refine e_bipush (v := nI 20) rfl bp_20N ?_
    first | refine e_icmp_gtN (tgt := 86) rfl rfl (by omega) (by omega) (fun z => ?_) (fun z => ?_) | refine e_icmp_gt (tgt := 86) rfl rfl (fun z => ?_) (fun z => ?_)
    · refine e_iload_n rfl rfl ?_
      first | refine e_if_neB (tgt := 95) rfl rfl (fun z => ?_) (fun z => ?_) | refine e_if_neN (tgt := 95) rfl rfl (by omega) (fun z => ?_) (fun z => ?_) | refine e_if_ne (tgt := 95) rfl rfl (fun z => ?_) (fun z => ?_)
      · have y : w ≠ 0 := by assumption
        rw [if_neg (ne42 y (by omega) (by omega))] at this
        refine e_iload_n rfl rfl ?_
        refine e_ireturn rfl rfl ?_
        exact this
      · have y : w = 0 := by assumption
        subst y
        rw [if_pos rfl] at this
        refine e_iload rfl rfl ?_
        refine e_goto (tgt := 96) rfl rfl ?_
        refine e_ireturn rfl rfl ?_
        exact this
    · omega
  | succ k ih =>
    intro q I J mo be v hq hR hC d2 d3 kk
    refine e_iload rfl rfl ?_
    refine e_bipush (v := nI 20) rfl bp_20N ?_
    first | refine e_icmp_gtN (tgt := 86) rfl rfl (by omega) (by omega) (fun z => ?_) (fun z => ?_) | refine e_icmp_gt (tgt := 86) rfl rfl (fun z => ?_) (fun z => ?_)
    · omega
    · refine e_aload_n rfl rfl ?_
      refine e_iload_n rfl rfl ?_
      refine e_iload rfl rfl ?_
      refine e_callV (kd := 9) (M2 := m9_gainedByOpening) rfl v9_268 ok9_gainedByOpening (c9_gainedByOpening hG hR hW hC eD hD2 hn ht (by omega) d2 d3) rfl (by assumption) rfl rfl rfl rfl (fun r1 h1 q1 => ?_)
      obtain ⟨rfl, I1, J1, rfl, q1, e60⟩ := q1
      refine e_ist6 rfl rfl rfl ?_
      refine e_iload rfl rfl ?_
      refine e_iload_n rfl rfl ?_
      first | refine e_icmp_leN (tgt := 80) rfl rfl (by omega) (by omega) (fun z => ?_) (fun z => ?_) | refine e_icmp_le (tgt := 80) rfl rfl (fun z => ?_) (fun z => ?_)
      · have y : gbF P n S t q ≤ mo := by assumption
        first | refine e_inc5 rfl rfl rfl (incN1 _) ?_ | refine e_inc5 rfl rfl rfl rfl ?_
        refine e_goto (tgt := 51) rfl rfl ?_
        refine ih (q + 1) I1 J1 mo be _ (by omega) (q1.rp hR) (q1.now hC) (by rw [e60]; exact d2) (by rw [e60]; exact d3) (fun I2 J2 q2 => ?_)
        have := kk I2 J2 (q1.tr q2)
        rw [bsF, if_neg (Int32.not_lt.mpr y)] at this
        exact this
      · have y : ¬ gbF P n S t q ≤ mo := by assumption
        refine e_iload rfl rfl ?_
        refine e_ist3 rfl rfl rfl ?_
        refine e_iload rfl rfl ?_
        refine e_ist4 rfl rfl rfl ?_
        first | refine e_inc5 rfl rfl rfl (incN1 _) ?_ | refine e_inc5 rfl rfl rfl rfl ?_
        refine e_goto (tgt := 51) rfl rfl ?_
        refine ih (q + 1) I1 J1 _ _ _ (by omega) (q1.rp hR) (q1.now hC) (by rw [e60]; exact d2) (by rw [e60]; exact d3) (fun I2 J2 q2 => ?_)
        have := kk I2 J2 (q1.tr q2)
        rw [bsF, if_pos (Int32.not_le.mp y)] at this
        exact this
theorem c9_best (hG : GK K) (hI : CI I J P S im SI m T kn u Hs B) (hV : wfS P S) (hn : P.1 1 = n) (t w : Int32) : Cw l G (d + 7) m9_best [.ref 0, .int t, .int w] (I, J, K) (fun r h' => r = some (.int (a_best P n S t w)) ∧ Pst I J K h' P S im SI m T kn u Hs (B + 1)) := by
  have hG2 := hG
  obtain ⟨⟨k9, t0, t2, t3, t4, t5, t6, t7, t9, t10, t11, t12⟩, -, -, -, hP, hD, hS, hS7, -⟩ := hG2
  have hI2 := hI
  obtain ⟨hR, hW, hC, hHC, hIm, hImg, hRT, U, hRU, hUB⟩ := hI2
  rw [hn] at hC hHC hUB
  have h6 := hS.1
  have h0 := hD.1
  have hn8 := hC.2.1
  obtain ⟨D, hD2, eD⟩ := hV.2.2
  have no : ¬ (inN n t = true ∧ inN 2 w = true) → ∀ v3 v4 v5 v6, Gw l G (d + 7) m9_best 20 [.ref 0, .int t, .int w, v3, v4, v5, v6] [] (I, J, K) (fun r h' => r = some (.int (a_best P n S t w)) ∧ Pst I J K h' P S im SI m T kn u Hs (B + 1)) := by
    intro hno v3 v4 v5 v6
    rw [a_best, if_neg hno]
    refine e_iconst rfl ic_m1 ?_
    refine e_ireturn rfl rfl ?_
    exact ⟨rfl, I, J, rfl, FX.rf, hI.mono (by omega)⟩
  refine Cw.of ok9_best rfl (rfl : argL _ _ = [.ref 0, .int t, .int w, .null, .null, .null, .null]) ?_
  refine e_aload_n rfl rfl ?_
  refine e_getP rfl f9_41 (by assumption) rfl (by assumption) ?_
  refine e_iload_n rfl rfl ?_
  refine e_callVp (kd := 6) (M2 := m6_has) rfl v9_121 ok6_has (c6_has h6 hC.1 t) rfl (by assumption) rfl rfl rfl rfl ?_
  first | refine e_if_eqB (tgt := 20) rfl rfl (fun z => ?_) (fun z => ?_) | refine e_if_eqN (tgt := 20) rfl rfl (by omega) (fun z => ?_) (fun z => ?_) | refine e_if_eq (tgt := 20) rfl rfl (fun z => ?_) (fun z => ?_)
  · exact no (fun q => by rw [z] at q; exact absurd q.1 (by decide)) _ _ _ _
  · have hin : inN n t = true := by assumption
    obtain ⟨j, hj, rfl⟩ := inN_of (by omega) hin
    have e0 : I (62 + 1) j = S 0 j := (hC.2.2.1 j hj).1
    refine e_iload_n rfl rfl ?_
    first | refine e_if_ltN (tgt := 20) rfl rfl (by omega) ?_ | refine e_if_lt (tgt := 20) rfl rfl (fun z => ?_) (fun z => ?_)
    · have y : w < 0 := by assumption
      exact no (fun q => (inN_lo (k := 1) (by omega) q.2).1 y) _ _ _ _
    · have y0 : ¬ w < 0 := by assumption
      refine e_iload_n rfl rfl ?_
      refine e_iconst (v := nI 1) rfl ic_1N ?_
      first | refine e_icmp_leN (tgt := 22) rfl rfl (by omega) (by omega) (fun z => ?_) (fun z => ?_) | refine e_icmp_le (tgt := 22) rfl rfl (fun z => ?_) (fun z => ?_)
      · have y1 : w ≤ nI 1 := by assumption
        have hw : inN 2 w = true := inN_hi (k := 1) (by omega) y0 y1
        obtain ⟨i, hi, rfl⟩ := inN_of (by omega) hw
        rw [a_best, if_pos ⟨hin, hw⟩, nI_clamp (by omega)]
        refine e_aload_n rfl rfl ?_
        refine e_getP rfl f9_41 (by assumption) rfl (by assumption) ?_
        refine e_iload_n rfl rfl ?_
        refine e_callVp (kd := 6) (M2 := m6_isClosed) rfl v9_203 ok6_isClosed (c6_isClosed hS hC.1 hn8 (nI j)) rfl (by assumption) rfl rfl rfl rfl ?_
        first | refine e_if_neB (tgt := 36) rfl rfl (fun z => ?_) (fun z => ?_) | refine e_if_neN (tgt := 36) rfl rfl (by omega) (fun z => ?_) (fun z => ?_) | refine e_if_ne (tgt := 36) rfl rfl (fun z => ?_) (fun z => ?_)
        · rw [hin, Bool.true_and, nI_clamp (by omega), e0] at z
          rw [if_pos (of_decide_eq_true z)]
          refine e_iconst rfl ic_m1 ?_
          refine e_ist3 rfl rfl rfl ?_
          refine e_iconst (v := nI 0) rfl ic_0N ?_
          refine e_ist4 rfl rfl rfl ?_
          refine e_aload_n rfl rfl ?_
          refine e_getP rfl f9_34 (by assumption) rfl (by assumption) ?_
          refine e_callV (kd := 0) (M2 := m0_asItGoes) rfl v9_216 ok0_asItGoes (c0_asItGoes h0) rfl (by assumption) rfl rfl rfl rfl (fun r1 h1 q1 => ?_)
          obtain ⟨rfl, rfl⟩ := q1
          refine e_iconst (v := nI 0) rfl ic_0N ?_
          refine e_ist5 rfl rfl rfl ?_
          have q1 : FQ I J (u2 (u2 I 60 2 (nI 0)) 60 3 (nI 0)) J := (FQ.rf.u60 _ _).u60 _ _
          refine best_loop hG hW eD hD2 hn hj hi 21 0 _ _ _ _ _ (by omega) (q1.rp hR) (q1.now hC) (by rw [u2_nk _ _ (by omega), u2_at]; rfl) (by rw [u2_at]) (fun I2 J2 f2 => ?_)
          have q2 := q1.tr f2
          exact ⟨rfl, I2, J2, rfl, q2.fx, (hI.frame q2).mono (by omega)⟩
        · rw [hin, Bool.true_and, nI_clamp (by omega), e0] at z
          rw [if_neg (of_decide_eq_false z)]
          refine e_bipush rfl bp_m2 ?_
          refine e_ireturn rfl rfl ?_
          exact ⟨rfl, I, J, rfl, FX.rf, hI.mono (by omega)⟩
      · exact no (fun q => absurd (inN_lo (k := 1) (by omega) q.2).2 (by assumption)) _ _ _ _
theorem chance_in (hG : GK K) (hW : wfP P) (hn : P.1 1 = n) {N tn : Nat} {s : Int32} {x : Int64} {c i : Nat} (hN : N ≤ 99) : ∀ k j I J S, j + k = N → RP I 33 P → RC I J 70 n S → I 60 2 = bI true → I 60 3 = nI 0 → (∀ I' J', FQ I J I' J' → I' 60 = I 60 → RC I' J' 70 n (itS (pa0 P true n) k S) → Gw l G (d + 6) m9_chance 99 [.ref 0, .int s, .int (nI N), .int (nI tn), .long x, .null, .int (nI c), .int (nI i), .int (nI N)] [] (I', J', K) Q) → Gw l G (d + 6) m9_chance 76 [.ref 0, .int s, .int (nI N), .int (nI tn), .long x, .null, .int (nI c), .int (nI i), .int (nI j)] [] (I, J, K) Q := by
  have hG2 := hG
  obtain ⟨⟨k9, t0, t2, t3, t4, t5, t6, t7, t9, t10, t11, t12⟩, -, -, -, hP, hD, -, hS, -⟩ := hG2
  have h0 := hD.1
  intro k
  induction k with
  | zero =>
    intro j I J S hj hR hC d2 d3 kk
    obtain rfl : j = N := by omega
    refine e_iload rfl rfl ?_
    refine e_iload_n rfl rfl ?_
    first | refine e_icmp_geN (tgt := 99) rfl rfl (by omega) (by omega) (fun z => ?_) (fun z => ?_) | refine e_icmp_ge (tgt := 99) rfl rfl (fun z => ?_) (fun z => ?_)
    · exact kk I J FQ.rf rfl hC
    · omega
  | succ k ih =>
    intro j I J S hj hR hC d2 d3 kk
    refine e_iload rfl rfl ?_
    refine e_iload_n rfl rfl ?_
    first | refine e_icmp_geN (tgt := 99) rfl rfl (by omega) (by omega) (fun z => ?_) (fun z => ?_) | refine e_icmp_ge (tgt := 99) rfl rfl (fun z => ?_) (fun z => ?_)
    · omega
    · refine e_aload_n rfl rfl ?_
      refine e_getP rfl f9_34 (by assumption) rfl (by assumption) ?_
      refine e_aload_n rfl rfl ?_
      refine e_getP rfl f9_45 (by assumption) rfl (by assumption) ?_
      refine e_callV (kd := 0) (M2 := m0_pass) rfl v9_212 ok0_pass (c0_pass hG.hd70 hR hW hC hn d2 d3 rfl) rfl (by assumption) rfl rfl rfl rfl (fun r1 h1 q1 => ?_)
      obtain ⟨rfl, I1, J1, rfl, f1, C1⟩ := q1
      first | refine e_inc8 rfl rfl rfl (incN1 _) ?_ | refine e_inc8 rfl rfl rfl rfl ?_
      refine e_goto (tgt := 76) rfl rfl ?_
      rw [pa_sp (sp' := nI 0) (by decide)] at C1
      have e60 := f1.c60 (by omega)
      refine ih (j + 1) I1 J1 _ (by omega) (f1.rp (by omega) (by omega) hR) C1 (by rw [e60]; exact d2) (by rw [e60]; exact d3) (fun I2 J2 f2 e2 C2 => ?_)
      exact kk I2 J2 (f1.fq.tr f2) (e2.trans e60) C2
theorem chance_loop (hG : GK K) (hW : wfP P) (hn : P.1 1 = n) {N tn : Nat} {s : Int32} (hN : N ≤ 99) (htn : tn ≤ 8) : ∀ k i I J (x : Int32) c v, i + k = 10 → c ≤ i → RP I 33 P → RC I J 62 n S → I 60 2 = bI true → I 60 3 = nI 0 → (∀ I' J', FQ I J I' J' → Q (some (.int (nI (chF P n S N tn k x c)))) (I', J', K)) → Gw l G (d + 6) m9_chance 46 [.ref 0, .int s, .int (nI N), .int (nI tn), .long x.toInt64, .null, .int (nI c), .int (nI i), v] [] (I, J, K) Q := by
  have hG2 := hG
  obtain ⟨⟨k9, t0, t2, t3, t4, t5, t6, t7, t9, t10, t11, t12⟩, -, -, -, hP, hD, hS6, hS, -⟩ := hG2
  have h6 := hS.1
  intro k
  induction k with
  | zero =>
    intro i I J x c v hi hc hR hC d2 d3 kk
    obtain rfl : i = 10 := by omega
    have := kk I J FQ.rf
    refine e_iload rfl rfl ?_
    refine e_bipush (v := nI 10) rfl bp_10N ?_
    first | refine e_icmp_geN (tgt := 129) rfl rfl (by omega) (by omega) (fun z => ?_) (fun z => ?_) | refine e_icmp_ge (tgt := 129) rfl rfl (fun z => ?_) (fun z => ?_)
    · refine e_iload rfl rfl ?_
      refine e_ireturn rfl rfl ?_
      exact this
    · omega
  | succ k ih =>
    intro i I J x c v hi hc hR hC d2 d3 kk
    refine e_iload rfl rfl ?_
    refine e_bipush (v := nI 10) rfl bp_10N ?_
    first | refine e_icmp_geN (tgt := 129) rfl rfl (by omega) (by omega) (fun z => ?_) (fun z => ?_) | refine e_icmp_ge (tgt := 129) rfl rfl (fun z => ?_) (fun z => ?_)
    · omega
    · refine e_aload_n rfl rfl ?_
      refine e_getP rfl f9_45 (by assumption) rfl (by assumption) ?_
      refine e_aload_n rfl rfl ?_
      refine e_getP rfl f9_41 (by assumption) rfl (by assumption) ?_
      refine e_callV (kd := 6) (M2 := m6_take) rfl v9_219 ok6_take (c6_take hS hS6 (by omega)) rfl (by assumption) rfl rfl rfl rfl (fun r1 h1 q1 => ?_)
      obtain ⟨rfl, I1, J1, rfl, tk⟩ := q1
      refine e_aload_n rfl rfl ?_
      refine e_getP rfl f9_45 (by assumption) rfl (by assumption) ?_
      refine e_lload rfl rfl ?_
      refine e_putJ rfl f9_343 (by assumption) rfl rfl ?_
      refine e_iconst (v := nI 0) rfl ic_0N ?_
      refine e_ist8 rfl rfl rfl ?_
      have q1 : FQ I J I1 (u2 J1 70 14 x.toInt64) := ⟨(FQ.took tk).1, fun c b1 b2 => by rw [u2_row _ _ b2]; exact (FQ.took tk).2 c b1 b2⟩
      have C1 : RC I1 (u2 J1 70 14 x.toInt64) 70 n (u2 S 14 0 x) := (took_rc tk hC).up14 rfl
      refine chance_in hG hW hn hN N 0 _ _ _ (by omega) (q1.rp hR) C1 (by rw [tk.1 60 (by omega)]; exact d2) (by rw [tk.1 60 (by omega)]; exact d3) (fun I2 J2 f2 e2 C2 => ?_)
      have q2 := q1.tr f2
      have e60 : I2 60 = I 60 := e2.trans (tk.1 60 (by omega))
      have ej : J2 70 14 = (itS (pa0 P true n) N (u2 S 14 0 x) 14 0).toInt64 := C2.2.2.2.2.2.2
      have hle := cF_le (fun t => decide (itS (pa0 P true n) N (u2 S 14 0 x) 0 t = nI 3)) n 0
      have hn8 := C2.2.1
      refine e_aload_n rfl rfl ?_
      refine e_getP rfl f9_45 (by assumption) rfl (by assumption) ?_
      refine e_getJ rfl f9_343 (by assumption) rfl ?_
      rw [ej]
      refine e_lst4 rfl rfl rfl ?_
      refine e_aload_n rfl rfl ?_
      refine e_getP rfl f9_45 (by assumption) rfl (by assumption) ?_
      refine e_iconst (v := nI 3) rfl ic_3N ?_
      refine e_callVp (kd := 6) (M2 := m6_howMany) rfl v9_230 ok6_howMany (c6_howMany hS C2.1 C2.2.1 _) rfl (by assumption) rfl rfl rfl rfl ?_
      rw [rc_many C2]
      have hle2 : cnt (fun t => decide (itS (pa0 P true n) N (u2 S 14 0 x) 0 t = nI 3)) n ≤ n := hle
      refine e_iload_n rfl rfl ?_
      first | refine e_icmp_ltN (tgt := 123) rfl rfl (by omega) (by omega) (fun z => ?_) (fun z => ?_) | refine e_icmp_lt (tgt := 123) rfl rfl (fun z => ?_) (fun z => ?_)
      · have y := z
        first | refine e_inc7 rfl rfl rfl (incN1 _) ?_ | refine e_inc7 rfl rfl rfl rfl ?_
        refine e_goto (tgt := 46) rfl rfl ?_
        refine ih (i + 1) I2 J2 _ c _ (by omega) (by omega) (q2.rp hR) (q2.now hC) (by rw [e60]; exact d2) (by rw [e60]; exact d3) (fun I3 J3 q3 => ?_)
        have := kk I3 J3 (q2.tr q3)
        rw [chF, if_neg (by omega)] at this
        exact this
      · have y := z
        first | refine e_inc6 rfl rfl rfl (incN1 _) ?_ | refine e_inc6 rfl rfl rfl rfl ?_
        first | refine e_inc7 rfl rfl rfl (incN1 _) ?_ | refine e_inc7 rfl rfl rfl rfl ?_
        refine e_goto (tgt := 46) rfl rfl ?_
        refine ih (i + 1) I2 J2 _ (c + 1) _ (by omega) (by omega) (q2.rp hR) (q2.now hC) (by rw [e60]; exact d2) (by rw [e60]; exact d3) (fun I3 J3 q3 => ?_)
        have := kk I3 J3 (q2.tr q3)
        rw [chF, if_pos (by omega)] at this
        exact this
def a_chance (P : Pl) (n : Nat) (S : SM) (s x y : Int32) : Int32 := if ¬ s < 0 ∧ inN 100 x = true ∧ ¬ x = nI 0 ∧ inN 9 y = true then nI (chF P n S x.toNatClampNeg y.toNatClampNeg 10 s 0) else -1
theorem c9_chance (hG : GK K) (hI : CI I J P S im SI m T kn u Hs B) (hn : P.1 1 = n) (s x y : Int32) : Cw l G (d + 6) m9_chance [.ref 0, .int s, .int x, .int y] (I, J, K) (fun r h' => r = some (.int (a_chance P n S s x y)) ∧ Pst I J K h' P S im SI m T kn u Hs (B + 1)) := by
  have hG2 := hG
  obtain ⟨⟨k9, t0, t2, t3, t4, t5, t6, t7, t9, t10, t11, t12⟩, -, -, -, hP, hD, hS, hS7, -⟩ := hG2
  have hI2 := hI
  obtain ⟨hR, hW, hC, hHC, hIm, hImg, hRT, U, hRU, hUB⟩ := hI2
  rw [hn] at hC hHC hUB
  have h0 := hD.1
  have no : ¬ (¬ s < 0 ∧ inN 100 x = true ∧ ¬ x = nI 0 ∧ inN 9 y = true) → ∀ pc v4 v5 v6 v7 v8, lk m9_chance pc = some (.iconst (-1), pc + 1, 1) → lk m9_chance (pc + 1) = some (.ireturn, pc + 2, 1) → Gw l G (d + 6) m9_chance pc [.ref 0, .int s, .int x, .int y, v4, v5, v6, v7, v8] [] (I, J, K) (fun r h' => r = some (.int (a_chance P n S s x y)) ∧ Pst I J K h' P S im SI m T kn u Hs (B + 1)) := by
    intro hno pc v4 v5 v6 v7 v8 l1 l2
    rw [a_chance, if_neg hno]
    refine e_iconst l1 ic_m1 ?_
    exact e_ireturn l2 rfl ⟨rfl, I, J, rfl, FX.rf, hI.mono (by omega)⟩
  refine Cw.of ok9_chance rfl (rfl : argL _ _ = [.ref 0, .int s, .int x, .int y, .null, .null, .null, .null, .null]) ?_
  refine e_iload_n rfl rfl ?_
  first | refine e_if_ltN (tgt := 15) rfl rfl (by omega) ?_ | refine e_if_lt (tgt := 15) rfl rfl (fun z => ?_) (fun z => ?_)
  · have y : s < 0 := by assumption
    exact no (fun q => q.1 y) _ _ _ _ _ _ rfl rfl
  · have y0 : ¬ s < 0 := by assumption
    refine e_iload_n rfl rfl ?_
    refine e_iconst (v := nI 1) rfl ic_1N ?_
    first | refine e_icmp_ltN (tgt := 15) rfl rfl (by omega) (by omega) (fun z => ?_) (fun z => ?_) | refine e_icmp_lt (tgt := 15) rfl rfl (fun z => ?_) (fun z => ?_)
    · have y1 : x < nI 1 := by assumption
      refine no (fun q => ?_) _ _ _ _ _ _ rfl rfl
      obtain ⟨j, hj, rfl⟩ := inN_of (by omega) q.2.1
      have := (nI_ltI (by omega) (by omega)).mp y1
      exact q.2.2.1 (by rw [show j = 0 by omega])
    · have y1 : ¬ x < nI 1 := by assumption
      have y10 : ¬ x < 0 := fun q => y1 (Int32.lt_trans q (by decide))
      refine e_iload_n rfl rfl ?_
      refine e_bipush (v := nI 99) rfl bp_99N ?_
      first | refine e_icmp_leN (tgt := 17) rfl rfl (by omega) (by omega) (fun z => ?_) (fun z => ?_) | refine e_icmp_le (tgt := 17) rfl rfl (fun z => ?_) (fun z => ?_)
      · have y2 : x ≤ nI 99 := by assumption
        have hx : inN 100 x = true := inN_hi (k := 99) (by omega) y10 y2
        refine e_iload_n rfl rfl ?_
        first | refine e_if_ltN (tgt := 27) rfl rfl (by omega) ?_ | refine e_if_lt (tgt := 27) rfl rfl (fun z => ?_) (fun z => ?_)
        · have y3 : y < 0 := by assumption
          exact no (fun q => (inN_lo (k := 8) (by omega) q.2.2.2).1 y3) _ _ _ _ _ _ rfl rfl
        · have y3 : ¬ y < 0 := by assumption
          refine e_iload_n rfl rfl ?_
          refine e_bipush (v := nI 8) rfl bp_8N ?_
          first | refine e_icmp_leN (tgt := 29) rfl rfl (by omega) (by omega) (fun z => ?_) (fun z => ?_) | refine e_icmp_le (tgt := 29) rfl rfl (fun z => ?_) (fun z => ?_)
          · have y4 : y ≤ nI 8 := by assumption
            have hy : inN 9 y = true := inN_hi (k := 8) (by omega) y3 y4
            rw [a_chance, if_pos ⟨y0, hx, fun q => y1 (by rw [q]; decide), hy⟩]
            obtain ⟨N, hN, rfl⟩ := inN_of (by omega) hx
            obtain ⟨tn, htn, rfl⟩ := inN_of (by omega) hy
            rw [nI_clamp (by omega), nI_clamp (by omega)]
            refine e_iload_n rfl rfl ?_
            refine e_i2l rfl ?_
            refine e_lst4 rfl rfl rfl ?_
            refine e_iconst (v := nI 0) rfl ic_0N ?_
            refine e_ist6 rfl rfl rfl ?_
            refine e_aload_n rfl rfl ?_
            refine e_getP rfl f9_34 (by assumption) rfl (by assumption) ?_
            refine e_callV (kd := 0) (M2 := m0_byNumbers) rfl v9_209 ok0_byNumbers (c0_byNumbers h0) rfl (by assumption) rfl rfl rfl rfl (fun r1 h1 q1 => ?_)
            obtain ⟨rfl, rfl⟩ := q1
            refine e_iconst (v := nI 0) rfl ic_0N ?_
            refine e_ist7 rfl rfl rfl ?_
            have q1 : FQ I J (u2 (u2 I 60 2 (nI 1)) 60 3 (nI 0)) J := (FQ.rf.u60 _ _).u60 _ _
            refine chance_loop hG hW hn (by omega) (by omega) 10 0 _ _ s 0 _ (by omega) (by omega) (q1.rp hR) (q1.now hC) (by rw [u2_nk _ _ (by omega), u2_at]; rfl) (by rw [u2_at]) (fun I2 J2 f2 => ?_)
            have q2 := q1.tr f2
            exact ⟨rfl, I2, J2, rfl, q2.fx, (hI.frame q2).mono (by omega)⟩
          · exact no (fun q => absurd (inN_lo (k := 8) (by omega) q.2.2.2).2 (by assumption)) _ _ _ _ _ _ rfl rfl
      · exact no (fun q => absurd (inN_lo (k := 99) (by omega) q.2.1).2 (by assumption)) _ _ _ _ _ _ rfl rfl
end MRun3
