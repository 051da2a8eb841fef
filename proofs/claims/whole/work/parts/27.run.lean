/-! ===== DAYS that go by: what they leave as it is; go, ahead ===== -/
theorem FQ.rf {I : IM} {J : JM} : FQ I J I J := ⟨fun _ _ _ _ _ _ => rfl, fun _ _ _ => rfl⟩
theorem FQ.tr {I I1 I2 : IM} {J J1 J2 : JM} (h1 : FQ I J I1 J1) (h2 : FQ I1 J1 I2 J2) : FQ I J I2 J2 := ⟨fun c a b c1 d e => (h2.1 c a b c1 d e).trans (h1.1 c a b c1 d e), fun c a b => (h2.2 c a b).trans (h1.2 c a b)⟩
theorem FD.fq {I I1 : IM} {J J1 : JM} (h : FD I J I1 J1 60 33 70) : FQ I J I1 J1 := ⟨fun c a b c1 d e => h.1 c (by omega) (by omega), fun c a b => h.2.1 c (by omega) (by omega)⟩
theorem FD.c60 {I I1 : IM} {J J1 : JM} {s : Nat} (h : FD I J I1 J1 60 33 s) (hs : 62 ≤ s) : I1 60 = I 60 := h.1 60 (by omega) (by omega)
theorem FQ.rp {I I1 : IM} {J J1 : JM} {P : Pl} (h : FQ I J I1 J1) (hR : RP I 33 P) : RP I1 33 P := hR.frame (fun c h1 h2 => h.1 c (by omega) (by omega) (by omega) (by omega) (by omega))
theorem FQ.rt {I I1 : IM} {J J1 : JM} {m : Nat} {T : SM} {kn : Int32} (h : FQ I J I1 J1) (hR : RT I 86 m T kn) : RT I1 86 m T kn := hR.frame (fun c h1 h2 => h.1 c (by omega) (by omega) (by omega) (by omega) (by omega))
theorem FQ.now {I I1 : IM} {J J1 : JM} {n : Nat} {S : SM} (h : FQ I J I1 J1) (hC : RC I J 62 n S) : RC I1 J1 62 n S := hC.frame (fun c h1 h2 => h.1 c (by omega) (by omega) (by omega) (by omega) (by omega)) (by rw [h.2 62 (by omega) (by omega)])
theorem FQ.took {I I1 : IM} {J J1 : JM} (h : tookS I J 70 62 I1 J1) : FQ I J I1 J1 := ⟨fun c a b c1 d e => h.1 c (by omega), fun c a b => h.2.2.2.2 c (by omega)⟩
theorem FQ.u60 {I I1 : IM} {J J1 : JM} (h : FQ I J I1 J1) (k : Nat) (v : Int32) : FQ I J (u2 I1 60 k v) J1 := ⟨fun c a b c1 d e => by rw [u2_row _ _ a]; exact h.1 c a b c1 d e, h.2⟩
theorem FQ.u70 {I I1 : IM} {J J1 : JM} (h : FQ I J I1 J1) {a : Nat} (ha : 70 ≤ a ∧ a ≤ 77 ∨ a = 100 ∨ a = 101) (k : Nat) (v : Int32) : FQ I J (u2 I1 a k v) J1 := ⟨fun c a b c1 d e => by rw [u2_row _ _ (by omega)]; exact h.1 c a b c1 d e, h.2⟩
theorem inN_hi {k : Nat} {x : Int32} (hk : k + 1 < 2 ^ 31) (h0 : ¬ x < 0) (h1 : x ≤ nI k) : inN (k + 1) x = true := by
  obtain ⟨j, hj, rfl⟩ := nI_of h0
  exact decide_eq_true ⟨Int32.not_lt.mp h0, (nI_ltI hj (by omega)).mpr (by have := (nI_leI hj (by omega)).mp h1; omega)⟩
theorem inN_lo {k : Nat} {x : Int32} (hk : k + 1 < 2 ^ 31) (h : inN (k + 1) x = true) : ¬ x < 0 ∧ x ≤ nI k := by
  obtain ⟨j, hj, rfl⟩ := inN_of hk h
  exact ⟨nI_pos (by omega), (nI_leI (by omega) (by omega)).mpr (by omega)⟩
section Keep
variable {P : Pl} {n : Nat} {S : SM}
theorem ite_app {c : Prop} [Decidable c] {A B : SM} {r k : Nat} {v : Int32} (hA : A r k = v) (hB : B r k = v) : (if c then A else B) r k = v := by
  by_cases h : c
  · rw [if_pos h]; exact hA
  · rw [if_neg h]; exact hB
theorem u2_two {S : SM} {a k r c : Nat} {v : Int32} (h : r ≠ a) : u2 S a k v r c = S r c := u2_ne _ _ h
theorem unsS_row {t r c : Nat} (h : r ≠ 0 ∧ r ≠ 4 ∧ r ≠ 9) : unsS P S t r c = S r c := by
  unfold unsS
  rw [u2_ne _ _ (by omega), u2_ne _ _ (by omega), u2_ne _ _ (by omega)]
theorem ot1_row {way sp : Int32} {i r c : Nat} (h : r ≠ 0 ∧ r ≠ 4 ∧ r ≠ 9 ∧ r ≠ 13) : ot1 P way sp n S i r c = S r c := by
  unfold ot1
  exact ite_app (ite_app (unsS_row (by omega)) (u2_ne _ _ (by omega))) rfl
theorem otS_row {way sp : Int32} {r c : Nat} (h : r ≠ 0 ∧ r ≠ 4 ∧ r ≠ 9 ∧ r ≠ 13) : ∀ k i S, otS P way sp n i k S r c = S r c
  | 0, _, _ => rfl
  | k + 1, i, S => by rw [otS, otS_row h k, ot1_row h]
theorem sv1_row {busy : Int32} {w r c : Nat} (h : r ≠ 5 ∧ r ≠ 6 ∧ r ≠ 10 ∧ r ≠ 11 ∧ r ≠ 12) : (sv1 P n busy S w).2 r c = S r c := by
  unfold sv1
  split
  · split
    · show u2 _ _ _ _ r c = _
      rw [u2_ne _ _ (by omega), u2_ne _ _ (by omega)]
    · show u2 _ _ _ _ r c = _
      rw [u2_ne _ _ (by omega), u2_ne _ _ (by omega), u2_ne _ _ (by omega), u2_ne _ _ (by omega)]
  · rfl
theorem svS_row {r c : Nat} (h : r ≠ 5 ∧ r ≠ 6 ∧ r ≠ 10 ∧ r ≠ 11 ∧ r ≠ 12) : ∀ k w busy S, svS P n w k busy S r c = S r c
  | 0, _, _, _ => rfl
  | k + 1, w, busy, S => by rw [svS, svS_row h k, sv1_row h]
theorem go1_row {t r c : Nat} (h : r ≠ 0 ∧ r ≠ 4) : go1 S t r c = S r c := by
  unfold go1
  split
  · split
    · exact u2_ne _ _ (by omega)
    · rw [u2_ne _ _ (by omega), u2_ne _ _ (by omega)]
  · rfl
theorem goS_row {r c : Nat} (h : r ≠ 0 ∧ r ≠ 4) : ∀ k t S, goS t k S r c = S r c
  | 0, _, _ => rfl
  | k + 1, t, S => by rw [goS, goS_row h k, go1_row h]
theorem rsB_row {dr : Bool} {o : Int32} {r c : Nat} (h : r ≠ 14) : (rsB dr S o).2 r c = S r c := by
  unfold rsB
  split
  · rfl
  · split
    · rfl
    · exact u2_ne _ _ (by omega)
theorem ru1_row {dr : Bool} {t r c : Nat} (h : r ≠ 1 ∧ r ≠ 14) : ru1 P dr S t r c = S r c := by
  unfold ru1
  split
  · split
    · rw [u2_ne _ _ (by omega), rsB_row (by omega)]
    · exact rsB_row (by omega)
  · rfl
theorem ruS_row {dr : Bool} {r c : Nat} (h : r ≠ 1 ∧ r ≠ 14) : ∀ k t S, ruS P dr t k S r c = S r c
  | 0, _, _ => rfl
  | k + 1, t, S => by rw [ruS, ruS_row h k, ru1_row h]
theorem bl1_row {t r c : Nat} (h : r ≠ 0) : bl1 P S t r c = S r c := by
  unfold bl1
  split
  · exact u2_ne _ _ (by omega)
  · rfl
theorem blS_row {r c : Nat} (h : r ≠ 0) : ∀ k t S, blS P t k S r c = S r c
  | 0, _, _ => rfl
  | k + 1, t, S => by rw [blS, blS_row h k, bl1_row h]
theorem pa_day {dr : Bool} {way sp : Int32} : paS P dr way sp n S 8 0 = S 8 0 + nI 1 := by
  unfold paS
  rw [u2_at, blS_row (by omega)]
  congr 1
  split <;> split <;> simp only [ruS_row (r := 8) (c := 0) (by omega), goS_row (r := 8) (c := 0) (by omega), svS_row (r := 8) (c := 0) (by omega), otS_row (r := 8) (c := 0) (by omega)]
theorem pa_glory {dr : Bool} {way sp : Int32} (hW : wfP P) (h : P.2 20 4 < S 8 0) : paS P dr way sp n S 10 0 = S 10 0 := by
  unfold paS
  rw [u2_ne _ _ (by omega), blS_row (by omega)]
  have e : svS P n 0 (P.1 3) 0 (otS P way sp n 0 (P.1 2) S) = otS P way sp n 0 (P.1 2) S := svS_skip hW (by rw [otS_row (by omega)]; exact h) _ _ _ (by omega)
  split <;> split <;> simp only [ruS_row (r := 10) (c := 0) (by omega), goS_row (r := 10) (c := 0) (by omega), e, otS_row (r := 10) (c := 0) (by omega)]
/-- nothing else than stacks, their order: what no DAY touches -/
theorem pa_row {dr : Bool} {way sp : Int32} {r c : Nat} (h : r = 2 ∨ 15 ≤ r) : paS P dr way sp n S r c = S r c := by
  unfold paS
  rw [u2_ne _ _ (by omega), blS_row (by omega)]
  split <;> split <;> simp only [ruS_row (r := r) (c := c) (by omega), goS_row (r := r) (c := c) (by omega), svS_row (r := r) (c := c) (by omega), otS_row (r := r) (c := c) (by omega)]
theorem ot1_sp {way sp sp' : Int32} {i : Nat} (h : way ≠ nI 2) : ot1 P way sp n S i = ot1 P way sp' n S i := by
  unfold ot1
  by_cases c : P.2 9 i = S 8 0
  · rw [if_pos (c := P.2 9 i = S 8 0 ∧ ¬ (way = nI 2 ∧ P.2 8 i = sp)) ⟨c, fun q => h q.1⟩, if_pos (c := P.2 9 i = S 8 0 ∧ ¬ (way = nI 2 ∧ P.2 8 i = sp')) ⟨c, fun q => h q.1⟩]
  · rw [if_neg (c := P.2 9 i = S 8 0 ∧ ¬ (way = nI 2 ∧ P.2 8 i = sp)) (fun q => c q.1), if_neg (c := P.2 9 i = S 8 0 ∧ ¬ (way = nI 2 ∧ P.2 8 i = sp')) (fun q => c q.1)]
theorem otS_sp {way sp sp' : Int32} (h : way ≠ nI 2) : ∀ k i S, otS P way sp n i k S = otS P way sp' n i k S
  | 0, _, _ => rfl
  | k + 1, i, S => by rw [otS, otS, ot1_sp (sp' := sp') h, otS_sp h k]
end Keep
def pa0 (P : Pl) (dr : Bool) (n : Nat) (S : SM) : SM := paS P dr (nI 0) (nI 0) n S
theorem pa_sp {P : Pl} {dr : Bool} {way sp sp' : Int32} {n : Nat} {S : SM} (h : way ≠ nI 2) : paS P dr way sp n S = paS P dr way sp' n S := by
  unfold paS
  rw [otS_sp (sp' := sp') h]
def itS (f : SM → SM) : Nat → SM → SM
  | 0, S => S
  | k + 1, S => itS f k (f S)
section MRun
variable {l : Launch} {G : GG} {d : Nat} {I : IM} {J : JM} {K : Kt} {Q : Option Value → Hp → Prop} {P : Pl} {S : SM} {im : Bool} {SI : SM} {m : Nat} {T : SM} {kn : Int32} {u : Nat} {Hs : Nat → SM} {B n : Nat}
theorem go_loop (hG : GK K) (hW : wfP P) (hn : P.1 1 = n) {N : Nat} (hN : N ≤ 99) : ∀ k i I J S, i + k = N → RP I 33 P → RC I J 62 n S → I 60 2 = bI true → I 60 3 = nI 0 → (∀ I' J', FD I J I' J' 60 33 62 → RC I' J' 62 n (itS (pa0 P true n) k S) → Gw l G (d + 6) m9_go 58 [.ref 0, .int (nI N), .int (nI N)] [] (I', J', K) Q) → Gw l G (d + 6) m9_go 36 [.ref 0, .int (nI N), .int (nI i)] [] (I, J, K) Q := by
  have hG2 := hG
  obtain ⟨⟨k9, t0, t2, t3, t4, t5, t6, t7, t9, t10, t11, t12⟩, -, -, -, hP, hD, hS, -⟩ := hG2
  have h0 := hD.1
  intro k
  induction k with
  | zero =>
    intro i I J S hi hR hC d2 d3 kk
    obtain rfl : i = N := by omega
    refine e_iload_n rfl rfl ?_
    refine e_iload_n rfl rfl ?_
    first | refine e_icmp_geN (tgt := 58) rfl rfl (by omega) (by omega) (fun z => ?_) (fun z => ?_) | refine e_icmp_ge (tgt := 58) rfl rfl (fun z => ?_) (fun z => ?_)
    · exact kk I J FD.rf hC
    · omega
  | succ k ih =>
    intro i I J S hi hR hC d2 d3 kk
    refine e_iload_n rfl rfl ?_
    refine e_iload_n rfl rfl ?_
    first | refine e_icmp_geN (tgt := 58) rfl rfl (by omega) (by omega) (fun z => ?_) (fun z => ?_) | refine e_icmp_ge (tgt := 58) rfl rfl (fun z => ?_) (fun z => ?_)
    · omega
    · refine e_aload_n rfl rfl ?_
      refine e_getP rfl f9_34 (by assumption) rfl (by assumption) ?_
      refine e_aload_n rfl rfl ?_
      refine e_getP rfl f9_41 (by assumption) rfl (by assumption) ?_
      refine e_callV (kd := 0) (M2 := m0_pass) rfl v9_212 ok0_pass (c0_pass hG.hd62 hR hW hC hn d2 d3 rfl) rfl (by assumption) rfl rfl rfl rfl (fun r1 h1 q1 => ?_)
      obtain ⟨rfl, I1, J1, rfl, f1, C1⟩ := q1
      first | refine e_inc2 rfl rfl rfl (incN1 _) ?_ | refine e_inc2 rfl rfl rfl rfl ?_
      refine e_goto (tgt := 36) rfl rfl ?_
      rw [pa_sp (sp' := nI 0) (by decide)] at C1
      have e60 := f1.c60 (by omega)
      refine ih (i + 1) I1 J1 _ (by omega) (f1.rp (by omega) (by omega) hR) C1 (by rw [e60]; exact d2) (by rw [e60]; exact d3) (fun I2 J2 f2 C2 => ?_)
      exact kk I2 J2 (f1.tr f2) C2
def isGo (S : SM) (x : Int32) : Bool := inN 100 x && decide (S 8 0 + x ≤ nI 9900)
def a_go (P : Pl) (n : Nat) (S : SM) (x : Int32) : Int32 := if isGo S x = true then itS (pa0 P true n) x.toNatClampNeg S 8 0 else -1
theorem c9_go (hG : GK K) (hI : CI I J P S im SI m T kn u Hs B) (hn : P.1 1 = n) (x : Int32) : Cw l G (d + 6) m9_go [.ref 0, .int x] (I, J, K) (fun r h' => r = some (.int (a_go P n S x)) ∧ Pst I J K h' P (if isGo S x = true then itS (pa0 P true n) x.toNatClampNeg S else S) im SI m T kn (if isGo S x = true ∧ ¬ x = nI 0 then 0 else u) Hs (B + 1)) := by
  have hG2 := hG
  obtain ⟨⟨k9, t0, t2, t3, t4, t5, t6, t7, t9, t10, t11, t12⟩, -, -, -, hP, hD, hS, -, -, -, hU9⟩ := hG2
  have hI2 := hI
  obtain ⟨hR, hW, hC, hHC, hIm, hImg, hRT, U, hRU, hUB⟩ := hI2
  rw [hn] at hC hHC hUB
  have h6 := hS.1
  have h0 := hD.1
  have h7 := hU9.1
  have e8 : I 62 8 = S 8 0 := hC.2.2.2.2.2.1.1
  have no : isGo S x = false → ∀ v, Gw l G (d + 6) m9_go 25 [.ref 0, .int x, v] [] (I, J, K) (fun r h' => r = some (.int (a_go P n S x)) ∧ Pst I J K h' P (if isGo S x = true then itS (pa0 P true n) x.toNatClampNeg S else S) im SI m T kn (if isGo S x = true ∧ ¬ x = nI 0 then 0 else u) Hs (B + 1)) := by
    intro hno v
    rw [a_go, hno, if_neg (by decide), if_neg (c := false = true) (by decide), if_neg (by simp)]
    refine e_iconst rfl ic_m1 ?_
    refine e_ireturn rfl rfl ?_
    exact ⟨rfl, I, J, rfl, FX.rf, hI.mono (by omega)⟩
  refine Cw.of ok9_go rfl (rfl : argL _ _ = [.ref 0, .int x, .null]) ?_
  refine e_iload_n rfl rfl ?_
  first | refine e_if_ltN (tgt := 25) rfl rfl (by omega) ?_ | refine e_if_lt (tgt := 25) rfl rfl (fun z => ?_) (fun z => ?_)
  · have y : x < 0 := by assumption
    refine no ?_ _
    rw [isGo, show inN 100 x = false from decide_eq_false (fun q => absurd y (Int32.not_lt.mpr q.1)), Bool.false_and]
  · have y0 : ¬ x < 0 := by assumption
    refine e_iload_n rfl rfl ?_
    refine e_bipush (v := nI 99) rfl bp_99N ?_
    first | refine e_icmp_gtN (tgt := 25) rfl rfl (by omega) (by omega) (fun z => ?_) (fun z => ?_) | refine e_icmp_gt (tgt := 25) rfl rfl (fun z => ?_) (fun z => ?_)
    · have y : nI 99 < x := by assumption
      refine no ?_ _
      rw [isGo, Bool.eq_false_iff.mpr (fun q => absurd (inN_lo (k := 99) (by omega) q).2 (Int32.not_le.mpr y)), Bool.false_and]
    · have y1 : ¬ nI 99 < x := by assumption
      have hx : inN 100 x = true := inN_hi (k := 99) (by omega) y0 (Int32.not_lt.mp y1)
      refine e_aload_n rfl rfl ?_
      refine e_getP rfl f9_41 (by assumption) rfl (by assumption) ?_
      refine e_getI rfl f9_206 (by assumption) rfl ?_
      refine e_iload_n rfl rfl ?_
      rw [e8]
      refine e_iadd rfl ?_
      refine e_sipush (v := nI 9900) rfl sp_9900N ?_
      first | refine e_icmp_leN (tgt := 27) rfl rfl (by omega) (by omega) (fun z => ?_) (fun z => ?_) | refine e_icmp_le (tgt := 27) rfl rfl (fun z => ?_) (fun z => ?_)
      · have y2 : S 8 0 + x ≤ nI 9900 := by assumption
        have yes : isGo S x = true := by rw [isGo, hx, Bool.true_and, decide_eq_true y2]
        obtain ⟨j, hj, rfl⟩ := inN_of (by omega) hx
        rw [a_go, if_pos yes, if_pos yes, nI_clamp (by omega)]
        refine e_aload_n rfl rfl ?_
        refine e_getP rfl f9_34 (by assumption) rfl (by assumption) ?_
        refine e_callV (kd := 0) (M2 := m0_byNumbers) rfl v9_209 ok0_byNumbers (c0_byNumbers h0) rfl (by assumption) rfl rfl rfl rfl (fun r1 h1 q1 => ?_)
        obtain ⟨rfl, rfl⟩ := q1
        refine e_iconst (v := nI 0) rfl ic_0N ?_
        refine e_ist2 rfl rfl rfl ?_
        refine go_loop hG hW hn (by omega) j 0 _ _ S (by omega) (hR.frame (fun c a b => by rw [u2_row _ _ (by omega), u2_row _ _ (by omega)])) (hC.frame (fun c a b => by rw [u2_row _ _ (by omega), u2_row _ _ (by omega)]) rfl) (by rw [u2_nk _ _ (by omega), u2_at]; rfl) (by rw [u2_at]) (fun I1 J1 f1 C1 => ?_)
        have e81 : I1 62 8 = itS (pa0 P true n) j S 8 0 := C1.2.2.2.2.2.1.1
        have r1 : ∀ c, c ≠ 60 → c ≠ 61 → (c < 62 ∨ 69 < c) → I1 c = I c := fun c b1 b2 b3 => by rw [f1.1 c (by omega) (by omega), u2_row _ _ (by omega), u2_row _ _ (by omega)]
        have H1' : HC I1 62 n B := hHC.frame (by rw [f1.2.2.1, u2_row _ _ (by omega), u2_row _ _ (by omega)]) (by rw [f1.2.2.2, u2_row _ _ (by omega), u2_row _ _ (by omega)])
        refine e_iload_n rfl rfl ?_
        first | refine e_if_leN (tgt := 69) rfl rfl (by omega) (fun z => ?_) (fun z => ?_) | refine e_if_le (tgt := 69) rfl rfl (fun z => ?_) (fun z => ?_)
        · have y : j = 0 := by assumption
          subst y
          refine e_aload_n rfl rfl ?_
          refine e_getP rfl f9_41 (by assumption) rfl (by assumption) ?_
          refine e_getI rfl f9_206 (by assumption) rfl ?_
          rw [e81]
          refine e_ireturn rfl rfl ?_
          have hfn : FN I J I1 J1 := ⟨fun c b1 b2 b3 b4 => r1 c b1 b2 b3, fun c b1 b2 => f1.2.1 c (by omega) (by omega)⟩
          refine ⟨rfl, _, _, rfl, hfn.fx, ?_⟩
          rw [if_neg (fun q => q.2 rfl)]
          refine hI.now hfn (by omega) (by rw [hn]; exact C1) (by rw [hn]; exact H1'.mono (by omega)) ?_
          rw [hn]
          refine ⟨U, hRU.frame (fun c a b => r1 c (by omega) (by omega) (by omega)), hUB.sm (by have := hC.2.1; omega) ?_ (by omega) (Sm.ofRC hC C1 (fun t ht => ?_))⟩
          · rw [C1.2.2.2.2.2.2, hC.2.2.2.2.2.2]; rfl
          · rw [f1.2.2.2, u2_ne _ _ (by omega), u2_ne _ _ (by omega)]
        · have y : 0 < j := by assumption
          refine e_aload_n rfl rfl ?_
          refine e_getP rfl f9_61 (by assumption) rfl (by assumption) ?_
          refine e_callV (kd := 7) (M2 := m7_clear) rfl v9_97 ok7_clear (c7_clear hU9) rfl (by assumption) rfl rfl rfl rfl (fun r1 h1 q1 => ?_)
          obtain ⟨rfl, rfl⟩ := q1
          refine e_aload_n rfl rfl ?_
          refine e_getP rfl f9_41 (by assumption) rfl (by assumption) ?_
          refine e_getI rfl f9_206 (by assumption) rfl ?_
          rw [u2_ne _ _ (by omega), e81]
          refine e_ireturn rfl rfl ?_
          have hfn : FN I J (u2 I1 (93 + 1) 2 (nI 0)) J1 := ⟨fun c b1 b2 b3 b4 => by rw [u2_row _ _ (by omega), r1 c b1 b2 b3], fun c b1 b2 => f1.2.1 c (by omega) (by omega)⟩
          refine ⟨rfl, _, _, rfl, hfn.fx, ?_⟩
          rw [if_pos ⟨yes, ne42 (by omega) (by omega) (by omega)⟩]
          refine hI.now hfn (by omega) (by rw [hn]; exact C1.frame (fun c a b => u2_row _ _ (by omega)) rfl) (by rw [hn]; exact (H1'.frame (u2_row _ _ (by omega)) (u2_row _ _ (by omega))).mono (by omega)) ?_
          refine ⟨U, ⟨?_, ?_, by omega, fun j hj i hi => absurd hi (by omega)⟩, trivial⟩
          · rw [u2_nk _ _ (by omega), r1 _ (by omega) (by omega) (by omega)]; exact hRU.1
          · rw [u2_at]
      · exact no (by rw [isGo, decide_eq_false (by assumption), Bool.and_false]) _
theorem ahead_loop (hG : GK K) (hW : wfP P) (hn : P.1 1 = n) {w : Int32} {N : Nat} (hN : N ≤ 99) : ∀ k i I J S, i + k = N → RP I 33 P → RC I J 70 n S → I 60 2 = bI false → I 60 3 = nI 0 → (∀ I' J', FQ I J I' J' → RC I' J' 70 n (itS (pa0 P false n) k S) → Gw l G (d + 6) m9_ahead 65 [.ref 0, .int (nI N), .int w, .int (nI N)] [] (I', J', K) Q) → Gw l G (d + 6) m9_ahead 43 [.ref 0, .int (nI N), .int w, .int (nI i)] [] (I, J, K) Q := by
  have hG2 := hG
  obtain ⟨⟨k9, t0, t2, t3, t4, t5, t6, t7, t9, t10, t11, t12⟩, -, -, -, hP, hD, -, hS, -⟩ := hG2
  have h0 := hD.1
  intro k
  induction k with
  | zero =>
    intro i I J S hi hR hC d2 d3 kk
    obtain rfl : i = N := by omega
    refine e_iload_n rfl rfl ?_
    refine e_iload_n rfl rfl ?_
    first | refine e_icmp_geN (tgt := 65) rfl rfl (by omega) (by omega) (fun z => ?_) (fun z => ?_) | refine e_icmp_ge (tgt := 65) rfl rfl (fun z => ?_) (fun z => ?_)
    · exact kk I J FQ.rf hC
    · omega
  | succ k ih =>
    intro i I J S hi hR hC d2 d3 kk
    refine e_iload_n rfl rfl ?_
    refine e_iload_n rfl rfl ?_
    first | refine e_icmp_geN (tgt := 65) rfl rfl (by omega) (by omega) (fun z => ?_) (fun z => ?_) | refine e_icmp_ge (tgt := 65) rfl rfl (fun z => ?_) (fun z => ?_)
    · omega
    · refine e_aload_n rfl rfl ?_
      refine e_getP rfl f9_34 (by assumption) rfl (by assumption) ?_
      refine e_aload_n rfl rfl ?_
      refine e_getP rfl f9_45 (by assumption) rfl (by assumption) ?_
      refine e_callV (kd := 0) (M2 := m0_pass) rfl v9_212 ok0_pass (c0_pass hG.hd70 hR hW hC hn d2 d3 rfl) rfl (by assumption) rfl rfl rfl rfl (fun r1 h1 q1 => ?_)
      obtain ⟨rfl, I1, J1, rfl, f1, C1⟩ := q1
      first | refine e_inc3 rfl rfl rfl (incN1 _) ?_ | refine e_inc3 rfl rfl rfl rfl ?_
      refine e_goto (tgt := 43) rfl rfl ?_
      rw [pa_sp (sp' := nI 0) (by decide)] at C1
      have e60 := f1.c60 (by omega)
      refine ih (i + 1) I1 J1 _ (by omega) (f1.rp (by omega) (by omega) hR) C1 (by rw [e60]; exact d2) (by rw [e60]; exact d3) (fun I2 J2 f2 C2 => ?_)
      exact kk I2 J2 (f1.fq.tr f2) C2
def a_ahead (P : Pl) (n : Nat) (S : SM) (x w : Int32) : Int32 :=
  if inN 100 x = true ∧ inN 5 w = true then
    (let R := itS (pa0 P false n) x.toNatClampNeg S
     if w = nI 0 then R 10 0 - S 10 0 else if w = nI 1 then R 11 0 - S 11 0 else if w = nI 2 then R 12 0 - S 12 0 else if w = nI 3 then nI (cnt (fun t => decide (R 0 t = nI 3)) n) - nI (cnt (fun t => decide (S 0 t = nI 3)) n) else R 9 0)
  else -1
theorem c9_ahead (hG : GK K) (hI : CI I J P S im SI m T kn u Hs B) (hn : P.1 1 = n) (x w : Int32) : Cw l G (d + 6) m9_ahead [.ref 0, .int x, .int w] (I, J, K) (fun r h' => r = some (.int (a_ahead P n S x w)) ∧ Pst I J K h' P S im SI m T kn u Hs (B + 1)) := by
  have hG2 := hG
  obtain ⟨⟨k9, t0, t2, t3, t4, t5, t6, t7, t9, t10, t11, t12⟩, -, -, -, hP, hD, hS, hS7, -⟩ := hG2
  have hI2 := hI
  obtain ⟨hR, hW, hC, hHC, hIm, hImg, hRT, U, hRU, hUB⟩ := hI2
  rw [hn] at hC hHC hUB
  have h6 := hS.1
  have h67 := hS7.1
  have h0 := hD.1
  have no : ¬ (inN 100 x = true ∧ inN 5 w = true) → ∀ pc v, lk m9_ahead pc = some (.iconst (-1), pc + 1, 1) → lk m9_ahead (pc + 1) = some (.ireturn, pc + 2, 1) → Gw l G (d + 6) m9_ahead pc [.ref 0, .int x, .int w, v] [] (I, J, K) (fun r h' => r = some (.int (a_ahead P n S x w)) ∧ Pst I J K h' P S im SI m T kn u Hs (B + 1)) := by
    intro hno pc v l1 l2
    rw [a_ahead, if_neg hno]
    refine e_iconst l1 ic_m1 ?_
    exact e_ireturn l2 rfl ⟨rfl, I, J, rfl, FX.rf, hI.mono (by omega)⟩
  refine Cw.of ok9_ahead rfl (rfl : argL _ _ = [.ref 0, .int x, .int w, .null]) ?_
  refine e_iload_n rfl rfl ?_
  first | refine e_if_ltN (tgt := 10) rfl rfl (by omega) ?_ | refine e_if_lt (tgt := 10) rfl rfl (fun z => ?_) (fun z => ?_)
  · have y : x < 0 := by assumption
    exact no (fun q => (inN_lo (k := 99) (by omega) q.1).1 y) _ _ rfl rfl
  · have y0 : ¬ x < 0 := by assumption
    refine e_iload_n rfl rfl ?_
    refine e_bipush (v := nI 99) rfl bp_99N ?_
    first | refine e_icmp_leN (tgt := 12) rfl rfl (by omega) (by omega) (fun z => ?_) (fun z => ?_) | refine e_icmp_le (tgt := 12) rfl rfl (fun z => ?_) (fun z => ?_)
    · have y1 : x ≤ nI 99 := by assumption
      have hx : inN 100 x = true := inN_hi (k := 99) (by omega) y0 y1
      refine e_iload_n rfl rfl ?_
      first | refine e_if_ltN (tgt := 21) rfl rfl (by omega) ?_ | refine e_if_lt (tgt := 21) rfl rfl (fun z => ?_) (fun z => ?_)
      · have y : w < 0 := by assumption
        exact no (fun q => (inN_lo (k := 4) (by omega) q.2).1 y) _ _ rfl rfl
      · have y2 : ¬ w < 0 := by assumption
        refine e_iload_n rfl rfl ?_
        refine e_iconst (v := nI 4) rfl ic_4N ?_
        first | refine e_icmp_leN (tgt := 23) rfl rfl (by omega) (by omega) (fun z => ?_) (fun z => ?_) | refine e_icmp_le (tgt := 23) rfl rfl (fun z => ?_) (fun z => ?_)
        · have y3 : w ≤ nI 4 := by assumption
          have hw : inN 5 w = true := inN_hi (k := 4) (by omega) y2 y3
          obtain ⟨j, hj, rfl⟩ := inN_of (by omega) hx
          rw [a_ahead, if_pos ⟨hx, hw⟩, nI_clamp (by omega)]
          dsimp only
          refine e_aload_n rfl rfl ?_
          refine e_getP rfl f9_34 (by assumption) rfl (by assumption) ?_
          refine e_callV (kd := 0) (M2 := m0_asItGoes) rfl v9_216 ok0_asItGoes (c0_asItGoes h0) rfl (by assumption) rfl rfl rfl rfl (fun r1 h1 q1 => ?_)
          obtain ⟨rfl, rfl⟩ := q1
          refine e_aload_n rfl rfl ?_
          refine e_getP rfl f9_45 (by assumption) rfl (by assumption) ?_
          refine e_aload_n rfl rfl ?_
          refine e_getP rfl f9_41 (by assumption) rfl (by assumption) ?_
          refine e_callV (kd := 6) (M2 := m6_take) rfl v9_219 ok6_take (c6_take hS7 hS (by omega)) rfl (by assumption) rfl rfl rfl rfl (fun r1 h1 q1 => ?_)
          obtain ⟨rfl, I1, J1, rfl, tk⟩ := q1
          refine e_iconst (v := nI 0) rfl ic_0N ?_
          refine e_ist3 rfl rfl rfl ?_
          have q1 : FQ I J I1 J1 := ((FQ.rf.u60 _ _).u60 _ _).tr (FQ.took tk)
          have C1 : RC I1 J1 70 n S := took_rc tk (hC.frame (fun c a b => by rw [u2_row _ _ (by omega), u2_row _ _ (by omega)]) rfl)
          refine ahead_loop hG hW hn (by omega) j 0 _ _ S (by omega) (q1.rp hR) C1 (by rw [tk.1 60 (by omega), u2_nk _ _ (by omega), u2_at]; rfl) (by rw [tk.1 60 (by omega), u2_at]) (fun I2 J2 f2 C2 => ?_)
          have q2 := q1.tr f2
          have N2 := q2.now hC
          obtain ⟨e8, e9, e10, e11, e12, e13⟩ := N2.2.2.2.2.2.1
          obtain ⟨r8, r9, r10, r11, r12, r13⟩ := C2.2.2.2.2.2.1
          have fin : Pst I J K (I2, J2, K) P S im SI m T kn u Hs (B + 1) := ⟨I2, J2, rfl, q2.fx, (hI.frame q2).mono (by omega)⟩
          refine e_iload_n rfl rfl ?_
          refine sw9_ahead_66 (fun z => ?_) (fun z => ?_) (fun z => ?_) (fun z => ?_) (fun z0 z1 z2 z3 => ?_)
          · subst z
            refine e_aload_n rfl rfl ?_
            refine e_getP rfl f9_45 (by assumption) rfl (by assumption) ?_
            refine e_getI rfl f9_221 (by assumption) rfl ?_
            refine e_aload_n rfl rfl ?_
            refine e_getP rfl f9_41 (by assumption) rfl (by assumption) ?_
            refine e_getI rfl f9_221 (by assumption) rfl ?_
            rw [r10, e10]
            refine e_isub rfl ?_
            refine e_ireturn rfl rfl ⟨rfl, fin⟩
          · subst z
            refine e_aload_n rfl rfl ?_
            refine e_getP rfl f9_45 (by assumption) rfl (by assumption) ?_
            refine e_getI rfl f9_224 (by assumption) rfl ?_
            refine e_aload_n rfl rfl ?_
            refine e_getP rfl f9_41 (by assumption) rfl (by assumption) ?_
            refine e_getI rfl f9_224 (by assumption) rfl ?_
            rw [r11, e11]
            refine e_isub rfl ?_
            refine e_ireturn rfl rfl ⟨rfl, fin⟩
          · subst z
            refine e_aload_n rfl rfl ?_
            refine e_getP rfl f9_45 (by assumption) rfl (by assumption) ?_
            refine e_getI rfl f9_227 (by assumption) rfl ?_
            refine e_aload_n rfl rfl ?_
            refine e_getP rfl f9_41 (by assumption) rfl (by assumption) ?_
            refine e_getI rfl f9_227 (by assumption) rfl ?_
            rw [r12, e12]
            refine e_isub rfl ?_
            refine e_ireturn rfl rfl ⟨rfl, fin⟩
          · subst z
            refine e_aload_n rfl rfl ?_
            refine e_getP rfl f9_45 (by assumption) rfl (by assumption) ?_
            refine e_iconst (v := nI 3) rfl ic_3N ?_
            refine e_callVp (kd := 6) (M2 := m6_howMany) rfl v9_230 ok6_howMany (c6_howMany hS7 C2.1 C2.2.1 _) rfl (by assumption) rfl rfl rfl rfl ?_
            refine e_aload_n rfl rfl ?_
            refine e_getP rfl f9_41 (by assumption) rfl (by assumption) ?_
            refine e_iconst (v := nI 3) rfl ic_3N ?_
            refine e_callVp (kd := 6) (M2 := m6_howMany) rfl v9_230 ok6_howMany (c6_howMany hS N2.1 N2.2.1 _) rfl (by assumption) rfl rfl rfl rfl ?_
            rw [rc_many C2, rc_many N2]
            refine e_isub rfl ?_
            refine e_ireturn rfl rfl ⟨rfl, fin⟩
          · refine e_aload_n rfl rfl ?_
            refine e_getP rfl f9_45 (by assumption) rfl (by assumption) ?_
            refine e_getI rfl f9_186 (by assumption) rfl ?_
            rw [r9, if_neg z0, if_neg z1, if_neg z2, if_neg z3]
            refine e_ireturn rfl rfl ⟨rfl, fin⟩
        · exact no (fun q => absurd (inN_lo (k := 4) (by omega) q.2).2 (by assumption)) _ _ rfl rfl
    · exact no (fun q => absurd (inN_lo (k := 99) (by omega) q.1).2 (by assumption)) _ _ rfl rfl
end MRun
