/-! ===== the reference: serves, doesRust; the state in order ===== -/
/-- tins and keys in order -/
def W1 (n : Nat) (S : SM) : Prop := (∀ t, t < n → ∃ st de fr, st ≤ 3 ∧ de ≤ 10 ∧ fr ≤ 9 ∧ S 0 t = nI st ∧ S 1 t = nI de ∧ S 4 t = nI fr ∧ (st = 0 → fr = 0) ∧ (st = 1 → 1 ≤ fr)) ∧ ∃ k, k ≤ 99 ∧ S 9 0 = nI k
theorem W1.rows {n : Nat} {S S' : SM} (h : W1 n S) (h0 : S' 0 = S 0) (h1 : S' 1 = S 1) (h4 : S' 4 = S 4) (h9 : S' 9 = S 9) : W1 n S' := by
  unfold W1
  rw [h0, h1, h4, h9]
  exact h
theorem wn_rg {v : Int64} {a b c : Nat} (hab : a ≤ b) (hb : b < 2 ^ 31) (h1 : a ≤ c) (h2 : c ≤ b) : ∃ g, a ≤ g ∧ g ≤ b ∧ wn v (nI a) (nI b) (nI c) = nI g := by
  by_cases h : v = MINL
  · exact ⟨c, h1, h2, by rw [wn, if_pos h]⟩
  · exact wn_in h hab hb
theorem W1.uns {n : Nat} {P : Pl} {S : SM} (h : W1 n S) {t : Nat} (hk : 0 < S 9 0) : W1 n (unsS P S t) := by
  obtain ⟨h1, k, k1, k2⟩ := h
  obtain ⟨g, g1, g2, g3⟩ := wn_rg (v := lawP P 0 (nmS P S t 0)) (a := 1) (b := 9) (c := 3) (by omega) (by omega) (by omega) (by omega)
  have kp : 0 < k := by
    rw [k2] at hk
    exact (nI_ltI (by omega : 0 < 2 ^ 31) (by omega)).mp hk
  refine ⟨fun u hu => ?_, k - 1, by omega, ?_⟩
  · obtain ⟨st, de, fr, a, b, c, e0, e1, e4, f, g'⟩ := h1 u hu
    unfold unsS
    by_cases e : u = t
    · subst e
      refine ⟨1, de, g, by omega, b, g2, ?_, ?_, ?_, by omega, fun _ => g1⟩
      · simp (disch := omega) only [u2_ne, u2_at]
      · simp (disch := omega) only [u2_ne]; exact e1
      · rw [u2_at]; exact g3
    · refine ⟨st, de, fr, a, b, c, ?_, ?_, ?_, f, g'⟩
      · simp (disch := omega) only [u2_ne, u2_nk]; exact e0
      · simp (disch := omega) only [u2_ne]; exact e1
      · rw [u2_nk _ _ e, u2_ne _ _ (by omega), u2_ne _ _ (by omega)]; exact e4
  · unfold unsS
    simp (disch := omega) only [u2_ne, u2_at]
    rw [k2, pk_sub (by omega)]
theorem W1.uA {n : Nat} {P : Pl} {S : SM} (h : W1 n S) {t : Nat} : W1 n (unsA P S t) := by
  unfold unsA
  split
  · next c => exact h.uns c.2
  · exact h
theorem W1.ot {n : Nat} {P : Pl} {S : SM} {way sp : Int32} (h : W1 n S) (i : Nat) : W1 n (ot1 P way sp n S i) := by
  unfold ot1
  by_cases c : P.2 9 i = S 8 0 ∧ ¬ (way = nI 2 ∧ P.2 8 i = sp)
  · rw [if_pos c]
    by_cases c2 : 0 < S 9 0 ∧ (if way = nI 3 then decide (S 0 (P.2 8 i).toNatClampNeg = 0) else topS S n (P.2 8 i).toNatClampNeg) = true
    · rw [if_pos c2]; exact h.uns c2.1
    · rw [if_neg c2]
      exact h.rows (u2_row _ _ (by omega)) (u2_row _ _ (by omega)) (u2_row _ _ (by omega)) (u2_row _ _ (by omega))
  · rw [if_neg c]; exact h
theorem nI_m1 {j : Nat} (h : j < 2 ^ 31) : ¬ nI j = -1 := fun q => absurd (q ▸ nI_pos' h : (0 : Int32) ≤ -1) (by decide)
theorem W1.otS {n : Nat} {P : Pl} {way sp : Int32} : ∀ {k i : Nat} {S : SM}, W1 n S → W1 n (otS P way sp n i k S)
  | 0, _, _, h => h
  | k + 1, i, S, h => W1.otS (k := k) (i := i + 1) (h.ot i)
/-- a WANT of the day -/
def svI (P : Pl) (n : Nat) (busy : Int32) (S : SM) (w : Nat) : Int32 × SM :=
  if srv P S (P.2 10 w) busy 0 n = -1 then (busy, u2 (u2 S 6 w (nI 2)) 12 0 (S 12 0 + nI 1))
    else (busy ||| nI 1 <<< (srv P S (P.2 10 w) busy 0 n &&& 31), u2 (u2 (u2 (u2 S 6 w (nI 1)) 11 0 (S 11 0 + nI 1)) 5 (srv P S (P.2 10 w) busy 0 n).toNatClampNeg (S 5 (srv P S (P.2 10 w) busy 0 n).toNatClampNeg + nI 1)) 10 0 (S 10 0 + wn (lawP P 1 (nmS P S (srv P S (P.2 10 w) busy 0 n).toNatClampNeg (P.2 12 w))) (nI 0) (nI 999) (P.2 12 w)))
theorem sv1_I (P : Pl) (n : Nat) (busy : Int32) (S : SM) (w : Nat) : sv1 P n busy S w = if P.2 11 w = S 8 0 then svI P n busy S w else (busy, S) := rfl
theorem W1.svIh {n : Nat} {P : Pl} {S : SM} (h : W1 n S) (busy : Int32) (w : Nat) : W1 n (svI P n busy S w).2 := by
  unfold svI
  split
  · refine h.rows ?_ ?_ ?_ ?_ <;> (dsimp only; simp (disch := omega) only [u2_row])
  · refine h.rows ?_ ?_ ?_ ?_ <;> (dsimp only; simp (disch := omega) only [u2_row])
theorem W1.svSh {n : Nat} {P : Pl} : ∀ {k w : Nat} {b : Int32} {S : SM}, W1 n S → W1 n (svS P n w k b S)
  | 0, _, _, _, h => h
  | k + 1, w, b, S, h => by
    rw [svS]
    refine W1.svSh (k := k) ?_
    rw [sv1_I]
    split
    · exact h.svIh b w
    · exact h
theorem and1 (x : Int32) : x &&& nI 1 = 0 ∨ x &&& nI 1 = nI 1 := by
  by_cases h : x &&& nI 1 = 0
  · exact Or.inl h
  · right
    have e : (x &&& nI 1).toBitVec = x.toBitVec &&& 1#32 := by rw [Int32.toBitVec_and]; rfl
    have e1 : (x.toBitVec &&& 1#32).toNat = x.toBitVec.toNat % 2 := by
      rw [BitVec.toNat_and]
      show x.toBitVec.toNat &&& 1 = _
      exact Nat.and_one_is_mod _
    rw [← Int32.toBitVec_inj, e]
    have h2 : ¬ x.toBitVec.toNat % 2 = 0 := fun q => h (by
      rw [← Int32.toBitVec_inj, e]
      apply BitVec.eq_of_toNat_eq
      rw [e1, q]
      rfl)
    apply BitVec.eq_of_toNat_eq
    rw [e1]
    show _ = 1
    omega
theorem bit_1 (b : Int32) (t : Nat) : (b >>> (nI t &&& 31)) &&& nI 1 = nI 1 ↔ bitOf b (nI t) = true := by
  unfold bitOf
  rw [decide_eq_true_eq]
  constructor
  · intro q r
    rw [q] at r
    exact absurd r (by decide)
  · intro q
    exact (and1 _).resolve_left q
theorem nx_eq (s : Int32) : nx32 s = (s * 1103515245 + nI 12345) &&& 2147483647 := by
  unfold nx32 nxt
  rw [Int64.toInt32_and, Int64.toInt32_add, Int64.toInt32_mul, Int32.toInt32_toInt64]
  rfl
theorem nx_k (z : Int64) : ∃ k, k < 2 ^ 31 ∧ nxt z = lN k := by
  refine ⟨(nxt z).toBitVec.toNat, ?_, ?_⟩
  · have e : (nxt z).toBitVec = (z * 1103515245 + 12345).toBitVec &&& 2147483647#64 := by
      unfold nxt
      rw [Int64.toBitVec_and]
      rfl
    rw [e, BitVec.toNat_and]
    have := Nat.and_le_right (n := (z * 1103515245 + 12345).toBitVec.toNat) (m := (2147483647#64).toNat)
    have e2 : (2147483647#64).toNat = 2147483647 := rfl
    omega
  · rw [← Int64.toBitVec_inj]
    show _ = BitVec.ofNat 64 _
    rw [BitVec.ofNat_toNat]
    simp
theorem nx_draw (s : Int32) : (nxt s.toInt64 / 65536).toInt32 = nx32 s >>> (nI 16 &&& 31) := by
  obtain ⟨k, hk, e⟩ := nx_k s.toInt64
  unfold nx32
  rw [e, lN_i, show (65536 : Int64) = lN 65536 by decide, pk_lDiv (by omega) (by omega) (by omega), lN_i, pk_shrN hk _ 16 (sh_l 16 (by omega))]
section MServe
variable {l : Launch} {G : GG} {d : Nat} {I : IM} {J : JM} {K : Kt} {Q : Option Value → Hp → Prop} {P : Pl} {f n B : Nat} {S : SM}
theorem serves_loop (hM : MK K) (hP : MP I P) (hX : wfX P) (hn : P.1 1 = n) (hR : RM I f n S B) (hf : f < 23) {w : Nat} (hw : w < P.1 3) {busy : Int32} : ∀ k t, t + k = n → (srv P S (P.2 10 w) busy t k = -1 → ∀ v5, Gw l G (d + 4) m10_serves 136 [.ref 102, .int (nI f), .int (nI w), .int busy, .int (nI n), v5] [] (I, J, K) Q) → (∀ u, u < n → srv P S (P.2 10 w) busy t k = nI u → Gw l G (d + 4) m10_serves 63 [.ref 102, .int (nI f), .int (nI w), .int busy, .int (nI u), .int (nI (8 * f + u))] [] (I, J, K) Q) → ∀ v5, Gw l G (d + 4) m10_serves 3 [.ref 102, .int (nI f), .int (nI w), .int busy, .int (nI t), v5] [] (I, J, K) Q := by
  have h8 := hX.1.1.2.1
  have hw8 := hX.1.1.2.2.2
  have hn1 : I 104 1 = nI n := by rw [← hn]; exact hP.1.2.1
  have ew := (hP.2.2.2.2.1 w hw).1
  intro k
  induction k with
  | zero =>
    intro t ht h1 h2 v5
    obtain rfl : t = n := by omega
    refine e_iload rfl rfl ?_
    refine e_aload_n rfl rfl ?_
    refine e_getP rfl f10_13 hM.k rfl hM.p3 ?_
    refine e_iconst (v := nI 1) rfl ic_1N ?_
    first | refine e_ialoadN rfl hM.a3 (by omega) (by omega) ?_ | (refine e_iaload rfl hM.a3 ?_ ?_; rotate_left)
    rw [hn1]
    first | refine e_icmp_geN (tgt := 136) rfl rfl (by omega) (by omega) (fun z => ?_) (fun z => ?_) | refine e_icmp_ge (tgt := 136) rfl rfl (fun z => ?_) (fun z => ?_)
    · exact h1 rfl _
    · omega
  | succ k ih =>
    intro t ht h1 h2 v5
    have e0 := (hR.1 t (by omega)).1
    have e4 := (hP.2.2.1 t (by omega)).2.1
    rw [srv] at h1 h2
    have no : ¬ (S 0 t = nI 1 ∧ P.2 4 t = P.2 10 w ∧ bitOf busy (nI t) = false) → ∀ v5, Gw l G (d + 4) m10_serves 130 [.ref 102, .int (nI f), .int (nI w), .int busy, .int (nI t), v5] [] (I, J, K) Q := by
      intro hno v5
      rw [if_neg hno] at h1 h2
      first | refine e_inc4 rfl rfl rfl (incN1 _) ?_ | refine e_inc4 rfl rfl rfl rfl ?_
      refine e_goto (tgt := 3) rfl rfl ?_
      exact ih (t + 1) (by omega) h1 h2 _
    refine e_iload rfl rfl ?_
    refine e_aload_n rfl rfl ?_
    refine e_getP rfl f10_13 hM.k rfl hM.p3 ?_
    refine e_iconst (v := nI 1) rfl ic_1N ?_
    first | refine e_ialoadN rfl hM.a3 (by omega) (by omega) ?_ | (refine e_iaload rfl hM.a3 ?_ ?_; rotate_left)
    rw [hn1]
    first | refine e_icmp_geN (tgt := 136) rfl rfl (by omega) (by omega) (fun z => ?_) (fun z => ?_) | refine e_icmp_ge (tgt := 136) rfl rfl (fun z => ?_) (fun z => ?_)
    · omega
    · refine e_bipush (v := nI 8) rfl bp_8N ?_
      refine e_iload_n rfl rfl ?_
      first | refine e_imulN rfl ?_ | refine e_imul rfl ?_
      refine e_iload rfl rfl ?_
      first | refine e_iaddN rfl ?_ | refine e_iadd rfl ?_
      refine e_ist5 rfl rfl rfl ?_
      refine e_aload_n rfl rfl ?_
      refine e_getP rfl f10_105 hM.k rfl hM.p46 ?_
      refine e_iload rfl rfl ?_
      first | refine e_ialoadN rfl hM.a46 (by omega) (by omega) ?_ | (refine e_iaload rfl hM.a46 ?_ ?_; rotate_left)
      rw [e0]
      refine e_iconst (v := nI 1) rfl ic_1N ?_
      refine e_icmp_ne (tgt := 130) rfl rfl (fun z => ?_) (fun z => ?_)
      · exact no (fun q => z q.1) _
      · refine e_aload_n rfl rfl ?_
        refine e_getP rfl f10_28 hM.k rfl hM.p8 ?_
        refine e_iload rfl rfl ?_
        first | refine e_ialoadN rfl hM.a8 (by omega) (by omega) ?_ | (refine e_iaload rfl hM.a8 ?_ ?_; rotate_left)
        rw [e4]
        refine e_aload_n rfl rfl ?_
        refine e_getP rfl f10_46 hM.k rfl hM.p14 ?_
        refine e_iload_n rfl rfl ?_
        first | refine e_ialoadN rfl hM.a14 (by omega) (by omega) ?_ | (refine e_iaload rfl hM.a14 ?_ ?_; rotate_left)
        rw [ew]
        refine e_icmp_ne (tgt := 130) rfl rfl (fun y => ?_) (fun y => ?_)
        · exact no (fun q => y q.2.1) _
        · refine e_iload_n rfl rfl ?_
          refine e_iload rfl rfl ?_
          refine e_ishr rfl ?_
          refine e_iconst (v := nI 1) rfl ic_1N ?_
          refine e_iand rfl ?_
          refine e_iconst (v := nI 1) rfl ic_1N ?_
          refine e_icmp_ne (tgt := 63) rfl rfl (fun x => ?_) (fun x => ?_)
          · have b0 : bitOf busy (nI t) = false := Bool.eq_false_iff.mpr (fun q => x ((bit_1 _ _).mpr q))
            rw [if_pos ⟨z, y, b0⟩] at h1 h2
            exact h2 t (by omega) rfl
          · refine e_goto (tgt := 130) rfl rfl ?_
            exact no (fun q => absurd q.2.2 (by rw [(bit_1 _ _).mp x]; decide)) _
theorem c10_serves (hM : MK K) (hP : MP I P) (hX : wfX P) (hn : P.1 1 = n) (hR : RM I f n S B) (hf : f < 23) {w : Nat} (hw : w < P.1 3) (busy : Int32) : Cw l G (d + 4) m10_serves [.ref 102, .int (nI f), .int (nI w), .int busy] (I, J, K) (fun r h' => r = some (.int (svI P n busy S w).1) ∧ ∃ I' J', h' = (I', J', K) ∧ FM f I J I' J' ∧ RM I' f n (svI P n busy S w).2 B) := by
  have h8 := hX.1.1.2.1
  have hw8 := hX.1.1.2.2.2
  have ewo := (hP.2.2.2.2.1 w hw).2.2
  have e10 := hR.2.2.1.2.2.1
  refine Cw.of ok10_serves rfl (rfl : argL _ _ = [.ref 102, .int (nI f), .int (nI w), .int busy, .null, .null]) ?_
  refine e_iconst (v := nI 0) rfl ic_0N ?_
  refine e_ist4 rfl rfl rfl ?_
  refine serves_loop hM hP hX hn hR hf hw n 0 (by omega) (fun hs v5 => ?_) (fun u hu hs => ?_) _
  · refine e_aload_n rfl rfl ?_
    refine e_getP rfl f10_114 hM.k rfl hM.p49 ?_
    refine e_bipush (v := nI 8) rfl bp_8N ?_
    refine e_iload_n rfl rfl ?_
    first | refine e_imulN rfl ?_ | refine e_imul rfl ?_
    refine e_iload_n rfl rfl ?_
    first | refine e_iaddN rfl ?_ | refine e_iadd rfl ?_
    refine e_iconst (v := nI 2) rfl ic_2N ?_
    first | refine e_iastoreN rfl hM.a49 (by omega) (by omega) ?_ | (refine e_iastore rfl hM.a49 ?_ ?_; rotate_left)
    refine e_iload_n rfl rfl ?_
    refine e_ireturn rfl rfl ?_
    unfold svI
    rw [if_pos hs]
    exact ⟨rfl, _, J, rfl, FM.w (on8 (by omega) (by omega) (by omega)), (hR.w6 (by omega) _).w12 _⟩
  · have hs1 : ¬ srv P S (P.2 10 w) busy 0 n = -1 := by rw [hs]; exact nI_m1 (by omega)
    have e5 := (hR.1 u hu).2.2.2.2
    refine e_aload_n rfl rfl ?_
    refine e_iload_n rfl rfl ?_
    refine e_iload rfl rfl ?_
    refine e_aload_n rfl rfl ?_
    refine e_getP rfl f10_52 hM.k rfl hM.p16 ?_
    refine e_iload_n rfl rfl ?_
    first | refine e_ialoadN rfl hM.a16 (by omega) (by omega) ?_ | (refine e_iaload rfl hM.a16 ?_ ?_; rotate_left)
    rw [ewo]
    refine e_callV (kd := 10) (M2 := m10_calls) rfl v10_353 ok10_calls (c10_calls (d := d + 3) hM hP hX hn hR hf hu (P.2 12 w)) rfl hM.k rfl rfl rfl rfl (fun r1 h1 q1 => ?_)
    obtain ⟨rfl, J1, rfl, j1, n1⟩ := q1
    refine e_aload_n rfl rfl ?_
    refine e_getP rfl f10_87 hM.k rfl hM.p40 ?_
    refine e_iload_n rfl rfl ?_
    refine e_dup2 rfl rfl rfl ?_
    first | refine e_ialoadN rfl hM.a40 (by omega) (by omega) ?_ | (refine e_iaload rfl hM.a40 ?_ ?_; rotate_left)
    rw [e10]
    refine e_aload_n rfl rfl ?_
    refine e_iconst (v := nI 1) rfl ic_1N ?_
    refine e_iconst (v := nI 0) rfl ic_0N ?_
    refine e_sipush (v := nI 999) rfl sp_999N ?_
    refine e_aload_n rfl rfl ?_
    refine e_getP rfl f10_52 hM.k rfl hM.p16 ?_
    refine e_iload_n rfl rfl ?_
    first | refine e_ialoadN rfl hM.a16 (by omega) (by omega) ?_ | (refine e_iaload rfl hM.a16 ?_ ?_; rotate_left)
    rw [ewo]
    refine e_callV (kd := 10) (M2 := m10_within) rfl v10_357 ok10_within (c10_within (d := d) (w := 1) hM hP hX (by omega) n1 (nI 0) (nI 999) (P.2 12 w)) rfl hM.k rfl rfl rfl rfl (fun r1 h1 q1 => ?_)
    obtain ⟨rfl, I2, J2, rfl, g2⟩ := q1
    refine e_iadd rfl ?_
    first | refine e_iastoreN rfl hM.a40 (by omega) (by omega) ?_ | (refine e_iastore rfl hM.a40 ?_ ?_; rotate_left)
    refine e_aload_n rfl rfl ?_
    refine e_getP rfl f10_111 hM.k rfl hM.p48 ?_
    refine e_iload rfl rfl ?_
    refine e_dup2 rfl rfl rfl ?_
    first | refine e_ialoadN rfl hM.a48 (by omega) (by omega) ?_ | (refine e_iaload rfl hM.a48 ?_ ?_; rotate_left)
    have ei : u2 I2 127 f (S 10 0 + wn (lawP P 1 (nmS P S u (P.2 12 w))) (nI 0) (nI 999) (P.2 12 w)) 135 (8 * f + u) = S 5 u := by rw [u2_ne _ _ (by omega), g2.1 _ _ (by omega)]; exact e5
    rw [ei]
    refine e_iconst (v := nI 1) rfl ic_1N ?_
    refine e_iadd rfl ?_
    first | refine e_iastoreN rfl hM.a48 (by omega) (by omega) ?_ | (refine e_iastore rfl hM.a48 ?_ ?_; rotate_left)
    refine e_aload_n rfl rfl ?_
    refine e_getP rfl f10_114 hM.k rfl hM.p49 ?_
    refine e_bipush (v := nI 8) rfl bp_8N ?_
    refine e_iload_n rfl rfl ?_
    first | refine e_imulN rfl ?_ | refine e_imul rfl ?_
    refine e_iload_n rfl rfl ?_
    first | refine e_iaddN rfl ?_ | refine e_iadd rfl ?_
    refine e_iconst (v := nI 1) rfl ic_1N ?_
    first | refine e_iastoreN rfl hM.a49 (by omega) (by omega) ?_ | (refine e_iastore rfl hM.a49 ?_ ?_; rotate_left)
    refine e_iload_n rfl rfl ?_
    refine e_iconst (v := nI 1) rfl ic_1N ?_
    refine e_iload rfl rfl ?_
    refine e_ishl rfl ?_
    refine e_ior rfl ?_
    refine e_ireturn rfl rfl ?_
    unfold svI
    rw [if_neg hs1, hs, nI_clamp (by omega)]
    have R2 := hR.fw (by omega) g2
    have f1 : FM f I J I J1 := ⟨fun _ _ _ _ => rfl, fun c a _ => j1 c a⟩
    refine ⟨rfl, _, J2, rfl, (f1.tr g2.fm).tr (((FM.w (on1 (by omega) (by omega))).tr (FM.w (on8 (by omega) (by omega) (by omega)))).tr (FM.w (on8 (by omega) (by omega) (by omega)))), ?_⟩
    have R3 := (((R2.w10 (S 10 0 + wn (lawP P 1 (nmS P S u (P.2 12 w))) (nI 0) (nI 999) (P.2 12 w))).w5 (t := u) (by omega) (S 5 u + nI 1)).w6 (w := w) (by omega) (nI 1)).w11 (S 11 0 + nI 1)
    have eS : u2 (u2 (u2 (u2 S 6 w (nI 1)) 11 0 (S 11 0 + nI 1)) 5 u (S 5 u + nI 1)) 10 0 (S 10 0 + wn (lawP P 1 (nmS P S u (P.2 12 w))) (nI 0) (nI 999) (P.2 12 w)) = u2 (u2 (u2 (u2 S 10 0 (S 10 0 + wn (lawP P 1 (nmS P S u (P.2 12 w))) (nI 0) (nI 999) (P.2 12 w))) 5 u (S 5 u + nI 1)) 6 w (nI 1)) 11 0 (S 11 0 + nI 1) := by
      generalize S 10 0 + wn (lawP P 1 (nmS P S u (P.2 12 w))) (nI 0) (nI 999) (P.2 12 w) = g
      generalize S 5 u + nI 1 = b
      generalize S 11 0 + nI 1 = c
      rw [u2_comm (u2 (u2 S 6 w (nI 1)) 11 0 c) b g (by omega), u2_comm (u2 S 6 w (nI 1)) c g (by omega), u2_comm S (nI 1) g (by omega), u2_comm (u2 (u2 S 10 0 g) 6 w (nI 1)) c b (by omega), u2_comm (u2 S 10 0 g) (nI 1) b (by omega)]
    rw [eS]
    exact R3
theorem c10_doesRust (hM : MK K) (hP : MP I P) (hX : wfX P) (hn : P.1 1 = n) (hR : RM I f n S B) (hf : f < 23) {t : Nat} (ht : t < n) (dr : Bool) : Cw l G (d + 4) m10_doesRust [.ref 102, .int (nI f), .int (nI t), .int (bI dr)] (I, J, K) (fun r h' => r = some (.int (bI (rsB dr S (odds P S t)).1)) ∧ ∃ I' J', h' = (I', J', K) ∧ FM f I J I' J' ∧ RM I' f n (rsB dr S (odds P S t)).2 B) := by
  have h8 := hX.1.1.2.1
  have e5 := hP.1.2.2.2.2.2.1
  have e14 := hR.2.2.1.2.2.2.2
  refine Cw.of ok10_doesRust rfl (rfl : argL _ _ = [.ref 102, .int (nI f), .int (nI t), .int (bI dr), .null]) ?_
  refine e_aload_n rfl rfl ?_
  refine e_iload_n rfl rfl ?_
  refine e_iload_n rfl rfl ?_
  refine e_iconst (v := nI 0) rfl ic_0N ?_
  refine e_callV (kd := 10) (M2 := m10_calls) rfl v10_353 ok10_calls (c10_calls (d := d + 3) hM hP hX hn hR hf ht 0) rfl hM.k rfl rfl rfl rfl (fun r1 h1 q1 => ?_)
  obtain ⟨rfl, J1, rfl, j1, n1⟩ := q1
  refine e_aload_n rfl rfl ?_
  refine e_iconst (v := nI 2) rfl ic_2N ?_
  refine e_iconst (v := nI 0) rfl ic_0N ?_
  refine e_bipush (v := nI 100) rfl bp_100N ?_
  refine e_aload_n rfl rfl ?_
  refine e_getP rfl f10_13 hM.k rfl hM.p3 ?_
  refine e_iconst (v := nI 5) rfl ic_5N ?_
  first | refine e_ialoadN rfl hM.a3 (by omega) (by omega) ?_ | (refine e_iaload rfl hM.a3 ?_ ?_; rotate_left)
  rw [e5]
  refine e_callV (kd := 10) (M2 := m10_within) rfl v10_357 ok10_within (c10_within (d := d) (w := 2) hM hP hX (by omega) n1 (nI 0) (nI 100) (P.2 20 1)) rfl hM.k rfl rfl rfl rfl (fun r1 h1 q1 => ?_)
  obtain ⟨rfl, I2, J2, rfl, g2⟩ := q1
  have f2 : FM f I J I2 J2 := FM.tr (I1 := I) (J1 := J1) ⟨fun _ _ _ _ => rfl, fun c a _ => j1 c a⟩ g2.fm
  have R2 := hR.fw (by omega) g2
  show Gw l G (d + 4) m10_doesRust 21 [.ref 102, .int (nI f), .int (nI t), .int (bI dr), .null] [.int (odds P S t)] (I2, J2, K) _
  generalize odds P S t = o
  have plain : (dr = false ∨ o = 0 ∨ o = nI 100) → Gw l G (d + 4) m10_doesRust 39 [.ref 102, .int (nI f), .int (nI t), .int (bI dr), .int o] [] (I2, J2, K) (fun r h' => r = some (.int (bI (rsB dr S o).1)) ∧ ∃ I' J', h' = (I', J', K) ∧ FM f I J I' J' ∧ RM I' f n (rsB dr S o).2 B) := by
    intro hd
    have er : rsB dr S o = (decide (nI 50 ≤ o), S) := by
      unfold rsB
      by_cases c : dr = false
      · rw [if_pos c]
      · rw [if_neg c, if_pos (hd.resolve_left c)]
        rcases hd.resolve_left c with rfl | rfl
        · rfl
        · rfl
    rw [er]
    refine e_iload rfl rfl ?_
    refine e_bipush (v := nI 50) rfl bp_50N ?_
    refine e_icmp_lt (tgt := 50) rfl rfl (fun z => ?_) (fun z => ?_)
    · refine e_iconst (v := nI 0) rfl ic_0N ?_
      refine e_zreturn rfl rfl ?_ ?_
      · exact Or.inl rfl
      · rw [decide_eq_false (Int32.not_le.mpr z)]
        exact ⟨rfl, I2, J2, rfl, f2, R2⟩
    · refine e_iconst (v := nI 1) rfl ic_1N ?_
      refine e_goto (tgt := 51) rfl rfl ?_
      refine e_zreturn rfl rfl ?_ ?_
      · exact Or.inr rfl
      · rw [decide_eq_true (Int32.not_lt.mp z)]
        exact ⟨rfl, I2, J2, rfl, f2, R2⟩
  refine e_ist4 rfl rfl rfl ?_
  refine e_iload_n rfl rfl ?_
  refine e_if_eqB (tgt := 39) rfl rfl (fun z => ?_) (fun z => ?_)
  · exact plain (Or.inl z)
  · refine e_iload rfl rfl ?_
    refine e_if_eq (tgt := 39) rfl rfl (fun y => ?_) (fun y => ?_)
    · exact plain (Or.inr (Or.inl y))
    · refine e_iload rfl rfl ?_
      refine e_bipush (v := nI 100) rfl bp_100N ?_
      refine e_icmp_ne (tgt := 52) rfl rfl (fun x => ?_) (fun x => ?_)
      · have er : rsB dr S o = (decide (nx32 (S 14 0) >>> (nI 16 &&& 31) - nx32 (S 14 0) >>> (nI 16 &&& 31) / nI 100 * nI 100 < o), u2 S 14 0 (nx32 (S 14 0))) := by
          unfold rsB
          rw [if_neg (by rw [z]; decide), if_neg (fun q => q.elim y x), nx_draw]
        rw [er]
        refine e_aload_n rfl rfl ?_
        refine e_getP rfl f10_81 hM.k rfl hM.p38 ?_
        refine e_iload_n rfl rfl ?_
        refine e_aload_n rfl rfl ?_
        refine e_getP rfl f10_81 hM.k rfl hM.p38 ?_
        refine e_iload_n rfl rfl ?_
        first | refine e_ialoadN rfl hM.a38 (by omega) (by omega) ?_ | (refine e_iaload rfl hM.a38 ?_ ?_; rotate_left)
        rw [g2.1 _ _ (by omega), e14]
        refine e_ldcw rfl k10_370 ?_
        refine e_imul rfl ?_
        refine e_sipush (v := nI 12345) rfl sp_12345N ?_
        refine e_iadd rfl ?_
        refine e_ldcw rfl k10_373 ?_
        refine e_iand rfl ?_
        rw [← nx_eq]
        first | refine e_iastoreN rfl hM.a38 (by omega) (by omega) ?_ | (refine e_iastore rfl hM.a38 ?_ ?_; rotate_left)
        refine e_aload_n rfl rfl ?_
        refine e_getP rfl f10_81 hM.k rfl hM.p38 ?_
        refine e_iload_n rfl rfl ?_
        first | refine e_ialoadN rfl hM.a38 (by omega) (by omega) ?_ | (refine e_iaload rfl hM.a38 ?_ ?_; rotate_left)
        rw [u2_at]
        refine e_bipush (v := nI 16) rfl bp_16N ?_
        refine e_ishr rfl ?_
        refine e_bipush (v := nI 100) rfl bp_100N ?_
        refine e_irem rfl (by first | assumption | decide) ?_
        refine e_iload rfl rfl ?_
        refine e_icmp_ge (tgt := 97) rfl rfl (fun v => ?_) (fun v => ?_)
        · refine e_iconst (v := nI 0) rfl ic_0N ?_
          refine e_zreturn rfl rfl ?_ ?_
          · exact Or.inl rfl
          · rw [decide_eq_false (Int32.not_lt.mpr v)]
            exact ⟨rfl, _, J2, rfl, f2.tr (FM.w (on1 (by omega) (by omega))), R2.w14 _⟩
        · refine e_iconst (v := nI 1) rfl ic_1N ?_
          refine e_goto (tgt := 98) rfl rfl ?_
          refine e_zreturn rfl rfl ?_ ?_
          · exact Or.inr rfl
          · rw [decide_eq_true (Int32.not_le.mp v)]
            exact ⟨rfl, _, J2, rfl, f2.tr (FM.w (on1 (by omega) (by omega))), R2.w14 _⟩
      · exact plain (Or.inr (Or.inr x))
end MServe
