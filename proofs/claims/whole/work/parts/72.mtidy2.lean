/-! ===== the reference: tidy ===== -/
section MTidy
variable {l : Launch} {G : GG} {d : Nat} {I : IM} {J : JM} {K : Kt} {h : Hp} {Q : Option Value → Hp → Prop} {P : Pl} {S : SM} {im : Bool} {SI : SM} {m : Nat} {T : SM} {kn : Int32} {u : Nat} {Hs : Nat → SM} {B n : Nat}
theorem bit_t {q i : Nat} (hq : q < 256) (hi : i < 8) : (nI q >>> (nI i &&& 31)) &&& nI 1 = nI 1 ↔ q.testBit i = true := by
  rw [bit_1, bit_nat (by omega) (by omega)]
theorem ABx.of (hR : RM I 0 n S B) (x : Int32) : ABx S n x := by
  intro t ht o ho h1 h2
  unfold abS at h2
  unfold inS at h1 ⊢
  obtain ⟨a, b⟩ := (Bool.and_eq_true _ _).mp h2
  obtain ⟨-, c⟩ := (Bool.and_eq_true _ _).mp h1
  have e := hR.2.2.2.1 t ht o ho
  rw [e] at b
  have b2 : (I 131 (8 * 0 + o) = I 131 (8 * 0 + t) ∧ I 130 (8 * 0 + t) < I 130 (8 * 0 + o)) := of_decide_eq_true (bI_1.mp (of_decide_eq_true b))
  have e1 := (hR.1 o ho).2.2.1
  have e2 := (hR.1 t ht).2.2.1
  rw [a, Bool.true_and]
  refine decide_eq_true ?_
  rw [← e1, b2.1, e2]
  exact of_decide_eq_true c
theorem mlow_loop (hM : MK K) (hP : MP I P) (hn : P.1 1 = n) (h8 : n ≤ 8) {q : Nat} (hq : q < 256) {x : Int32} {v5 : Value} : ∀ k i v, i + k = n → (∀ v4, Gw l G (d + 1) m10_isTidy 45 [.ref 102, .int x, .int (nI q), .int (lwF P q k i v), v4, v5] [] (I, J, K) Q) → Gw l G (d + 1) m10_isTidy 6 [.ref 102, .int x, .int (nI q), .int v, .int (nI i), v5] [] (I, J, K) Q := by
  have e1 : I 104 1 = nI n := by rw [← hn]; exact hP.1.2.1
  intro k
  induction k with
  | zero =>
    intro i v hi kk
    refine e_iload rfl rfl ?_
    refine e_aload_n rfl rfl ?_
    refine e_getP rfl f10_13 hM.k rfl hM.p3 ?_
    refine e_iconst (v := nI 1) rfl ic_1N ?_
    first | refine e_ialoadN rfl hM.a3 (by omega) (by omega) ?_ | (refine e_iaload rfl hM.a3 ?_ ?_; rotate_left)
    rw [e1]
    first | refine e_icmp_geN (tgt := 45) rfl rfl (by omega) (by omega) (fun z => ?_) (fun z => ?_) | refine e_icmp_ge (tgt := 45) rfl rfl (fun z => ?_) (fun z => ?_)
    · exact kk _
    · omega
  | succ k ih =>
    intro i v hi kk
    have ek := (hP.2.2.1 i (by omega)).2.2.2.1
    refine e_iload rfl rfl ?_
    refine e_aload_n rfl rfl ?_
    refine e_getP rfl f10_13 hM.k rfl hM.p3 ?_
    refine e_iconst (v := nI 1) rfl ic_1N ?_
    first | refine e_ialoadN rfl hM.a3 (by omega) (by omega) ?_ | (refine e_iaload rfl hM.a3 ?_ ?_; rotate_left)
    rw [e1]
    first | refine e_icmp_geN (tgt := 45) rfl rfl (by omega) (by omega) (fun z => ?_) (fun z => ?_) | refine e_icmp_ge (tgt := 45) rfl rfl (fun z => ?_) (fun z => ?_)
    · omega
    · refine e_iload_n rfl rfl ?_
      refine e_iload rfl rfl ?_
      refine e_ishr rfl ?_
      refine e_iconst (v := nI 1) rfl ic_1N ?_
      refine e_iand rfl ?_
      refine e_iconst (v := nI 1) rfl ic_1N ?_
      refine e_icmp_ne (tgt := 39) rfl rfl (fun z => ?_) (fun z => ?_)
      · rw [bit_t hq (by omega)] at z
        first | refine e_inc4 rfl rfl rfl (incN1 _) ?_ | refine e_inc4 rfl rfl rfl rfl ?_
        refine e_goto (tgt := 6) rfl rfl ?_
        refine ih (i + 1) v (by omega) (fun v4 => ?_)
        have := kk v4
        rw [lwF, if_neg z] at this
        exact this
      · rw [bit_t hq (by omega)] at z
        refine e_iload_n rfl rfl ?_
        refine e_aload_n rfl rfl ?_
        refine e_getP rfl f10_34 hM.k rfl hM.p10 ?_
        refine e_iload rfl rfl ?_
        first | refine e_ialoadN rfl hM.a10 (by omega) (by omega) ?_ | (refine e_iaload rfl hM.a10 ?_ ?_; rotate_left)
        rw [ek]
        refine e_min rfl v10_385 rfl ?_
        refine e_ist3 rfl rfl rfl ?_
        first | refine e_inc4 rfl rfl rfl (incN1 _) ?_ | refine e_inc4 rfl rfl rfl rfl ?_
        refine e_goto (tgt := 6) rfl rfl ?_
        refine ih (i + 1) _ (by omega) (fun v4 => ?_)
        have := kk v4
        rw [lwF, if_pos z] at this
        exact this
theorem mti_in (hM : MK K) (hP : MP I P) (hn : P.1 1 = n) (h8 : n ≤ 8) (hR : RM I 0 n S B) {q : Nat} (hq : q < 256) {x lo : Int32} (hs : ∀ j, q.testBit j = true → j < n ∧ inS S x j = true) {t : Nat} (ht : t < n) (hin : inS S x t = true) : ∀ k o, o + k = n → ((q.testBit t = true → ∀ o', o ≤ o' → o' < n → q.testBit o' = true → abS S t o' = true → ¬ P.2 6 t < P.2 6 o') → ∀ v, Gw l G (d + 1) m10_isTidy 181 [.ref 102, .int x, .int (nI q), .int lo, .int (nI t), v] [] (I, J, K) Q) → ((q.testBit t = true ∧ ∃ o', o' < n ∧ q.testBit o' = true ∧ abS S t o' = true ∧ P.2 6 t < P.2 6 o') → Q (some (.int (bI false))) (I, J, K)) → Gw l G (d + 1) m10_isTidy 108 [.ref 102, .int x, .int (nI q), .int lo, .int (nI t), .int (nI o)] [] (I, J, K) Q := by
  have e1 : I 104 1 = nI n := by rw [← hn]; exact hP.1.2.1
  have ek := (hP.2.2.1 t (by omega)).2.2.2.1
  have et := (hR.z ht).2.2.1
  intro k
  induction k with
  | zero =>
    intro o ho kk kf
    refine e_iload rfl rfl ?_
    refine e_aload_n rfl rfl ?_
    refine e_getP rfl f10_13 hM.k rfl hM.p3 ?_
    refine e_iconst (v := nI 1) rfl ic_1N ?_
    first | refine e_ialoadN rfl hM.a3 (by omega) (by omega) ?_ | (refine e_iaload rfl hM.a3 ?_ ?_; rotate_left)
    rw [e1]
    first | refine e_icmp_geN (tgt := 181) rfl rfl (by omega) (by omega) (fun z => ?_) (fun z => ?_) | refine e_icmp_ge (tgt := 181) rfl rfl (fun z => ?_) (fun z => ?_)
    · exact kk (fun _ o' a b => absurd b (by omega)) _
    · omega
  | succ k ih =>
    intro o ho kk kf
    have eo := (hP.2.2.1 o (by omega)).2.2.2.1
    have e4 := hR.2.2.2.1 t ht o (by omega)
    rw [show 8 * 0 + o = o by omega, show 8 * 0 + t = t by omega] at e4
    have next : (q.testBit t = true → ¬ (q.testBit o = true ∧ abS S t o = true ∧ P.2 6 t < P.2 6 o)) → Gw l G (d + 1) m10_isTidy 175 [.ref 102, .int x, .int (nI q), .int lo, .int (nI t), .int (nI o)] [] (I, J, K) Q := by
      intro hno
      first | refine e_inc5 rfl rfl rfl (incN1 _) ?_ | refine e_inc5 rfl rfl rfl rfl ?_
      refine e_goto (tgt := 108) rfl rfl ?_
      exact ih (o + 1) (by omega) (fun g => kk (fun z o' a b c e f => if w : o' = o then hno z (by rw [← w]; exact ⟨c, e, f⟩) else g z o' (by omega) b c e f)) kf
    refine e_iload rfl rfl ?_
    refine e_aload_n rfl rfl ?_
    refine e_getP rfl f10_13 hM.k rfl hM.p3 ?_
    refine e_iconst (v := nI 1) rfl ic_1N ?_
    first | refine e_ialoadN rfl hM.a3 (by omega) (by omega) ?_ | (refine e_iaload rfl hM.a3 ?_ ?_; rotate_left)
    rw [e1]
    first | refine e_icmp_geN (tgt := 181) rfl rfl (by omega) (by omega) (fun z => ?_) (fun z => ?_) | refine e_icmp_ge (tgt := 181) rfl rfl (fun z => ?_) (fun z => ?_)
    · omega
    · refine e_iload_n rfl rfl ?_
      refine e_iload rfl rfl ?_
      refine e_ishr rfl ?_
      refine e_iconst (v := nI 1) rfl ic_1N ?_
      refine e_iand rfl ?_
      refine e_iconst (v := nI 1) rfl ic_1N ?_
      refine e_icmp_ne (tgt := 181) rfl rfl (fun z => ?_) (fun z => ?_)
      · rw [bit_t hq (by omega)] at z
        exact kk (fun y => absurd y z) _
      · rw [bit_t hq (by omega)] at z
        refine e_iload_n rfl rfl ?_
        refine e_iload rfl rfl ?_
        refine e_ishr rfl ?_
        refine e_iconst (v := nI 1) rfl ic_1N ?_
        refine e_iand rfl ?_
        refine e_iconst (v := nI 1) rfl ic_1N ?_
        refine e_icmp_ne (tgt := 175) rfl rfl (fun y => ?_) (fun y => ?_)
        · rw [bit_t hq (by omega)] at y
          exact next (fun _ w => y w.1)
        · rw [bit_t hq (by omega)] at y
          obtain ⟨-, io⟩ := hs o y
          unfold inS at io hin
          obtain ⟨o0, o2⟩ := (Bool.and_eq_true _ _).mp io
          obtain ⟨-, t2⟩ := (Bool.and_eq_true _ _).mp hin
          have same : I 131 o = I 131 t := by rw [(hR.z (by omega : o < n)).2.2.1, et, of_decide_eq_true o2, of_decide_eq_true t2]
          have ab : abS S t o = true ↔ I 130 t < I 130 o := by
            unfold abS
            rw [o0, Bool.true_and, e4, decide_eq_true_eq]
            show bI _ = nI 1 ↔ _
            rw [bI_1, decide_eq_true_eq]
            exact ⟨fun w => w.2, fun w => ⟨same, w⟩⟩
          refine e_aload_n rfl rfl ?_
          refine e_getP rfl f10_96 hM.k rfl hM.p43 ?_
          refine e_iload rfl rfl ?_
          first | refine e_ialoadN rfl hM.a43 (by omega) (by omega) ?_ | (refine e_iaload rfl hM.a43 ?_ ?_; rotate_left)
          refine e_aload_n rfl rfl ?_
          refine e_getP rfl f10_96 hM.k rfl hM.p43 ?_
          refine e_iload rfl rfl ?_
          first | refine e_ialoadN rfl hM.a43 (by omega) (by omega) ?_ | (refine e_iaload rfl hM.a43 ?_ ?_; rotate_left)
          refine e_icmp_le (tgt := 175) rfl rfl (fun w => ?_) (fun w => ?_)
          · exact next (fun _ w2 => absurd (ab.mp w2.2.1) (Int32.not_lt.mpr w))
          · refine e_aload_n rfl rfl ?_
            refine e_getP rfl f10_34 hM.k rfl hM.p10 ?_
            refine e_iload rfl rfl ?_
            first | refine e_ialoadN rfl hM.a10 (by omega) (by omega) ?_ | (refine e_iaload rfl hM.a10 ?_ ?_; rotate_left)
            rw [eo]
            refine e_aload_n rfl rfl ?_
            refine e_getP rfl f10_34 hM.k rfl hM.p10 ?_
            refine e_iload rfl rfl ?_
            first | refine e_ialoadN rfl hM.a10 (by omega) (by omega) ?_ | (refine e_iaload rfl hM.a10 ?_ ?_; rotate_left)
            rw [ek]
            refine e_icmp_le (tgt := 175) rfl rfl (fun r => ?_) (fun r => ?_)
            · exact next (fun _ w2 => absurd w2.2.2 (Int32.not_lt.mpr r))
            · refine e_iconst (v := nI 0) rfl ic_0N ?_
              refine e_zreturn rfl rfl ?_ ?_
              · exact Or.inl rfl
              · exact kf ⟨z, o, by omega, y, ab.mpr (Int32.not_le.mp w), Int32.not_le.mp r⟩
/-- one of the stack does not forbid it -/
def TD1 (P : Pl) (S : SM) (n q : Nat) (lo : Int32) (t : Nat) : Prop := (¬ q.testBit t = true → ¬ lo < P.2 6 t) ∧ (q.testBit t = true → ∀ o, o < n → q.testBit o = true → abS S t o = true → ¬ P.2 6 t < P.2 6 o)
theorem mti_out (hM : MK K) (hP : MP I P) (hn : P.1 1 = n) (h8 : n ≤ 8) (hR : RM I 0 n S B) {q : Nat} (hq : q < 256) {x lo : Int32} (hs : ∀ j, q.testBit j = true → j < n ∧ inS S x j = true) : ∀ k t v, t + k = n → ((∀ t', t ≤ t' → t' < n → inS S x t' = true → TD1 P S n q lo t') → Q (some (.int (bI true))) (I, J, K)) → ((∃ t', t' < n ∧ inS S x t' = true ∧ ¬ TD1 P S n q lo t') → Q (some (.int (bI false))) (I, J, K)) → Gw l G (d + 1) m10_isTidy 48 [.ref 102, .int x, .int (nI q), .int lo, .int (nI t), v] [] (I, J, K) Q := by
  have e1 : I 104 1 = nI n := by rw [← hn]; exact hP.1.2.1
  intro k
  induction k with
  | zero =>
    intro t v ht kt kf
    refine e_iload rfl rfl ?_
    refine e_aload_n rfl rfl ?_
    refine e_getP rfl f10_13 hM.k rfl hM.p3 ?_
    refine e_iconst (v := nI 1) rfl ic_1N ?_
    first | refine e_ialoadN rfl hM.a3 (by omega) (by omega) ?_ | (refine e_iaload rfl hM.a3 ?_ ?_; rotate_left)
    rw [e1]
    first | refine e_icmp_geN (tgt := 187) rfl rfl (by omega) (by omega) (fun z => ?_) (fun z => ?_) | refine e_icmp_ge (tgt := 187) rfl rfl (fun z => ?_) (fun z => ?_)
    · refine e_iconst (v := nI 1) rfl ic_1N ?_
      refine e_zreturn rfl rfl ?_ ?_
      · exact Or.inr rfl
      · exact kt (fun t' a b => absurd b (by omega))
    · omega
  | succ k ih =>
    intro t v ht kt kf
    have ek := (hP.2.2.1 t (by omega)).2.2.2.1
    obtain ⟨z0, z1, z2, -⟩ := hR.z (by omega : t < n)
    have next : (inS S x t = true → TD1 P S n q lo t) → ∀ v, Gw l G (d + 1) m10_isTidy 181 [.ref 102, .int x, .int (nI q), .int lo, .int (nI t), v] [] (I, J, K) Q := by
      intro hok v
      first | refine e_inc4 rfl rfl rfl (incN1 _) ?_ | refine e_inc4 rfl rfl rfl rfl ?_
      refine e_goto (tgt := 48) rfl rfl ?_
      exact ih (t + 1) _ (by omega) (fun g => kt (fun t' a b c => if w : t' = t then by rw [w] at c ⊢; exact hok c else g t' (by omega) b c)) kf
    refine e_iload rfl rfl ?_
    refine e_aload_n rfl rfl ?_
    refine e_getP rfl f10_13 hM.k rfl hM.p3 ?_
    refine e_iconst (v := nI 1) rfl ic_1N ?_
    first | refine e_ialoadN rfl hM.a3 (by omega) (by omega) ?_ | (refine e_iaload rfl hM.a3 ?_ ?_; rotate_left)
    rw [e1]
    first | refine e_icmp_geN (tgt := 187) rfl rfl (by omega) (by omega) (fun z => ?_) (fun z => ?_) | refine e_icmp_ge (tgt := 187) rfl rfl (fun z => ?_) (fun z => ?_)
    · omega
    · refine e_aload_n rfl rfl ?_
      refine e_getP rfl f10_99 hM.k rfl hM.p44 ?_
      refine e_iload rfl rfl ?_
      first | refine e_ialoadN rfl hM.a44 (by omega) (by omega) ?_ | (refine e_iaload rfl hM.a44 ?_ ?_; rotate_left)
      rw [z2]
      refine e_iload_n rfl rfl ?_
      refine e_icmp_ne (tgt := 181) rfl rfl (fun y => ?_) (fun y => ?_)
      · exact next (fun w => by unfold inS at w; exact absurd (of_decide_eq_true ((Bool.and_eq_true _ _).mp w).2) y) _
      · refine e_aload_n rfl rfl ?_
        refine e_iconst (v := nI 0) rfl ic_0N ?_
        refine e_iload rfl rfl ?_
        refine e_callVp (kd := 10) (M2 := m10_isClosed) rfl v10_333 ok10_isClosed (c10_isClosed (d := d) (f := 0) hM (by omega) (by omega)) rfl hM.k rfl rfl rfl rfl ?_
        rw [show 8 * 0 + t = t by omega, z0]
        refine e_if_neB (tgt := 83) rfl rfl (fun w => ?_) (fun w => ?_)
        · have hin : inS S x t = true := by unfold inS; rw [w, decide_eq_true y]; rfl
          have inner : (¬ q.testBit t = true → ¬ lo < P.2 6 t) → Gw l G (d + 1) m10_isTidy 105 [.ref 102, .int x, .int (nI q), .int lo, .int (nI t), v] [] (I, J, K) Q := by
            intro h1
            refine e_iconst (v := nI 0) rfl ic_0N ?_
            refine e_ist5 rfl rfl rfl ?_
            exact mti_in hM hP hn h8 hR hq hs (by omega) hin n 0 (by omega) (fun g => next (fun _ => ⟨h1, fun a o b c e f => g a o (by omega) b c e f⟩)) (fun ⟨a, o, b, c, e, f⟩ => kf ⟨t, by omega, hin, fun w => w.2 a o b c e f⟩)
          refine e_iload_n rfl rfl ?_
          refine e_iload rfl rfl ?_
          refine e_ishr rfl ?_
          refine e_iconst (v := nI 1) rfl ic_1N ?_
          refine e_iand rfl ?_
          rw [bit_n, bit_nat (by omega) (by omega)]
          by_cases b : q.testBit t = true
          · rw [if_pos b]
            refine e_if_neN (tgt := 105) rfl rfl (by omega) (fun _ => ?_) (fun w => absurd w (by omega))
            exact inner (fun w => absurd b w)
          · rw [if_neg b]
            refine e_if_neN (tgt := 105) rfl rfl (by omega) (fun w => absurd rfl w) (fun _ => ?_)
            refine e_aload_n rfl rfl ?_
            refine e_getP rfl f10_34 hM.k rfl hM.p10 ?_
            refine e_iload rfl rfl ?_
            first | refine e_ialoadN rfl hM.a10 (by omega) (by omega) ?_ | (refine e_iaload rfl hM.a10 ?_ ?_; rotate_left)
            rw [ek]
            refine e_iload_n rfl rfl ?_
            refine e_icmp_le (tgt := 105) rfl rfl (fun r => ?_) (fun r => ?_)
            · exact inner (fun _ => Int32.not_lt.mpr r)
            · refine e_iconst (v := nI 0) rfl ic_0N ?_
              refine e_zreturn rfl rfl ?_ ?_
              · exact Or.inl rfl
              · exact kf ⟨t, by omega, hin, fun w => w.1 b (Int32.not_le.mp r)⟩
        · refine e_goto (tgt := 181) rfl rfl ?_
          exact next (fun w2 => by unfold inS at w2; rw [w, Bool.false_and] at w2; exact absurd w2 (by decide)) _
theorem c10_isTidy (hM : MK K) (hP : MP I P) (hn : P.1 1 = n) (h8 : n ≤ 8) (hR : RM I 0 n S B) {q : Nat} (hq : q < 256) {x : Int32} (hs : ∀ j, q.testBit j = true → j < n ∧ inS S x j = true) : Cw l G (d + 1) m10_isTidy [.ref 102, .int x, .int (nI q)] (I, J, K) (fun r h' => ∃ b, r = some (.int (bI b)) ∧ h' = (I, J, K) ∧ (b = true ↔ TDq P S n x q)) := by
  refine Cw.of ok10_isTidy rfl (rfl : argL _ _ = [.ref 102, .int x, .int (nI q), .null, .null, .null]) ?_
  refine e_bipush (v := nI 100) rfl bp_100N ?_
  refine e_ist3 rfl rfl rfl ?_
  refine e_iconst (v := nI 0) rfl ic_0N ?_
  refine e_ist4 rfl rfl rfl ?_
  refine mlow_loop hM hP hn h8 hq n 0 _ (by omega) (fun v4 => ?_)
  refine e_iconst (v := nI 0) rfl ic_0N ?_
  refine e_ist4 rfl rfl rfl ?_
  exact mti_out hM hP hn h8 hR hq hs n 0 _ (by omega) (fun g => ⟨true, rfl, rfl, fun _ t a b => g t (by omega) a b, fun _ => rfl⟩) (fun ⟨t, a, b, c⟩ => ⟨false, rfl, rfl, fun w => absurd w (by decide), fun w => absurd (w t a b) c⟩)
theorem mall_loop (hM : MK K) (hn1 : I 104 1 = nI n) (h8 : n ≤ 8) (hR : RM I 0 n S B) {x : Int32} {v4 : Value} : ∀ k i v, i + k = n → (∀ v3, Gw l G (d + 1) m10_tidy 63 [.ref 102, .int x, .int (bitF (inS S x) i k v), v3, v4] [] (I, J, K) Q) → Gw l G (d + 1) m10_tidy 18 [.ref 102, .int x, .int v, .int (nI i), v4] [] (I, J, K) Q := by
  intro k
  induction k with
  | zero =>
    intro i v hi kk
    refine e_iload_n rfl rfl ?_
    refine e_aload_n rfl rfl ?_
    refine e_getP rfl f10_13 hM.k rfl hM.p3 ?_
    refine e_iconst (v := nI 1) rfl ic_1N ?_
    first | refine e_ialoadN rfl hM.a3 (by omega) (by omega) ?_ | (refine e_iaload rfl hM.a3 ?_ ?_; rotate_left)
    rw [hn1]
    first | refine e_icmp_geN (tgt := 63) rfl rfl (by omega) (by omega) (fun z => ?_) (fun z => ?_) | refine e_icmp_ge (tgt := 63) rfl rfl (fun z => ?_) (fun z => ?_)
    · exact kk _
    · omega
  | succ k ih =>
    intro i v hi kk
    obtain ⟨z0, z1, z2, -⟩ := hR.z (by omega : i < n)
    have no : ¬ inS S x i = true → Gw l G (d + 1) m10_tidy 54 [.ref 102, .int x, .int v, .int (nI i), v4] [.int v] (I, J, K) Q := by
      intro hno
      refine e_iconst (v := nI 0) rfl ic_0N ?_
      refine e_ior rfl ?_
      rw [or_0]
      refine e_ist2 rfl rfl rfl ?_
      first | refine e_inc3 rfl rfl rfl (incN1 _) ?_ | refine e_inc3 rfl rfl rfl rfl ?_
      refine e_goto (tgt := 18) rfl rfl ?_
      refine ih (i + 1) v (by omega) (fun v3 => ?_)
      have := kk v3
      rw [bitF, if_neg hno] at this
      exact this
    refine e_iload_n rfl rfl ?_
    refine e_aload_n rfl rfl ?_
    refine e_getP rfl f10_13 hM.k rfl hM.p3 ?_
    refine e_iconst (v := nI 1) rfl ic_1N ?_
    first | refine e_ialoadN rfl hM.a3 (by omega) (by omega) ?_ | (refine e_iaload rfl hM.a3 ?_ ?_; rotate_left)
    rw [hn1]
    first | refine e_icmp_geN (tgt := 63) rfl rfl (by omega) (by omega) (fun z => ?_) (fun z => ?_) | refine e_icmp_ge (tgt := 63) rfl rfl (fun z => ?_) (fun z => ?_)
    · omega
    · refine e_iload_n rfl rfl ?_
      refine e_aload_n rfl rfl ?_
      refine e_getP rfl f10_99 hM.k rfl hM.p44 ?_
      refine e_iload_n rfl rfl ?_
      first | refine e_ialoadN rfl hM.a44 (by omega) (by omega) ?_ | (refine e_iaload rfl hM.a44 ?_ ?_; rotate_left)
      rw [z2]
      refine e_iload_n rfl rfl ?_
      refine e_icmp_ne (tgt := 54) rfl rfl (fun y => ?_) (fun y => ?_)
      · exact no (fun w => by unfold inS at w; exact absurd (of_decide_eq_true ((Bool.and_eq_true _ _).mp w).2) y)
      · refine e_aload_n rfl rfl ?_
        refine e_iconst (v := nI 0) rfl ic_0N ?_
        refine e_iload_n rfl rfl ?_
        refine e_callVp (kd := 10) (M2 := m10_isClosed) rfl v10_333 ok10_isClosed (c10_isClosed (d := d) (f := 0) hM (by omega) (by omega)) rfl hM.k rfl rfl rfl rfl ?_
        rw [show 8 * 0 + i = i by omega, z0]
        refine e_if_eqB (tgt := 54) rfl rfl (fun w => ?_) (fun w => ?_)
        · exact no (fun w2 => by unfold inS at w2; rw [w, Bool.false_and] at w2; exact absurd w2 (by decide))
        · have hin : inS S x i = true := by unfold inS; rw [w, decide_eq_true y]; rfl
          refine e_iconst (v := nI 1) rfl ic_1N ?_
          refine e_iload_n rfl rfl ?_
          refine e_ishl rfl ?_
          refine e_goto (tgt := 55) rfl rfl ?_
          refine e_ior rfl ?_
          refine e_ist2 rfl rfl rfl ?_
          first | refine e_inc3 rfl rfl rfl (incN1 _) ?_ | refine e_inc3 rfl rfl rfl rfl ?_
          refine e_goto (tgt := 18) rfl rfl ?_
          refine ih (i + 1) _ (by omega) (fun v3 => ?_)
          have := kk v3
          rw [bitF, if_pos hin] at this
          exact this
theorem bits_t {q : Nat} (hq : q < 256) (h8 : n ≤ 8) (hs : ∀ j, q.testBit j = true → j < n) : cF (fun j => decide (j < 8) && bitOf (nI q) (nI j)) 0 8 = cnt (fun j => q.testBit j) n := by
  refine cF_cut (fun j hj => ?_) (fun j hj => ?_) 8 0 (by omega) (by omega)
  · by_cases c : j < 8
    · rw [bit_nat (by omega) (by omega), decide_eq_true c, Bool.true_and]
      exact Bool.eq_false_iff.mpr (fun z => absurd (hs j z) (by omega))
    · rw [decide_eq_false c]; rfl
  · rw [bit_nat (by omega) (by omega), decide_eq_true (by omega : j < 8), Bool.true_and]
theorem mtidy_loop (hM : MK K) (hP : MP I P) (hn : P.1 1 = n) (h8 : n ≤ 8) (hR : RM I 0 n S B) {x : Int32} (hk : ∀ j, j < n → P.2 6 j < nI 100) {a : Nat} (ha : a < 256) (hA : ∀ j, a.testBit j = (decide (j < n) && inS S x j)) (e : nI a = bitF (inS S x) 0 n (nI 0)) {q : Nat} (hqa : q ≤ a) (hq1 : ∀ j, q.testBit j = true → a.testBit j = true) (hq2 : TDq P S n x q) (hq3 : cnt (fun j => q.testBit j) n + tdF P S n x n 0 8 0 = cnt (inS S x) n) (hQ : Q (some (.int (nI (tdF P S n x n 0 8 0)))) (I, J, K)) : ∀ k s mo, s + k = a + 1 → mo + tdF P S n x n 0 8 0 ≤ cnt (inS S x) n → (q < s → mo + tdF P S n x n 0 8 0 = cnt (inS S x) n) → Gw l G (d + 2) m10_tidy 68 [.ref 102, .int x, .int (nI a), .int (nI mo), .int (nI s)] [] (I, J, K) Q := by
  have c8 : cnt (inS S x) n ≤ n := cF_le _ _ _
  have hA1 : ∀ j, a.testBit j = true → j < n ∧ inS S x j = true := fun j z => by
    rw [hA, Bool.and_eq_true, decide_eq_true_eq] at z
    exact z
  intro k
  induction k with
  | zero =>
    intro s mo hs h1 h2
    have h3 := h2 (by omega)
    refine e_iload rfl rfl ?_
    refine e_iload_n rfl rfl ?_
    first | refine e_icmp_gtN (tgt := 114) rfl rfl (by omega) (by omega) (fun z => ?_) (fun z => ?_) | refine e_icmp_gt (tgt := 114) rfl rfl (fun z => ?_) (fun z => ?_)
    · refine e_iload_n rfl rfl ?_
      refine e_callSp (M2 := m10_bitsOf) rfl v10_434 ok10_bitsOf (c10_bitsOf (d := d + 1) _) rfl rfl rfl ?_
      rw [e, bits_cnt h8]
      refine e_iload_n rfl rfl ?_
      first | refine e_isubN rfl (by omega) ?_ | refine e_isub rfl ?_
      refine e_ireturn rfl rfl ?_
      rw [show cnt (inS S x) n - mo = tdF P S n x n 0 8 0 by omega]
      exact hQ
    · omega
  | succ k ih =>
    intro s mo hs h1 h2
    have next : ∀ mo', mo' + tdF P S n x n 0 8 0 ≤ cnt (inS S x) n → (q < s + 1 → mo' + tdF P S n x n 0 8 0 = cnt (inS S x) n) → Gw l G (d + 2) m10_tidy 108 [.ref 102, .int x, .int (nI a), .int (nI mo'), .int (nI s)] [] (I, J, K) Q := by
      intro mo' g1 g2
      first | refine e_inc4 rfl rfl rfl (incN1 _) ?_ | refine e_inc4 rfl rfl rfl rfl ?_
      refine e_goto (tgt := 68) rfl rfl ?_
      exact ih (s + 1) mo' (by omega) g1 g2
    refine e_iload rfl rfl ?_
    refine e_iload_n rfl rfl ?_
    first | refine e_icmp_gtN (tgt := 114) rfl rfl (by omega) (by omega) (fun z => ?_) (fun z => ?_) | refine e_icmp_gt (tgt := 114) rfl rfl (fun z => ?_) (fun z => ?_)
    · omega
    · refine e_iload rfl rfl ?_
      refine e_iload_n rfl rfl ?_
      refine e_iconst rfl ic_m1 ?_
      refine e_ixor rfl ?_
      refine e_iand rfl ?_
      refine e_if_ne (tgt := 108) rfl rfl (fun z => ?_) (fun z => ?_)
      · refine next mo h1 (fun w => ?_)
        by_cases c : q = s
        · subst c
          exact absurd ((sub_nat (by omega) ha).mpr hq1) z
        · exact h2 (by omega)
      · have hsub := (sub_nat (by omega) ha).mp z
        have hs1 : ∀ j, s.testBit j = true → j < n ∧ inS S x j = true := fun j w => hA1 j (hsub j w)
        have hc := cF_le (fun j => s.testBit j) n 0
        have hc : cnt (fun j => s.testBit j) n ≤ n := hc
        refine e_iload rfl rfl ?_
        refine e_callSp (M2 := m10_bitsOf) rfl v10_434 ok10_bitsOf (c10_bitsOf (d := d + 1) _) rfl rfl rfl ?_
        rw [bits_t (by omega) h8 (fun j w => (hs1 j w).1)]
        refine e_iload_n rfl rfl ?_
        refine e_icmp_leN (tgt := 108) rfl rfl (by omega) (by omega) (fun y => ?_) (fun y => ?_)
        · refine next mo h1 (fun w => ?_)
          by_cases c : q = s
          · subst c; omega
          · exact h2 (by omega)
        · refine e_aload_n rfl rfl ?_
          refine e_iload_n rfl rfl ?_
          refine e_iload rfl rfl ?_
          refine e_callV (kd := 10) (M2 := m10_isTidy) rfl v10_437 ok10_isTidy (c10_isTidy (d := d) hM hP hn h8 hR (by omega) hs1) rfl hM.k rfl rfl rfl rfl (fun r1 h1 q1 => ?_)
          obtain ⟨b, rfl, rfl, hb⟩ := q1
          refine e_if_eqB (tgt := 108) rfl rfl (fun w => ?_) (fun w => ?_)
          · refine next mo h1 (fun r => ?_)
            by_cases c : q = s
            · subst c
              exact absurd (hb.mpr hq2) (by rw [w]; decide)
            · exact h2 (by omega)
          · have up := td_up (ABx.of hR x) (by omega) hs1 hk (hb.mp w)
            refine e_iload rfl rfl ?_
            refine e_callSp (M2 := m10_bitsOf) rfl v10_434 ok10_bitsOf (c10_bitsOf (d := d + 1) _) rfl rfl rfl ?_
            rw [bits_t (by omega) h8 (fun j w => (hs1 j w).1)]
            refine e_ist3 rfl rfl rfl ?_
            refine next _ up (fun r => ?_)
            by_cases c : q = s
            · subst c; exact hq3
            · have := h2 (by omega)
              omega
theorem c10_tidy (hM : MK K) (hI : MI I P S im SI m T kn u Hs B) (hn : P.1 1 = n) (x : Int32) : Cw l G (d + 2) m10_tidy [.ref 102, .int x] (I, J, K) (fun r h' => r = some (.int (a_tidy P S n x)) ∧ MPst I J K h' P S im SI m T kn u Hs (B + 2)) := by
  have g0 : FQm I J (u2 I 102 0 (nI 0)) J := FQm.w0
  have hI1 := hI.t0 J
  have hP := hI1.1
  have hR := hI1.2.2.1
  rw [hn] at hR
  have h8 := hI.2.1.1.1.2.1
  have hn1 : (u2 I 102 0 (nI 0)) 104 1 = nI n := by rw [← hn]; exact hP.1.2.1
  have hk : ∀ j, j < n → P.2 6 j < nI 100 := fun j hj => by
    obtain ⟨-, -, ⟨i, -, i2, i3⟩, -⟩ := hI.2.1.1.2.2.1 j (by omega)
    rw [i3]
    exact (nI_ltI (by omega) (by omega)).mpr (by omega)
  unfold a_tidy
  refine Cw.of ok10_tidy rfl (rfl : argL _ _ = [.ref 102, .int x, .null, .null, .null]) ?_
  refine e_aload_n rfl rfl ?_
  refine e_iconst (v := nI 0) rfl ic_0N ?_
  refine e_putI rfl f10_151 hM.k rfl rfl ?_
  refine e_iload_n rfl rfl ?_
  refine e_callSp (M2 := m10_isStack) rfl v10_406 ok10_isStack (c10_isStack (d := d + 1) x) rfl rfl rfl ?_
  refine e_if_neB (tgt := 14) rfl rfl (fun z => ?_) (fun z => ?_)
  · rw [if_pos z]
    refine e_iconst (v := nI 0) rfl ic_0N ?_
    refine e_ist2 rfl rfl rfl ?_
    refine e_iconst (v := nI 0) rfl ic_0N ?_
    refine e_ist3 rfl rfl rfl ?_
    refine mall_loop (d := d + 1) hM hn1 (by omega) hR n 0 _ (by omega) (fun v3 => ?_)
    obtain ⟨a, a1, a2, a3⟩ := set_nat (f := inS S x) (by omega : n ≤ 8)
    have a4 : a < 256 := by
      have := Nat.pow_le_pow_right (n := 2) (by omega) (by omega : n ≤ 8)
      omega
    have c8 : cnt (inS S x) n ≤ n := cF_le _ _ _
    obtain ⟨q, q1, q2, q3⟩ := td_ex (P := P) (by omega) (ABx.of hR x) (by omega) a3 hk
    have up0 : 0 + tdF P S n x n 0 8 0 ≤ cnt (inS S x) n := by omega
    rw [a1]
    refine e_iconst (v := nI 0) rfl ic_0N ?_
    refine e_ist3 rfl rfl rfl ?_
    refine e_iconst (v := nI 0) rfl ic_0N ?_
    refine e_ist4 rfl rfl rfl ?_
    exact mtidy_loop hM hP hn (by omega) hR hk a4 a3 a1.symm (sub_le q1) q1 q2 q3 ⟨rfl, hI.fin g0⟩ (a + 1) 0 0 (by omega) up0 (fun w => absurd w (by omega))
  · rw [if_neg (by rw [z]; decide)]
    refine e_iconst rfl ic_m1 ?_
    refine e_ireturn rfl rfl ?_
    exact ⟨rfl, hI.fin g0⟩
end MTidy
