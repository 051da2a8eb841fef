/-! ===== Told: NOTES, SIGHTS, STRIKES ===== -/
def isTold (K : Kt) (b : Nat) : Prop := (K.2.1 b).1 = 8 ∧ K.1 b 0 = some (b + 1) ∧ isRows K (b + 1) 4 24
/-- m are told: T; known by kn -/
def RT (I : IM) (b m : Nat) (T : Nat → Nat → Int32) (kn : Int32) : Prop := I (b + 1) 0 = nI 24 ∧ I (b + 1) 2 = nI m ∧ m ≤ 24 ∧ (∀ j, j < 4 → ∀ i, i < m → I (b + 3 + j) i = T j i) ∧ I b 1 = kn
def hmk (kn : Int32) (m : Nat) : Int32 := if kn = -1 then nI m else if nI m < kn then nI m else kn
/-- bits of those that count, from i down -/
def cntd (T : Nat → Nat → Int32) : Nat → Int32 → Int32 → Int32
  | 0, b, _ => b
  | i + 1, b, k => if bitOf k (nI i) = true then cntd T i b k else if T 0 i = nI 3 then cntd T i (b ||| nI 1 <<< (nI i &&& 31)) (k ||| nI 1 <<< (T 1 i &&& 31)) else cntd T i (b ||| nI 1 <<< (nI i &&& 31)) k
/-- is one KIND so by all that count -/
def mbF (T : Nat → Nat → Int32) (c wt sd : Int32) : Nat → Nat → Bool
  | _, 0 => true
  | i, k + 1 => if bitOf c (nI i) = true ∧ (T 0 i = 0 ∨ T 0 i = nI 1) ∧ ¬ (T 1 i ≤ (if T 0 i = 0 then wt else sd) ↔ T 3 i = nI 1) then false else mbF T c wt sd (i + 1) k
def lsF (T : Nat → Nat → Int32) (c : Int32) : Nat → Nat → Int32 → Int32
  | _, 0, v => v
  | i, k + 1, v => lsF T c (i + 1) k (if bitOf c (nI i) = true ∧ T 0 i = nI 2 then (if v < T 1 i then T 1 i else v) else v)
/-- are the SIGHTS of a day so, by how the tins are -/
def ssF (T : Nat → Nat → Int32) (c day : Int32) (n : Nat) (st : Nat → Int32) : Nat → Nat → Bool
  | _, 0 => true
  | i, k + 1 => if bitOf c (nI i) = true ∧ T 0 i = nI 2 ∧ T 1 i = day ∧ ¬ ((inN n (T 2 i) = true ∧ st (T 2 i).toNatClampNeg = nI 3) ↔ T 3 i = nI 1) then false else ssF T c day n st (i + 1) k
section MTold
variable {l : Launch} {G : GG} {d : Nat} {I : IM} {J : JM} {K : Kt} {Q : Option Value → Hp → Prop} {b m : Nat} {T : Nat → Nat → Int32} {kn : Int32}
theorem c8_clear (hB : isTold K b) : Cw l G d m8_clear [.ref b] (I, J, K) (fun r h' => r = none ∧ h' = (u2 (u2 I (b + 1) 2 (nI 0)) b 1 (-1), J, K)) := by
  obtain ⟨h8, p0, r1⟩ := hB
  have q1 := r1.1
  refine Cw.of ok8_clear rfl (rfl : argL _ _ = [.ref b]) ?_
  refine e_aload_n rfl rfl ?_
  refine e_getP rfl f8_14 (by assumption) rfl (by assumption) ?_
  refine e_iconst (v := nI 0) rfl ic_0N ?_
  refine e_putI rfl f8_24 (by assumption) rfl rfl ?_
  refine e_aload_n rfl rfl ?_
  refine e_iconst rfl ic_m1 ?_
  refine e_putI rfl f8_20 (by assumption) rfl rfl ?_
  refine e_return rfl rfl ?_
  exact ⟨rfl, rfl⟩
theorem c8_add (hB : isTold K b) (hR : RT I b m T kn) (so mu ti : Int32) (is : Bool) : Cw l G (d + 2) m8_add [.ref b, .int so, .int mu, .int ti, .int (bI is)] (I, J, K) (fun r h' => r = some (.int (if 24 ≤ m then -1 else nI m)) ∧ ∃ I', h' = (I', J, K) ∧ (∀ c, (c ≤ b ∨ b + 6 < c) → I' c = I c) ∧ RT I' b (if 24 ≤ m then m else m + 1) (if 24 ≤ m then T else fun j i => if i = m then (if j = 0 then so else if j = 1 then mu else if j = 2 then ti else bI is) else T j i) kn) := by
  obtain ⟨h8, p0, r1⟩ := hB
  have q1 := r1.1
  have hR0 := hR
  obtain ⟨hm, hz, h24, hc, hk⟩ := hR
  refine Cw.of ok8_add rfl (rfl : argL _ _ = [.ref b, .int so, .int mu, .int ti, .int (bI is)]) ?_
  refine e_aload_n rfl rfl ?_
  refine e_getP rfl f8_14 (by assumption) rfl (by assumption) ?_
  refine e_callVp (kd := 4) (M2 := m4_isFull) rfl v8_27 ok4_isFull (c4_isFull r1 hm hz h24) rfl (by assumption) rfl rfl rfl rfl ?_
  first | refine e_if_eqB (tgt := 12) rfl rfl (fun z => ?_) (fun z => ?_) | refine e_if_eqN (tgt := 12) rfl rfl (by omega) (fun z => ?_) (fun z => ?_) | refine e_if_eq (tgt := 12) rfl rfl (fun z => ?_) (fun z => ?_)
  · have z := of_decide_eq_false z
    refine e_aload_n rfl rfl ?_
    refine e_getP rfl f8_14 (by assumption) rfl (by assumption) ?_
    refine e_callV (kd := 4) (M2 := m4_add) rfl v8_31 ok4_add (c4_add r1 hm hz h24) rfl (by assumption) rfl rfl rfl rfl (fun r1 h1 q1 => ?_)
    obtain ⟨rfl, rfl⟩ := q1
    rw [if_neg z, if_neg z, if_neg z, if_neg z]
    have tail : ∀ I4 : IM, I4 (b + 1) 0 = nI 24 → I4 (b + 1) 2 = nI (m + 1) → (∀ c, (c ≤ b ∨ b + 6 < c) → I4 c = I c) → (∀ j, j < 3 → I4 (b + 3 + j) m = if j = 0 then so else if j = 1 then mu else ti) → (∀ j, j < 4 → ∀ i, i < m → I4 (b + 3 + j) i = T j i) → Gw l G (d + 2) m8_add 61 [.ref b, .int so, .int mu, .int ti, .int (bI is)] [.int (bI is), .int (nI 3), .ref (b + 1)] (I4, J, K) (fun r h' => r = some (.int (nI m)) ∧ ∃ I', h' = (I', J, K) ∧ (∀ c, (c ≤ b ∨ b + 6 < c) → I' c = I c) ∧ RT I' b (m + 1) (fun j i => if i = m then (if j = 0 then so else if j = 1 then mu else if j = 2 then ti else bI is) else T j i) kn) := by
      intro I4 k0 k2 kf kc ko
      refine e_callV (kd := 4) (M2 := m4_set) rfl v8_34 ok4_set (c4_set r1 (s := m + 1) k2 (by omega) (by omega) _) rfl (by assumption) rfl rfl rfl rfl (fun r1 h1 q1 => ?_)
      obtain ⟨rfl, rfl⟩ := q1
      refine e_aload_n rfl rfl ?_
      refine e_getP rfl f8_14 (by assumption) rfl (by assumption) ?_
      refine e_getI rfl f8_24 (by assumption) rfl ?_
      rw [if_neg (by omega)]
      simp (disch := omega) only [u2_ne]
      rw [k2]
      refine e_iconst (v := nI 1) rfl ic_1N ?_
      first | refine e_isubN rfl (by omega) ?_ | refine e_isub rfl ?_
      refine e_ireturn rfl rfl ?_
      refine ⟨rfl, _, rfl, ?_, ?_, ?_, by omega, ?_, ?_⟩
      · intro c hc2
        rw [u2_row _ _ (by omega), kf c hc2]
      · rw [u2_ne _ _ (by omega)]; exact k0
      · rw [u2_ne _ _ (by omega)]; exact k2
      · intro j hj i hi
        by_cases hi2 : i = m
        · subst hi2
          dsimp only
          rw [if_pos rfl]
          by_cases hj3 : j = 3
          · subst hj3
            rw [show b + 1 + 2 + 3 = b + 3 + 3 by omega, show i + 1 - 1 = i by omega, u2_at]
            rfl
          · rw [u2_ne _ _ (by omega), kc j (by omega)]
            rcases (show j = 0 ∨ j = 1 ∨ j = 2 by omega) with rfl | rfl | rfl <;> rfl
        · dsimp only
          rw [if_neg hi2, u2_nk _ _ (by omega)]
          exact ko j hj i (by omega)
      · rw [u2_ne _ _ (by omega), kf b (by omega)]
        exact hk
    refine e_aload_n rfl rfl ?_
    refine e_getP rfl f8_14 (by assumption) rfl (by assumption) ?_
    refine e_iconst (v := nI 0) rfl ic_0N ?_
    refine e_iload_n rfl rfl ?_
    refine e_callV (kd := 4) (M2 := m4_set) rfl v8_34 ok4_set (c4_set r1 (s := m + 1) (u2_at _ _ _ _) (by omega) (by omega) _) rfl (by assumption) rfl rfl rfl rfl (fun r1 h1 q1 => ?_)
    obtain ⟨rfl, rfl⟩ := q1
    rw [if_neg (by omega)]
    refine e_aload_n rfl rfl ?_
    refine e_getP rfl f8_14 (by assumption) rfl (by assumption) ?_
    refine e_iconst (v := nI 1) rfl ic_1N ?_
    refine e_iload_n rfl rfl ?_
    refine e_callV (kd := 4) (M2 := m4_set) rfl v8_34 ok4_set (c4_set r1 (s := m + 1) (by simp (disch := omega) only [u2_ne, u2_at]) (by omega) (by omega) _) rfl (by assumption) rfl rfl rfl rfl (fun r1 h1 q1 => ?_)
    obtain ⟨rfl, rfl⟩ := q1
    rw [if_neg (by omega)]
    refine e_aload_n rfl rfl ?_
    refine e_getP rfl f8_14 (by assumption) rfl (by assumption) ?_
    refine e_iconst (v := nI 2) rfl ic_2N ?_
    refine e_iload_n rfl rfl ?_
    refine e_callV (kd := 4) (M2 := m4_set) rfl v8_34 ok4_set (c4_set r1 (s := m + 1) (by simp (disch := omega) only [u2_ne, u2_at]) (by omega) (by omega) _) rfl (by assumption) rfl rfl rfl rfl (fun r1 h1 q1 => ?_)
    obtain ⟨rfl, rfl⟩ := q1
    rw [if_neg (by omega)]
    simp only [show m + 1 - 1 = m by omega]
    have k0 : u2 (u2 (u2 (u2 I (b + 1) 2 (nI (m + 1))) (b + 1 + 2 + 0) m so) (b + 1 + 2 + 1) m mu) (b + 1 + 2 + 2) m ti (b + 1) 0 = nI 24 := by simp (disch := omega) only [u2_ne, u2_nk]; exact hm
    have k2 : u2 (u2 (u2 (u2 I (b + 1) 2 (nI (m + 1))) (b + 1 + 2 + 0) m so) (b + 1 + 2 + 1) m mu) (b + 1 + 2 + 2) m ti (b + 1) 2 = nI (m + 1) := by simp (disch := omega) only [u2_ne, u2_at]
    have kf : ∀ c, (c ≤ b ∨ b + 6 < c) → u2 (u2 (u2 (u2 I (b + 1) 2 (nI (m + 1))) (b + 1 + 2 + 0) m so) (b + 1 + 2 + 1) m mu) (b + 1 + 2 + 2) m ti c = I c := by
      intro c hc2
      funext x
      simp (disch := omega) only [u2_ne]
    have kc : ∀ j, j < 3 → u2 (u2 (u2 (u2 I (b + 1) 2 (nI (m + 1))) (b + 1 + 2 + 0) m so) (b + 1 + 2 + 1) m mu) (b + 1 + 2 + 2) m ti (b + 3 + j) m = if j = 0 then so else if j = 1 then mu else ti := by
      intro j hj
      rcases (show j = 0 ∨ j = 1 ∨ j = 2 by omega) with rfl | rfl | rfl
      · rw [show b + 3 + 0 = b + 1 + 2 + 0 by omega]; simp (disch := omega) only [u2_ne, u2_at]; rfl
      · rw [show b + 3 + 1 = b + 1 + 2 + 1 by omega]; simp (disch := omega) only [u2_ne, u2_at]; rfl
      · rw [show b + 3 + 2 = b + 1 + 2 + 2 by omega]; simp (disch := omega) only [u2_ne, u2_at]; rfl
    have ko : ∀ j, j < 4 → ∀ i, i < m → u2 (u2 (u2 (u2 I (b + 1) 2 (nI (m + 1))) (b + 1 + 2 + 0) m so) (b + 1 + 2 + 1) m mu) (b + 1 + 2 + 2) m ti (b + 3 + j) i = T j i := by
      intro j hj i hi
      simp (disch := omega) only [u2_ne, u2_nk]
      exact hc j hj i hi
    refine e_aload_n rfl rfl ?_
    refine e_getP rfl f8_14 (by assumption) rfl (by assumption) ?_
    refine e_iconst (v := nI 3) rfl ic_3N ?_
    refine e_iload rfl rfl ?_
    first | refine e_if_eqB (tgt := 60) rfl rfl (fun z => ?_) (fun z => ?_) | refine e_if_eqN (tgt := 60) rfl rfl (by omega) (fun z => ?_) (fun z => ?_) | refine e_if_eq (tgt := 60) rfl rfl (fun z => ?_) (fun z => ?_)
    · have z0 : is = false := by assumption
      refine e_iconst (v := nI 0) rfl ic_0N ?_
      have t2 := tail _ k0 k2 kf kc ko
      rw [z0] at t2 ⊢
      exact t2
    · have z0 : is = true := by assumption
      refine e_iconst (v := nI 1) rfl ic_1N ?_
      refine e_goto (tgt := 61) rfl rfl ?_
      have t2 := tail _ k0 k2 kf kc ko
      rw [z0] at t2 ⊢
      exact t2
  · have z := of_decide_eq_true z
    refine e_iconst rfl ic_m1 ?_
    refine e_ireturn rfl rfl ?_
    rw [if_pos z, if_pos z, if_pos z]
    exact ⟨rfl, I, rfl, fun _ _ => rfl, hR0⟩
theorem c8_howManyKnown (hB : isTold K b) (hR : RT I b m T kn) : Cp l G (d + 1) m8_howManyKnown [.ref b] (I, J, K) (.int (hmk kn m)) := by
  obtain ⟨h8, p0, r1⟩ := hB
  have q1 := r1.1
  obtain ⟨hm, hz, h24, hc, hk⟩ := hR
  refine Cp.of ok8_howManyKnown rfl (rfl : argL _ _ = [.ref b]) ?_
  refine e_aload_n rfl rfl ?_
  refine e_getI rfl f8_20 (by assumption) rfl ?_
  rw [hk]
  refine e_iconst rfl ic_m1 ?_
  first | refine e_icmp_neN (tgt := 18) rfl rfl (by omega) (by omega) (fun z => ?_) (fun z => ?_) | refine e_icmp_ne (tgt := 18) rfl rfl (fun z => ?_) (fun z => ?_)
  · refine e_aload_n rfl rfl ?_
    refine e_getI rfl f8_20 (by assumption) rfl ?_
    refine e_aload_n rfl rfl ?_
    refine e_getP rfl f8_14 (by assumption) rfl (by assumption) ?_
    refine e_getI rfl f8_24 (by assumption) rfl ?_
    refine e_min rfl v8_37 rfl ?_
    rw [hk, hz]
    refine e_ireturn rfl rfl ?_
    rw [hmk, if_neg z]
    exact ⟨rfl, rfl⟩
  · refine e_aload_n rfl rfl ?_
    refine e_getP rfl f8_14 (by assumption) rfl (by assumption) ?_
    refine e_getI rfl f8_24 (by assumption) rfl ?_
    refine e_goto (tgt := 32) rfl rfl ?_
    rw [hz]
    refine e_ireturn rfl rfl ?_
    rw [hmk, if_pos z]
    exact ⟨rfl, rfl⟩
theorem decM (i : Nat) : nI i + Int32.ofInt (-1) = nI i - nI 1 := by rw [show Int32.ofInt (-1) = -nI 1 by decide, ← Int32.sub_eq_add_neg]
theorem counted_loop (hB : isTold K b) (hR : RT I b m T kn) : ∀ i bs ks, i ≤ m → Q (some (.int (cntd T i bs ks))) (I, J, K) → Gw l G (d + 2) m8_counted 11 [.ref b, .int bs, .int ks, .int (nI i - nI 1)] [] (I, J, K) Q := by
  obtain ⟨h8, p0, r1⟩ := hB
  have q1 := r1.1
  obtain ⟨hm, hz, h24, hc, hk⟩ := hR
  intro i
  induction i with
  | zero =>
    intro bs ks hi hq
    refine e_iload_n rfl rfl ?_
    first | refine e_if_ltN (tgt := 62) rfl rfl (by omega) ?_ | refine e_if_lt (tgt := 62) rfl rfl (fun z => ?_) (fun z => ?_)
    · refine e_iload_n rfl rfl ?_
      refine e_ireturn rfl rfl ?_
      exact hq
    · exact absurd (show nI 0 - nI 1 < 0 by decide) (by assumption)
  | succ i ih =>
    intro bs ks hi hq
    rw [pk_sub (by omega), show i + 1 - 1 = i by omega]
    have t0 : I (b + 1 + 2 + 0) i = T 0 i := hc 0 (by omega) i (by omega)
    have t1 : I (b + 1 + 2 + 1) i = T 1 i := hc 1 (by omega) i (by omega)
    refine e_iload_n rfl rfl ?_
    first | refine e_if_ltN (tgt := 62) rfl rfl (by omega) ?_ | refine e_if_lt (tgt := 62) rfl rfl (fun z => ?_) (fun z => ?_)
    refine e_iload_n rfl rfl ?_
    refine e_iload_n rfl rfl ?_
    refine e_callSNp (M2 := m9_isBit) rfl v8_47 ok9_isBit (c9_isBit ks (nI i)) rfl rfl rfl ?_
    first | refine e_if_neB (tgt := 56) rfl rfl (fun z => ?_) (fun z => ?_) | refine e_if_neN (tgt := 56) rfl rfl (by omega) (fun z => ?_) (fun z => ?_) | refine e_if_ne (tgt := 56) rfl rfl (fun z => ?_) (fun z => ?_)
    · rw [cntd, if_pos (by assumption)] at hq
      first | refine e_inc3 rfl rfl rfl (decN1 (by omega)) ?_ | refine e_inc3 rfl rfl rfl rfl ?_
      refine e_goto (tgt := 11) rfl rfl ?_
      rw [decM]
      exact ih bs ks (by omega) hq
    · refine e_iload_n rfl rfl ?_
      refine e_iconst (v := nI 1) rfl ic_1N ?_
      refine e_iload_n rfl rfl ?_
      refine e_ishl rfl ?_
      refine e_ior rfl ?_
      refine e_ist1 rfl rfl rfl ?_
      refine e_aload_n rfl rfl ?_
      refine e_getP rfl f8_14 (by assumption) rfl (by assumption) ?_
      refine e_iload_n rfl rfl ?_
      refine e_iconst (v := nI 0) rfl ic_0N ?_
      refine e_callVp (kd := 4) (M2 := m4_at) rfl v8_51 ok4_at (c4_at r1 hz h24 (by omega) _) rfl (by assumption) rfl rfl rfl rfl ?_
      rw [rAt_nI (by omega) (by omega), t0]
      rw [cntd, if_neg (by rw [z]; decide)] at hq
      refine e_iconst (v := nI 3) rfl ic_3N ?_
      first | refine e_icmp_neN (tgt := 56) rfl rfl (by omega) (by omega) (fun z => ?_) (fun z => ?_) | refine e_icmp_ne (tgt := 56) rfl rfl (fun z => ?_) (fun z => ?_)
      · rw [if_neg (by assumption)] at hq
        first | refine e_inc3 rfl rfl rfl (decN1 (by omega)) ?_ | refine e_inc3 rfl rfl rfl rfl ?_
        refine e_goto (tgt := 11) rfl rfl ?_
        rw [decM]
        exact ih _ ks (by omega) hq
      · rw [if_pos (by assumption)] at hq
        refine e_iload_n rfl rfl ?_
        refine e_iconst (v := nI 1) rfl ic_1N ?_
        refine e_aload_n rfl rfl ?_
        refine e_getP rfl f8_14 (by assumption) rfl (by assumption) ?_
        refine e_iload_n rfl rfl ?_
        refine e_iconst (v := nI 1) rfl ic_1N ?_
        refine e_callVp (kd := 4) (M2 := m4_at) rfl v8_51 ok4_at (c4_at r1 hz h24 (by omega) _) rfl (by assumption) rfl rfl rfl rfl ?_
        rw [rAt_nI (by omega) (by omega), t1]
        refine e_ishl rfl ?_
        refine e_ior rfl ?_
        refine e_ist2 rfl rfl rfl ?_
        first | refine e_inc3 rfl rfl rfl (decN1 (by omega)) ?_ | refine e_inc3 rfl rfl rfl rfl ?_
        refine e_goto (tgt := 11) rfl rfl ?_
        rw [decM]
        exact ih _ _ (by omega) hq
theorem c8_counted (hB : isTold K b) (hR : RT I b m T kn) {q : Nat} (hq : hmk kn m = nI q) (hqm : q ≤ m) : Cp l G (d + 2) m8_counted [.ref b] (I, J, K) (.int (cntd T q (nI 0) (nI 0))) := by
  have h8 := hB.1
  refine Cp.of ok8_counted rfl (rfl : argL _ _ = [.ref b, .null, .null, .null]) ?_
  refine e_iconst (v := nI 0) rfl ic_0N ?_
  refine e_ist1 rfl rfl rfl ?_
  refine e_iconst (v := nI 0) rfl ic_0N ?_
  refine e_ist2 rfl rfl rfl ?_
  refine e_aload_n rfl rfl ?_
  refine e_callVp (kd := 8) (M2 := m8_howManyKnown) rfl v8_43 ok8_howManyKnown (c8_howManyKnown hB hR) rfl (by assumption) rfl rfl rfl rfl ?_
  rw [hq]
  refine e_iconst (v := nI 1) rfl ic_1N ?_
  refine e_isub rfl ?_
  refine e_ist3 rfl rfl rfl ?_
  exact counted_loop hB hR q _ _ hqm ⟨rfl, rfl⟩
theorem mayBe_loop (hB : isTold K b) (hR : RT I b m T kn) (c wt sd : Int32) : ∀ k i v5 v6, i + k = m → Q (some (.int (bI (mbF T c wt sd i k)))) (I, J, K) → Gw l G (d + 2) m8_mayBe 3 [.ref b, .int c, .int wt, .int sd, .int (nI i), v5, v6] [] (I, J, K) Q := by
  obtain ⟨h8, p0, r1⟩ := hB
  have q1 := r1.1
  obtain ⟨hm, hz, h24, hc, hk⟩ := hR
  intro k
  induction k with
  | zero =>
    intro i v5 v6 hi hq
    refine e_iload rfl rfl ?_
    refine e_aload_n rfl rfl ?_
    refine e_getP rfl f8_14 (by assumption) rfl (by assumption) ?_
    refine e_getI rfl f8_24 (by assumption) rfl ?_
    rw [hz]
    first | refine e_icmp_geN (tgt := 109) rfl rfl (by omega) (by omega) (fun z => ?_) (fun z => ?_) | refine e_icmp_ge (tgt := 109) rfl rfl (fun z => ?_) (fun z => ?_)
    · refine e_iconst (v := nI 1) rfl ic_1N ?_
      refine e_zreturn rfl rfl ?_ ?_
      · exact Or.inr rfl
      · exact hq
    · omega
  | succ k ih =>
    intro i v5 v6 hi hq
    have t0 : I (b + 1 + 2 + 0) i = T 0 i := hc 0 (by omega) i (by omega)
    have t1 : I (b + 1 + 2 + 1) i = T 1 i := hc 1 (by omega) i (by omega)
    have t3 : I (b + 1 + 2 + 3) i = T 3 i := hc 3 (by omega) i (by omega)
    have next : ∀ v5 v6, ¬ (bitOf c (nI i) = true ∧ (T 0 i = 0 ∨ T 0 i = nI 1) ∧ ¬ (T 1 i ≤ (if T 0 i = 0 then wt else sd) ↔ T 3 i = nI 1)) → Gw l G (d + 2) m8_mayBe 103 [.ref b, .int c, .int wt, .int sd, .int (nI i), v5, v6] [] (I, J, K) Q := by
      intro v5 v6 hn
      rw [mbF, if_neg hn] at hq
      first | refine e_inc4 rfl rfl rfl (incN1 _) ?_ | refine e_inc4 rfl rfl rfl rfl ?_
      refine e_goto (tgt := 3) rfl rfl ?_
      exact ih (i + 1) v5 v6 (by omega) hq
    have last : ∀ (so : Bool) v6, bitOf c (nI i) = true → (T 0 i = 0 ∨ T 0 i = nI 1) → (so = true ↔ T 1 i ≤ (if T 0 i = 0 then wt else sd)) → Gw l G (d + 2) m8_mayBe 75 [.ref b, .int c, .int wt, .int sd, .int (nI i), .int (T 0 i), v6] [.int (bI so)] (I, J, K) Q := by
      intro so v6 hb1 hs hso
      refine e_ist6 rfl rfl rfl ?_
      refine e_iload rfl rfl ?_
      refine e_aload_n rfl rfl ?_
      refine e_getP rfl f8_14 (by assumption) rfl (by assumption) ?_
      refine e_iload rfl rfl ?_
      refine e_iconst (v := nI 3) rfl ic_3N ?_
      refine e_callVp (kd := 4) (M2 := m4_at) rfl v8_51 ok4_at (c4_at r1 hz h24 (by omega) _) rfl (by assumption) rfl rfl rfl rfl ?_
      rw [rAt_nI (by omega) (by omega), t3]
      have fin : ∀ is : Bool, (is = true ↔ T 3 i = nI 1) → Gw l G (d + 2) m8_mayBe 98 [.ref b, .int c, .int wt, .int sd, .int (nI i), .int (T 0 i), .int (bI so)] [.int (bI is), .int (bI so)] (I, J, K) Q := by
        intro is his
        first | refine e_icmp_eqN (tgt := 103) rfl rfl (by omega) (by omega) (fun z => ?_) (fun z => ?_) | refine e_icmp_eq (tgt := 103) rfl rfl (fun z => ?_) (fun z => ?_)
        · have e : so = is := by
            have z2 : bI so = bI is := by assumption
            cases so <;> cases is <;> first | rfl | exact absurd z2 (by decide)
          refine next _ _ (fun q => q.2.2 ?_)
          rw [← hso, ← his, e]
        · have e : ¬ so = is := fun e => absurd (show bI so = bI is by rw [e]) (by assumption)
          rw [mbF, if_pos ⟨hb1, hs, fun q => e (by rw [← hso, ← his] at q; exact Bool.eq_iff_iff.mpr q)⟩] at hq
          refine e_iconst (v := nI 0) rfl ic_0N ?_
          refine e_zreturn rfl rfl ?_ ?_
          · exact Or.inl rfl
          · exact hq
      refine e_iconst (v := nI 1) rfl ic_1N ?_
      first | refine e_icmp_neN (tgt := 97) rfl rfl (by omega) (by omega) (fun z => ?_) (fun z => ?_) | refine e_icmp_ne (tgt := 97) rfl rfl (fun z => ?_) (fun z => ?_)
      · refine e_iconst (v := nI 0) rfl ic_0N ?_
        exact fin false ⟨fun q => (by cases q), fun q => absurd q (by assumption)⟩
      · refine e_iconst (v := nI 1) rfl ic_1N ?_
        refine e_goto (tgt := 98) rfl rfl ?_
        exact fin true ⟨fun _ => by assumption, fun _ => rfl⟩
    have cmp : bitOf c (nI i) = true → (T 0 i = 0 ∨ T 0 i = nI 1) → ∀ v6, Gw l G (d + 2) m8_mayBe 57 [.ref b, .int c, .int wt, .int sd, .int (nI i), .int (T 0 i), v6] [.int (if T 0 i = 0 then wt else sd)] (I, J, K) Q := by
      intro hb1 hs v6
      refine e_aload_n rfl rfl ?_
      refine e_getP rfl f8_14 (by assumption) rfl (by assumption) ?_
      refine e_iload rfl rfl ?_
      refine e_iconst (v := nI 1) rfl ic_1N ?_
      refine e_callVp (kd := 4) (M2 := m4_at) rfl v8_51 ok4_at (c4_at r1 hz h24 (by omega) _) rfl (by assumption) rfl rfl rfl rfl ?_
      rw [rAt_nI (by omega) (by omega), t1]
      first | refine e_icmp_ltN (tgt := 74) rfl rfl (by omega) (by omega) (fun z => ?_) (fun z => ?_) | refine e_icmp_lt (tgt := 74) rfl rfl (fun z => ?_) (fun z => ?_)
      · refine e_iconst (v := nI 0) rfl ic_0N ?_
        exact last false v6 hb1 hs ⟨fun q => (by cases q), fun q => absurd q (Int32.not_le.mpr (by assumption))⟩
      · refine e_iconst (v := nI 1) rfl ic_1N ?_
        refine e_goto (tgt := 75) rfl rfl ?_
        exact last true v6 hb1 hs ⟨fun _ => Int32.not_lt.mp (by assumption), fun _ => rfl⟩
    have sel : bitOf c (nI i) = true → (T 0 i = 0 ∨ T 0 i = nI 1) → ∀ v6, Gw l G (d + 2) m8_mayBe 47 [.ref b, .int c, .int wt, .int sd, .int (nI i), .int (T 0 i), v6] [] (I, J, K) Q := by
      intro hb1 hs v6
      refine e_iload rfl rfl ?_
      first | refine e_if_neB (tgt := 56) rfl rfl (fun z => ?_) (fun z => ?_) | refine e_if_neN (tgt := 56) rfl rfl (by omega) (fun z => ?_) (fun z => ?_) | refine e_if_ne (tgt := 56) rfl rfl (fun z => ?_) (fun z => ?_)
      · refine e_iload_n rfl rfl ?_
        have h9 := cmp hb1 hs v6
        rw [if_neg (by assumption)] at h9
        exact h9
      · refine e_iload_n rfl rfl ?_
        refine e_goto (tgt := 57) rfl rfl ?_
        have h9 := cmp hb1 hs v6
        rw [if_pos (by assumption)] at h9
        exact h9
    refine e_iload rfl rfl ?_
    refine e_aload_n rfl rfl ?_
    refine e_getP rfl f8_14 (by assumption) rfl (by assumption) ?_
    refine e_getI rfl f8_24 (by assumption) rfl ?_
    rw [hz]
    first | refine e_icmp_geN (tgt := 109) rfl rfl (by omega) (by omega) (fun z => ?_) (fun z => ?_) | refine e_icmp_ge (tgt := 109) rfl rfl (fun z => ?_) (fun z => ?_)
    · omega
    · refine e_aload_n rfl rfl ?_
      refine e_getP rfl f8_14 (by assumption) rfl (by assumption) ?_
      refine e_iload rfl rfl ?_
      refine e_iconst (v := nI 0) rfl ic_0N ?_
      refine e_callVp (kd := 4) (M2 := m4_at) rfl v8_51 ok4_at (c4_at r1 hz h24 (by omega) _) rfl (by assumption) rfl rfl rfl rfl ?_
      rw [rAt_nI (by omega) (by omega), t0]
      refine e_ist5 rfl rfl rfl ?_
      refine e_iload_n rfl rfl ?_
      refine e_iload rfl rfl ?_
      refine e_callSNp (M2 := m9_isBit) rfl v8_47 ok9_isBit (c9_isBit c (nI i)) rfl rfl rfl ?_
      first | refine e_if_eqB (tgt := 103) rfl rfl (fun z => ?_) (fun z => ?_) | refine e_if_eqN (tgt := 103) rfl rfl (by omega) (fun z => ?_) (fun z => ?_) | refine e_if_eq (tgt := 103) rfl rfl (fun z => ?_) (fun z => ?_)
      · exact next _ _ (fun q => absurd q.1 (by rw [z]; decide))
      · have hb1 : bitOf c (nI i) = true := by assumption
        refine e_iload rfl rfl ?_
        first | refine e_if_eqB (tgt := 47) rfl rfl (fun z => ?_) (fun z => ?_) | refine e_if_eqN (tgt := 47) rfl rfl (by omega) (fun z => ?_) (fun z => ?_) | refine e_if_eq (tgt := 47) rfl rfl (fun z => ?_) (fun z => ?_)
        · exact sel hb1 (Or.inl (by assumption)) _
        · refine e_iload rfl rfl ?_
          refine e_iconst (v := nI 1) rfl ic_1N ?_
          first | refine e_icmp_neN (tgt := 103) rfl rfl (by omega) (by omega) (fun z => ?_) (fun z => ?_) | refine e_icmp_ne (tgt := 103) rfl rfl (fun z => ?_) (fun z => ?_)
          · exact next _ _ (fun q => q.2.1.elim (by assumption) (by assumption))
          · exact sel hb1 (Or.inr (by assumption)) _
theorem c8_mayBe (hB : isTold K b) (hR : RT I b m T kn) (c wt sd : Int32) : Cp l G (d + 2) m8_mayBe [.ref b, .int c, .int wt, .int sd] (I, J, K) (.int (bI (mbF T c wt sd 0 m))) := by
  refine Cp.of ok8_mayBe rfl (rfl : argL _ _ = [.ref b, .int c, .int wt, .int sd, .null, .null, .null]) ?_
  refine e_iconst (v := nI 0) rfl ic_0N ?_
  refine e_ist4 rfl rfl rfl ?_
  exact mayBe_loop hB hR c wt sd m 0 _ _ (by omega) ⟨rfl, rfl⟩
theorem lastSeen_loop (hB : isTold K b) (hR : RT I b m T kn) (c : Int32) : ∀ k i v, i + k = m → Q (some (.int (if nI 60 < lsF T c i k v then nI 60 else lsF T c i k v))) (I, J, K) → Gw l G (d + 2) m8_lastSeen 4 [.ref b, .int c, .int v, .int (nI i)] [] (I, J, K) Q := by
  obtain ⟨h8, p0, r1⟩ := hB
  have q1 := r1.1
  obtain ⟨hm, hz, h24, hc, hk⟩ := hR
  intro k
  induction k with
  | zero =>
    intro i v hi hq
    refine e_iload_n rfl rfl ?_
    refine e_aload_n rfl rfl ?_
    refine e_getP rfl f8_14 (by assumption) rfl (by assumption) ?_
    refine e_getI rfl f8_24 (by assumption) rfl ?_
    rw [hz]
    first | refine e_icmp_geN (tgt := 56) rfl rfl (by omega) (by omega) (fun z => ?_) (fun z => ?_) | refine e_icmp_ge (tgt := 56) rfl rfl (fun z => ?_) (fun z => ?_)
    · refine e_iload_n rfl rfl ?_
      refine e_bipush (v := nI 60) rfl bp_60N ?_
      refine e_min rfl v8_37 rfl ?_
      refine e_ireturn rfl rfl ?_
      exact hq
    · omega
  | succ k ih =>
    intro i v hi hq
    have t0 : I (b + 1 + 2 + 0) i = T 0 i := hc 0 (by omega) i (by omega)
    have t1 : I (b + 1 + 2 + 1) i = T 1 i := hc 1 (by omega) i (by omega)
    rw [lsF] at hq
    refine e_iload_n rfl rfl ?_
    refine e_aload_n rfl rfl ?_
    refine e_getP rfl f8_14 (by assumption) rfl (by assumption) ?_
    refine e_getI rfl f8_24 (by assumption) rfl ?_
    rw [hz]
    first | refine e_icmp_geN (tgt := 56) rfl rfl (by omega) (by omega) (fun z => ?_) (fun z => ?_) | refine e_icmp_ge (tgt := 56) rfl rfl (fun z => ?_) (fun z => ?_)
    · omega
    · refine e_iload_n rfl rfl ?_
      refine e_iload_n rfl rfl ?_
      refine e_callSNp (M2 := m9_isBit) rfl v8_47 ok9_isBit (c9_isBit c (nI i)) rfl rfl rfl ?_
      first | refine e_if_eqB (tgt := 50) rfl rfl (fun z => ?_) (fun z => ?_) | refine e_if_eqN (tgt := 50) rfl rfl (by omega) (fun z => ?_) (fun z => ?_) | refine e_if_eq (tgt := 50) rfl rfl (fun z => ?_) (fun z => ?_)
      · rw [if_neg (c := bitOf c (nI i) = true ∧ T 0 i = nI 2) (fun q => absurd q.1 (by rw [z]; decide))] at hq
        first | refine e_inc3 rfl rfl rfl (incN1 _) ?_ | refine e_inc3 rfl rfl rfl rfl ?_
        refine e_goto (tgt := 4) rfl rfl ?_
        exact ih (i + 1) v (by omega) hq
      · have hb1 : bitOf c (nI i) = true := by assumption
        refine e_aload_n rfl rfl ?_
        refine e_getP rfl f8_14 (by assumption) rfl (by assumption) ?_
        refine e_iload_n rfl rfl ?_
        refine e_iconst (v := nI 0) rfl ic_0N ?_
        refine e_callVp (kd := 4) (M2 := m4_at) rfl v8_51 ok4_at (c4_at r1 hz h24 (by omega) _) rfl (by assumption) rfl rfl rfl rfl ?_
        rw [rAt_nI (by omega) (by omega), t0]
        refine e_iconst (v := nI 2) rfl ic_2N ?_
        first | refine e_icmp_neN (tgt := 50) rfl rfl (by omega) (by omega) (fun z => ?_) (fun z => ?_) | refine e_icmp_ne (tgt := 50) rfl rfl (fun z => ?_) (fun z => ?_)
        · rw [if_neg (c := bitOf c (nI i) = true ∧ T 0 i = nI 2) (fun q => absurd q.2 (by assumption))] at hq
          first | refine e_inc3 rfl rfl rfl (incN1 _) ?_ | refine e_inc3 rfl rfl rfl rfl ?_
          refine e_goto (tgt := 4) rfl rfl ?_
          exact ih (i + 1) v (by omega) hq
        · rw [if_pos (c := bitOf c (nI i) = true ∧ T 0 i = nI 2) ⟨hb1, by assumption⟩] at hq
          refine e_iload_n rfl rfl ?_
          refine e_aload_n rfl rfl ?_
          refine e_getP rfl f8_14 (by assumption) rfl (by assumption) ?_
          refine e_iload_n rfl rfl ?_
          refine e_iconst (v := nI 1) rfl ic_1N ?_
          refine e_callVp (kd := 4) (M2 := m4_at) rfl v8_51 ok4_at (c4_at r1 hz h24 (by omega) _) rfl (by assumption) rfl rfl rfl rfl ?_
          rw [rAt_nI (by omega) (by omega), t1]
          refine e_max rfl v8_54 rfl ?_
          refine e_ist2 rfl rfl rfl ?_
          first | refine e_inc3 rfl rfl rfl (incN1 _) ?_ | refine e_inc3 rfl rfl rfl rfl ?_
          refine e_goto (tgt := 4) rfl rfl ?_
          exact ih (i + 1) _ (by omega) hq
theorem c8_lastSeen (hB : isTold K b) (hR : RT I b m T kn) (c : Int32) : Cp l G (d + 2) m8_lastSeen [.ref b, .int c] (I, J, K) (.int (if nI 60 < lsF T c 0 m (nI 0) then nI 60 else lsF T c 0 m (nI 0))) := by
  refine Cp.of ok8_lastSeen rfl (rfl : argL _ _ = [.ref b, .int c, .null, .null]) ?_
  refine e_iconst (v := nI 0) rfl ic_0N ?_
  refine e_ist2 rfl rfl rfl ?_
  refine e_iconst (v := nI 0) rfl ic_0N ?_
  refine e_ist3 rfl rfl rfl ?_
  exact lastSeen_loop hB hR c m 0 _ (by omega) ⟨rfl, rfl⟩
theorem isSeenSo_loop {s n : Nat} (hB : isTold K b) (hR : RT I b m T kn) (hS : isState K s) (hn : I s 7 = nI n) (h8n : n ≤ 8) (c day : Int32) : ∀ k i v5 v6, i + k = m → Q (some (.int (bI (ssF T c day n (I (s + 1)) i k)))) (I, J, K) → Gw l G (d + 2) m8_isSeenSo 3 [.ref b, .int c, .int day, .ref s, .int (nI i), v5, v6] [] (I, J, K) Q := by
  obtain ⟨h8, p0, r1⟩ := hB
  have q1 := r1.1
  obtain ⟨hm, hz, h24, hc, hk⟩ := hR
  have h6 := hS.1
  have sp0 := hS.2.1
  have sa1 := hS.2.2.2.2.2.2.2.2.1
  intro k
  induction k with
  | zero =>
    intro i v5 v6 hi hq
    refine e_iload rfl rfl ?_
    refine e_aload_n rfl rfl ?_
    refine e_getP rfl f8_14 (by assumption) rfl (by assumption) ?_
    refine e_getI rfl f8_24 (by assumption) rfl ?_
    rw [hz]
    first | refine e_icmp_geN (tgt := 123) rfl rfl (by omega) (by omega) (fun z => ?_) (fun z => ?_) | refine e_icmp_ge (tgt := 123) rfl rfl (fun z => ?_) (fun z => ?_)
    · refine e_iconst (v := nI 1) rfl ic_1N ?_
      refine e_zreturn rfl rfl ?_ ?_
      · exact Or.inr rfl
      · exact hq
    · omega
  | succ k ih =>
    intro i v5 v6 hi hq
    have t0 : I (b + 1 + 2 + 0) i = T 0 i := hc 0 (by omega) i (by omega)
    have t1 : I (b + 1 + 2 + 1) i = T 1 i := hc 1 (by omega) i (by omega)
    have t2 : I (b + 1 + 2 + 2) i = T 2 i := hc 2 (by omega) i (by omega)
    have t3 : I (b + 1 + 2 + 3) i = T 3 i := hc 3 (by omega) i (by omega)
    have next : ∀ v5 v6, ¬ (bitOf c (nI i) = true ∧ T 0 i = nI 2 ∧ T 1 i = day ∧ ¬ ((inN n (T 2 i) = true ∧ I (s + 1) (T 2 i).toNatClampNeg = nI 3) ↔ T 3 i = nI 1)) → Gw l G (d + 2) m8_isSeenSo 117 [.ref b, .int c, .int day, .ref s, .int (nI i), v5, v6] [] (I, J, K) Q := by
      intro v5 v6 hnn
      rw [ssF, if_neg hnn] at hq
      first | refine e_inc4 rfl rfl rfl (incN1 _) ?_ | refine e_inc4 rfl rfl rfl rfl ?_
      refine e_goto (tgt := 3) rfl rfl ?_
      exact ih (i + 1) v5 v6 (by omega) hq
    have last : ∀ (so : Bool) v6, bitOf c (nI i) = true → T 0 i = nI 2 → T 1 i = day → (so = true ↔ (inN n (T 2 i) = true ∧ I (s + 1) (T 2 i).toNatClampNeg = nI 3)) → Gw l G (d + 2) m8_isSeenSo 89 [.ref b, .int c, .int day, .ref s, .int (nI i), .int (T 2 i), v6] [.int (bI so)] (I, J, K) Q := by
      intro so v6 hb1 hs hdy hso
      refine e_ist6 rfl rfl rfl ?_
      refine e_iload rfl rfl ?_
      refine e_aload_n rfl rfl ?_
      refine e_getP rfl f8_14 (by assumption) rfl (by assumption) ?_
      refine e_iload rfl rfl ?_
      refine e_iconst (v := nI 3) rfl ic_3N ?_
      refine e_callVp (kd := 4) (M2 := m4_at) rfl v8_51 ok4_at (c4_at r1 hz h24 (by omega) _) rfl (by assumption) rfl rfl rfl rfl ?_
      rw [rAt_nI (by omega) (by omega), t3]
      have fin : ∀ is : Bool, (is = true ↔ T 3 i = nI 1) → Gw l G (d + 2) m8_isSeenSo 112 [.ref b, .int c, .int day, .ref s, .int (nI i), .int (T 2 i), .int (bI so)] [.int (bI is), .int (bI so)] (I, J, K) Q := by
        intro is his
        first | refine e_icmp_eqN (tgt := 117) rfl rfl (by omega) (by omega) (fun z => ?_) (fun z => ?_) | refine e_icmp_eq (tgt := 117) rfl rfl (fun z => ?_) (fun z => ?_)
        · have e : so = is := by
            have z2 : bI so = bI is := by assumption
            cases so <;> cases is <;> first | rfl | exact absurd z2 (by decide)
          refine next _ _ (fun q => q.2.2.2 ?_)
          rw [← hso, ← his, e]
        · have e : ¬ so = is := fun e => absurd (show bI so = bI is by rw [e]) (by assumption)
          rw [ssF, if_pos ⟨hb1, hs, hdy, fun q => e (by rw [← hso, ← his] at q; exact Bool.eq_iff_iff.mpr q)⟩] at hq
          refine e_iconst (v := nI 0) rfl ic_0N ?_
          refine e_zreturn rfl rfl ?_ ?_
          · exact Or.inl rfl
          · exact hq
      refine e_iconst (v := nI 1) rfl ic_1N ?_
      first | refine e_icmp_neN (tgt := 111) rfl rfl (by omega) (by omega) (fun z => ?_) (fun z => ?_) | refine e_icmp_ne (tgt := 111) rfl rfl (fun z => ?_) (fun z => ?_)
      · refine e_iconst (v := nI 0) rfl ic_0N ?_
        exact fin false ⟨fun q => (by cases q), fun q => absurd q (by assumption)⟩
      · refine e_iconst (v := nI 1) rfl ic_1N ?_
        refine e_goto (tgt := 112) rfl rfl ?_
        exact fin true ⟨fun _ => by assumption, fun _ => rfl⟩
    refine e_iload rfl rfl ?_
    refine e_aload_n rfl rfl ?_
    refine e_getP rfl f8_14 (by assumption) rfl (by assumption) ?_
    refine e_getI rfl f8_24 (by assumption) rfl ?_
    rw [hz]
    first | refine e_icmp_geN (tgt := 123) rfl rfl (by omega) (by omega) (fun z => ?_) (fun z => ?_) | refine e_icmp_ge (tgt := 123) rfl rfl (fun z => ?_) (fun z => ?_)
    · omega
    · refine e_iload_n rfl rfl ?_
      refine e_iload rfl rfl ?_
      refine e_callSNp (M2 := m9_isBit) rfl v8_47 ok9_isBit (c9_isBit c (nI i)) rfl rfl rfl ?_
      first | refine e_if_eqB (tgt := 117) rfl rfl (fun z => ?_) (fun z => ?_) | refine e_if_eqN (tgt := 117) rfl rfl (by omega) (fun z => ?_) (fun z => ?_) | refine e_if_eq (tgt := 117) rfl rfl (fun z => ?_) (fun z => ?_)
      · exact next _ _ (fun q => absurd q.1 (by rw [z]; decide))
      · have hb1 : bitOf c (nI i) = true := by assumption
        refine e_aload_n rfl rfl ?_
        refine e_getP rfl f8_14 (by assumption) rfl (by assumption) ?_
        refine e_iload rfl rfl ?_
        refine e_iconst (v := nI 0) rfl ic_0N ?_
        refine e_callVp (kd := 4) (M2 := m4_at) rfl v8_51 ok4_at (c4_at r1 hz h24 (by omega) _) rfl (by assumption) rfl rfl rfl rfl ?_
        rw [rAt_nI (by omega) (by omega), t0]
        refine e_iconst (v := nI 2) rfl ic_2N ?_
        first | refine e_icmp_neN (tgt := 117) rfl rfl (by omega) (by omega) (fun z => ?_) (fun z => ?_) | refine e_icmp_ne (tgt := 117) rfl rfl (fun z => ?_) (fun z => ?_)
        · exact next _ _ (fun q => absurd q.2.1 (by assumption))
        · have hs2 : T 0 i = nI 2 := by assumption
          refine e_aload_n rfl rfl ?_
          refine e_getP rfl f8_14 (by assumption) rfl (by assumption) ?_
          refine e_iload rfl rfl ?_
          refine e_iconst (v := nI 1) rfl ic_1N ?_
          refine e_callVp (kd := 4) (M2 := m4_at) rfl v8_51 ok4_at (c4_at r1 hz h24 (by omega) _) rfl (by assumption) rfl rfl rfl rfl ?_
          rw [rAt_nI (by omega) (by omega), t1]
          refine e_iload_n rfl rfl ?_
          first | refine e_icmp_neN (tgt := 117) rfl rfl (by omega) (by omega) (fun z => ?_) (fun z => ?_) | refine e_icmp_ne (tgt := 117) rfl rfl (fun z => ?_) (fun z => ?_)
          · exact next _ _ (fun q => absurd q.2.2.1 (by assumption))
          · have hdy : T 1 i = day := by assumption
            refine e_aload_n rfl rfl ?_
            refine e_getP rfl f8_14 (by assumption) rfl (by assumption) ?_
            refine e_iload rfl rfl ?_
            refine e_iconst (v := nI 2) rfl ic_2N ?_
            refine e_callVp (kd := 4) (M2 := m4_at) rfl v8_51 ok4_at (c4_at r1 hz h24 (by omega) _) rfl (by assumption) rfl rfl rfl rfl ?_
            rw [rAt_nI (by omega) (by omega), t2]
            refine e_ist5 rfl rfl rfl ?_
            refine e_aload_n rfl rfl ?_
            refine e_iload rfl rfl ?_
            refine e_callVp (kd := 6) (M2 := m6_has) rfl v8_57 ok6_has (c6_has h6 hn (T 2 i)) rfl (by assumption) rfl rfl rfl rfl ?_
            first | refine e_if_eqB (tgt := 88) rfl rfl (fun z => ?_) (fun z => ?_) | refine e_if_eqN (tgt := 88) rfl rfl (by omega) (fun z => ?_) (fun z => ?_) | refine e_if_eq (tgt := 88) rfl rfl (fun z => ?_) (fun z => ?_)
            · refine e_iconst (v := nI 0) rfl ic_0N ?_
              exact last false _ hb1 hs2 hdy ⟨fun q => (by cases q), fun q => absurd q.1 (by rw [z]; decide)⟩
            · have hin : inN n (T 2 i) = true := by assumption
              obtain ⟨j, hj, ej⟩ := inN_of (by omega) hin
              rw [ej, nI_clamp (by omega)] at last
              rw [ej] at hin
              rw [ej]
              refine e_aload_n rfl rfl ?_
              refine e_getP rfl f8_63 (by assumption) rfl (by assumption) ?_
              refine e_iload rfl rfl ?_
              first | refine e_ialoadN rfl (by assumption) (by omega) (by omega) ?_ | (refine e_iaload rfl (by assumption) ?_ ?_; rotate_left)
              refine e_iconst (v := nI 3) rfl ic_3N ?_
              first | refine e_icmp_neN (tgt := 88) rfl rfl (by omega) (by omega) (fun z => ?_) (fun z => ?_) | refine e_icmp_ne (tgt := 88) rfl rfl (fun z => ?_) (fun z => ?_)
              · refine e_iconst (v := nI 0) rfl ic_0N ?_
                exact last false _ hb1 hs2 hdy ⟨fun q => (by cases q), fun q => absurd q.2 (by assumption)⟩
              · refine e_iconst (v := nI 1) rfl ic_1N ?_
                refine e_goto (tgt := 89) rfl rfl ?_
                exact last true _ hb1 hs2 hdy ⟨fun _ => ⟨hin, by assumption⟩, fun _ => rfl⟩
theorem c8_isSeenSo {s n : Nat} (hB : isTold K b) (hR : RT I b m T kn) (hS : isState K s) (hn : I s 7 = nI n) (h8n : n ≤ 8) (c day : Int32) : Cp l G (d + 2) m8_isSeenSo [.ref b, .int c, .int day, .ref s] (I, J, K) (.int (bI (ssF T c day n (I (s + 1)) 0 m))) := by
  refine Cp.of ok8_isSeenSo rfl (rfl : argL _ _ = [.ref b, .int c, .int day, .ref s, .null, .null, .null]) ?_
  refine e_iconst (v := nI 0) rfl ic_0N ?_
  refine e_ist4 rfl rfl rfl ?_
  exact isSeenSo_loop hB hR hS hn h8n c day m 0 _ _ (by omega) ⟨rfl, rfl⟩
end MTold
