/-! ===== the reference: a token ===== -/
/-- place of the class's word k in the reference's list -/
def mwF (k : Nat) : Nat := if k ≤ 10 then k else if k ≤ 17 then k + 3 else 31 - k
def mwG (q : Nat) : Nat := if q ≤ 10 then q else if q ≤ 13 then 31 - q else q - 3
theorem mw_all : ∀ k, k < 21 → mwF k < 21 ∧ mwG (mwF k) = k ∧ mwG k < 21 ∧ mwF (mwG k) = k := by decide
theorem wd_inj : ∀ a, a < 21 → ∀ b, b < 21 → wd a = wd b → a = b := by decide +kernel
theorem wd_pk : ∀ k, k < 21 → wd k = mnV wb (wst (mwF k)) (wln (mwF k)) 6 := by decide +kernel
theorem mnV_inj {f g : Nat → Nat} {p q a b : Nat} (hf : ∀ j, j < a → isL (f (p + j)) = true) (hg : ∀ j, j < b → isL (g (q + j)) = true) : ∀ k, mnV f p a k = mnV g q b k → ∀ j, j < k → (if j < a then f (p + j) - 96 else 0) = (if j < b then g (q + j) - 96 else 0)
  | 0, _, j, hj => absurd hj (by omega)
  | k + 1, h, j, hj => by
    have dg : ∀ (f : Nat → Nat) (p a : Nat), (∀ j, j < a → isL (f (p + j)) = true) → ∀ k, (if k < a then f (p + k) - 96 else 0) < 32 := by
      intro f p a hf k
      split
      · have := of_decide_eq_true (hf k (by assumption)); omega
      · omega
    have d1 := dg f p a hf k
    have d2 := dg g q b hg k
    rw [mnV, mnV] at h
    by_cases e : j = k
    · rw [e]; omega
    · exact mnV_inj hf hg k (by omega) j (by omega)
theorem wb_L {q : Nat} (hq : q < 21) : ∀ j, j < wln q → isL (wb (wst q + j)) = true := fun j hj => by
  have w := w_st q hq
  exact decide_eq_true (w_let q hq j (by omega) hj)
/-- the word and its number -/
theorem isW_iff {f : Nat → Nat} {p e k : Nat} (hk : k < 21) (hp : p ≤ e) (h6 : e - p ≤ 6) (hL : ∀ j, j < e - p → isL (f (p + j)) = true) : isW f p e (mwF k) ↔ wd k = pkV f p (e - p) := by
  have hm := (mw_all k hk).1
  have w := w_st (mwF k) hm
  rw [← mnV_pk h6, wd_pk k hk]
  constructor
  · intro h
    have el : e - p = wln (mwF k) := by have := h.1; omega
    rw [el]
    have : ∀ i, mnV wb (wst (mwF k)) (wln (mwF k)) i = mnV f p (wln (mwF k)) i := by
      intro i
      induction i with
      | zero => rfl
      | succ i ih =>
        rw [mnV, mnV, ih]
        by_cases c : i < wln (mwF k)
        · rw [if_pos c, if_pos c, h.2 i c]
        · rw [if_neg c, if_neg c]
    exact this 6
  · intro h
    have inj := mnV_inj (wb_L hm) hL 6 h
    have el : e - p = wln (mwF k) := by
      by_cases c : wln (mwF k) < e - p
      · have i1 := inj (wln (mwF k)) (by omega)
        rw [if_neg (by omega), if_pos c] at i1
        have := of_decide_eq_true (hL _ c)
        omega
      · by_cases c2 : e - p < wln (mwF k)
        · have i1 := inj (e - p) (by omega)
          rw [if_neg (show ¬ e - p < e - p by omega), if_pos c2] at i1
          have := of_decide_eq_true (wb_L hm _ c2)
          omega
        · omega
    refine ⟨by omega, fun j hj => ?_⟩
    have i1 := inj j (by omega)
    rw [if_pos hj, if_pos (by omega)] at i1
    have := of_decide_eq_true (wb_L hm _ hj)
    have := of_decide_eq_true (hL j (by omega))
    omega
theorem wdT_is {v : Nat} : ∀ k i, (∃ j, i ≤ j ∧ j < i + k ∧ wd j = v ∧ wdT v k i = nI (j + 1)) ∨ ((∀ j, i ≤ j → j < i + k → ¬ wd j = v) ∧ wdT v k i = nI 22)
  | 0, i => Or.inr ⟨fun j a b => absurd b (by omega), rfl⟩
  | k + 1, i => by
    rw [wdT]
    by_cases c : wd i = v
    · rw [if_pos c]; exact Or.inl ⟨i, by omega, by omega, c, rfl⟩
    · rw [if_neg c]
      rcases wdT_is (v := v) k (i + 1) with ⟨j, a, b, e, g⟩ | ⟨a, b⟩
      · exact Or.inl ⟨j, by omega, by omega, e, g⟩
      · exact Or.inr ⟨fun j h1 h2 => if e : j = i then by rw [e]; exact c else a j (by omega) (by omega), b⟩
/-- the class's token tk, va; the reference's sort, value -/
def tkR (tk va so vl : Int32) : Prop :=
  (tk = nI 0 ∧ so = nI 4) ∨ (∃ k, k < 21 ∧ tk = nI (k + 1) ∧ so = nI 0 ∧ vl = nI (mwF k)) ∨ (tk = nI 22 ∧ so = nI 1 ∧ vl = va) ∨
  (tk = nI 23 ∧ so = nI 2 ∧ ∃ v w, va = nI v ∧ vl = nI w ∧ v ≤ 1000000 ∧ w ≤ 1000000 ∧ (v = w ∨ 99999 < v ∧ 99999 < w)) ∨ (tk = -1 ∧ so = nI 5) ∨
  (so = nI 3 ∧ vl = svF tk ∧ ((∃ c, c ∈ sgL ∧ tk = nI c) ∨ tk = nI 256 ∨ tk = nI 257 ∨ tk = nI 258))
/-- the reference's number -/
def mdF (f : Nat → Nat) : Nat → Nat → Nat → Nat
  | 0, _, v => v
  | k + 1, i, v => if isD (f i) = true then mdF f k (i + 1) (if 99999 < v then v else 10 * v + (f i - 48)) else v
theorem mdF_r {f : Nat → Nat} : ∀ k i v w, v ≤ 1000000 → w ≤ 1000000 → (v = w ∨ 99999 < v ∧ 99999 < w) → nmF f k i v ≤ 1000000 ∧ mdF f k i w ≤ 1000000 ∧ (nmF f k i v = mdF f k i w ∨ 99999 < nmF f k i v ∧ 99999 < mdF f k i w)
  | 0, _, _, _, h1, h2, h3 => ⟨h1, h2, h3⟩
  | k + 1, i, v, w, h1, h2, h3 => by
    rw [nmF, mdF]
    by_cases c : isD (f i) = true
    · rw [if_pos c, if_pos c]
      have := of_decide_eq_true c
      by_cases e : 99999 < w
      · rw [if_pos e]
        exact mdF_r k (i + 1) _ _ (by omega) (by omega) (by omega)
      · rw [if_neg e]
        exact mdF_r k (i + 1) _ _ (by omega) (by omega) (by omega)
    · rw [if_neg c, if_neg c]; exact ⟨h1, h2, h3⟩
theorem sg_tkR {c x : Nat} (hc : c < 256) (va : Int32) : tkR (sgT c x) va (if sgT c x = -1 then nI 5 else nI 3) (if sgT c x = -1 then nI c else svF (sgT c x)) := by
  by_cases q : sgT c x = -1
  · rw [if_pos q, if_pos q]
    exact Or.inr (Or.inr (Or.inr (Or.inr (Or.inl ⟨q, rfl⟩))))
  · rw [if_neg q, if_neg q]
    refine Or.inr (Or.inr (Or.inr (Or.inr (Or.inr ⟨rfl, rfl, ?_⟩))))
    unfold sgT at q ⊢
    split
    · exact Or.inr (Or.inl rfl)
    · split
      · exact Or.inr (Or.inr (Or.inl rfl))
      · split
        · exact Or.inr (Or.inr (Or.inr rfl))
        · next a b g =>
          rw [if_neg a, if_neg b, if_neg g] at q
          split
          · next h => exact Or.inl ⟨c, List.contains_iff_mem.mp h, rfl⟩
          · next h => rw [if_neg h] at q; exact absurd rfl q
section MToken
variable {l : Launch} {G : GG} {d : Nat} {I : IM} {J : JM} {K : Kt} {h : Hp} {Q : Option Value → Hp → Prop} {f : Nat → Nat} {n : Nat}
theorem mblank_loop (hM : MK K) {I0 : IM} (hn : n ≤ 700) (hsz : I0 102 23 = nI n) (hf : ∀ j, j < n → I0 103 j = nI (f j)) (h256 : ∀ j, f j < 256) : ∀ k i I, i + k = n → (∀ c x, ¬ (c = 102 ∧ x = 24) → I c x = I0 c x) → I 102 24 = nI i → (∀ I', (∀ c x, ¬ (c = 102 ∧ x = 24) → I' c x = I0 c x) → I' 102 24 = nI (enF isB f k i) → ∀ v, Gw l G (d + 5) m10_token 31 [.ref 102, v] [] (I', J, K) Q) → ∀ v, Gw l G (d + 5) m10_token 0 [.ref 102, v] [] (I, J, K) Q := by
  intro k
  induction k with
  | zero =>
    intro i I hi g hat kk v
    obtain rfl : i = n := by omega
    have hr : Cp l G (d + 4) m10_here [.ref 102] (I, J, K) (.int (hrF f i i)) := c10_here hM (by rw [g 102 23 (by omega)]; exact hsz) hat hn (by omega) (fun j hj => by rw [g 103 j (by omega)]; exact hf j hj)
    have e10 : ¬ hrF f i i = nI 10 := fun q => by have := (hr_eq h256 (by omega) (by omega)).mp q; rw [if_neg (by omega)] at this; omega
    have e32 : ¬ hrF f i i = nI 32 := fun q => by have := (hr_eq h256 (by omega) (by omega)).mp q; rw [if_neg (by omega)] at this; omega
    refine e_aload_n rfl rfl ?_
    refine e_callVp (kd := 10) (M2 := m10_here) rfl v10_163 ok10_here (hr) rfl hM.k rfl rfl rfl rfl ?_
    refine e_bipush (v := nI 10) rfl bp_10N ?_
    refine e_icmp_eq (tgt := 18) rfl rfl (fun z => absurd z e10) (fun _ => ?_)
    refine e_aload_n rfl rfl ?_
    refine e_callVp (kd := 10) (M2 := m10_here) rfl v10_163 ok10_here (hr) rfl hM.k rfl rfl rfl rfl ?_
    refine e_bipush (v := nI 32) rfl bp_32N ?_
    refine e_icmp_ne (tgt := 31) rfl rfl (fun _ => ?_) (fun z => absurd z e32)
    exact kk I g hat _
  | succ k ih =>
    intro i I hi g hat kk v
    have hr : Cp l G (d + 4) m10_here [.ref 102] (I, J, K) (.int (hrF f n i)) := c10_here hM (by rw [g 102 23 (by omega)]; exact hsz) hat hn (by omega) (fun j hj => by rw [g 103 j (by omega)]; exact hf j hj)
    have e10 : hrF f n i = nI 10 ↔ f i = 10 := by rw [hr_eq h256 (by omega) (by omega), if_pos (by omega)]
    have e32 : hrF f n i = nI 32 ↔ f i = 32 := by rw [hr_eq h256 (by omega) (by omega), if_pos (by omega)]
    rw [enF] at kk
    have adv : isB (f i) = true → Gw l G (d + 5) m10_token 18 [.ref 102, v] [] (I, J, K) Q := by
      intro y
      rw [if_pos y] at kk
      refine e_aload_n rfl rfl ?_
      refine e_dup rfl rfl ?_
      refine e_getI rfl f10_157 hM.k rfl ?_
      rw [hat]
      refine e_iconst (v := nI 1) rfl ic_1N ?_
      first | refine e_iaddN rfl ?_ | refine e_iadd rfl ?_
      refine e_putI rfl f10_157 hM.k rfl rfl ?_
      refine e_goto (tgt := 0) rfl rfl ?_
      exact ih (i + 1) _ (by omega) (fun c x q => (if_neg q).trans (g c x q)) (u2_at _ _ _ _) kk _
    refine e_aload_n rfl rfl ?_
    refine e_callVp (kd := 10) (M2 := m10_here) rfl v10_163 ok10_here (hr) rfl hM.k rfl rfl rfl rfl ?_
    refine e_bipush (v := nI 10) rfl bp_10N ?_
    refine e_icmp_eq (tgt := 18) rfl rfl (fun z => adv (decide_eq_true (Or.inl (e10.mp z)))) (fun z10 => ?_)
    refine e_aload_n rfl rfl ?_
    refine e_callVp (kd := 10) (M2 := m10_here) rfl v10_163 ok10_here (hr) rfl hM.k rfl rfl rfl rfl ?_
    refine e_bipush (v := nI 32) rfl bp_32N ?_
    refine e_icmp_ne (tgt := 31) rfl rfl (fun z => ?_) (fun z => adv (decide_eq_true (Or.inr (e32.mp z))))
    rw [if_neg (fun q => (of_decide_eq_true q).elim (fun w => z10 (e10.mpr w)) (fun w => z (e32.mpr w)))] at kk
    exact kk I g hat _
theorem mlet_loop (hM : MK K) {I0 : IM} (hn : n ≤ 700) (hsz : I0 102 23 = nI n) (hf : ∀ j, j < n → I0 103 j = nI (f j)) (h256 : ∀ j, f j < 256) {v : Value} : ∀ k i I, i + k = n → (∀ c x, ¬ (c = 102 ∧ x = 24) → I c x = I0 c x) → I 102 24 = nI i → (∀ I', (∀ c x, ¬ (c = 102 ∧ x = 24) → I' c x = I0 c x) → I' 102 24 = nI (enF isL f k i) → Gw l G (d + 5) m10_token 87 [.ref 102, v] [] (I', J, K) Q) → Gw l G (d + 5) m10_token 64 [.ref 102, v] [] (I, J, K) Q := by
  intro k
  induction k with
  | zero =>
    intro i I hi g hat kk
    obtain rfl : i = n := by omega
    have hr : Cp l G (d + 4) m10_here [.ref 102] (I, J, K) (.int (hrF f i i)) := c10_here hM (by rw [g 102 23 (by omega)]; exact hsz) hat hn (by omega) (fun j hj => by rw [g 103 j (by omega)]; exact hf j hj)
    refine e_aload_n rfl rfl ?_
    refine e_callVp (kd := 10) (M2 := m10_here) rfl v10_163 ok10_here (hr) rfl hM.k rfl rfl rfl rfl ?_
    refine e_callSp (M2 := m10_isSmall) rfl v10_173 ok10_isSmall (c10_isSmall _) rfl rfl rfl ?_
    rw [hr_L h256, decide_eq_false (by omega), Bool.false_and]
    refine e_if_eqB (tgt := 87) rfl rfl (fun _ => ?_) (fun z => absurd z (by decide))
    exact kk I g hat
  | succ k ih =>
    intro i I hi g hat kk
    have hr : Cp l G (d + 4) m10_here [.ref 102] (I, J, K) (.int (hrF f n i)) := c10_here hM (by rw [g 102 23 (by omega)]; exact hsz) hat hn (by omega) (fun j hj => by rw [g 103 j (by omega)]; exact hf j hj)
    rw [enF] at kk
    refine e_aload_n rfl rfl ?_
    refine e_callVp (kd := 10) (M2 := m10_here) rfl v10_163 ok10_here (hr) rfl hM.k rfl rfl rfl rfl ?_
    refine e_callSp (M2 := m10_isSmall) rfl v10_173 ok10_isSmall (c10_isSmall _) rfl rfl rfl ?_
    rw [hr_L h256, decide_eq_true (by omega), Bool.true_and]
    refine e_if_eqB (tgt := 87) rfl rfl (fun z => ?_) (fun z => ?_)
    · rw [if_neg (by rw [z]; decide)] at kk
      exact kk I g hat
    · rw [if_pos z] at kk
      refine e_aload_n rfl rfl ?_
      refine e_dup rfl rfl ?_
      refine e_getI rfl f10_157 hM.k rfl ?_
      rw [hat]
      refine e_iconst (v := nI 1) rfl ic_1N ?_
      first | refine e_iaddN rfl ?_ | refine e_iadd rfl ?_
      refine e_putI rfl f10_157 hM.k rfl rfl ?_
      refine e_goto (tgt := 64) rfl rfl ?_
      exact ih (i + 1) _ (by omega) (fun c x q => (if_neg q).trans (g c x q)) (u2_at _ _ _ _) kk
theorem mdig_loop (hM : MK K) {I0 : IM} (hn : n ≤ 700) (hsz : I0 102 23 = nI n) (hf : ∀ j, j < n → I0 103 j = nI (f j)) (h256 : ∀ j, f j < 256) {v1 : Value} : ∀ k i v I, i + k = n → v ≤ 1000000 → (∀ c x, ¬ (c = 102 ∧ (x = 24 ∨ x = 27)) → I c x = I0 c x) → I 102 24 = nI i → I 102 27 = nI v → (∀ I', (∀ c x, ¬ (c = 102 ∧ (x = 24 ∨ x = 27)) → I' c x = I0 c x) → I' 102 24 = nI (enF isD f k i) → I' 102 27 = nI (mdF f k i v) → Gw l G (d + 5) m10_token 225 [.ref 102, v1] [] (I', J, K) Q) → Gw l G (d + 5) m10_token 162 [.ref 102, v1] [] (I, J, K) Q := by
  intro k
  induction k with
  | zero =>
    intro i v I hi hv g hat h27 kk
    obtain rfl : i = n := by omega
    have hr : Cp l G (d + 4) m10_here [.ref 102] (I, J, K) (.int (hrF f i i)) := c10_here hM (by rw [g 102 23 (by omega)]; exact hsz) hat hn (by omega) (fun j hj => by rw [g 103 j (by omega)]; exact hf j hj)
    refine e_aload_n rfl rfl ?_
    refine e_callVp (kd := 10) (M2 := m10_here) rfl v10_163 ok10_here (hr) rfl hM.k rfl rfl rfl rfl ?_
    refine e_callSp (M2 := m10_isDigit) rfl v10_186 ok10_isDigit (c10_isDigit _) rfl rfl rfl ?_
    rw [hr_D h256, decide_eq_false (by omega), Bool.false_and]
    refine e_if_eqB (tgt := 225) rfl rfl (fun _ => ?_) (fun z => absurd z (by decide))
    exact kk I g hat h27
  | succ k ih =>
    intro i v I hi hv g hat h27 kk
    have hr : Cp l G (d + 4) m10_here [.ref 102] (I, J, K) (.int (hrF f n i)) := c10_here hM (by rw [g 102 23 (by omega)]; exact hsz) hat hn (by omega) (fun j hj => by rw [g 103 j (by omega)]; exact hf j hj)
    rw [enF, mdF] at kk
    refine e_aload_n rfl rfl ?_
    refine e_callVp (kd := 10) (M2 := m10_here) rfl v10_163 ok10_here (hr) rfl hM.k rfl rfl rfl rfl ?_
    refine e_callSp (M2 := m10_isDigit) rfl v10_186 ok10_isDigit (c10_isDigit _) rfl rfl rfl ?_
    rw [hr_D h256, decide_eq_true (by omega), Bool.true_and]
    refine e_if_eqB (tgt := 225) rfl rfl (fun z => ?_) (fun z => ?_)
    · rw [if_neg (by rw [z]; decide), if_neg (by rw [z]; decide)] at kk
      exact kk I g hat h27
    · rw [if_pos z, if_pos z] at kk
      have hd := of_decide_eq_true z
      have tail : ∀ w, w ≤ 1000000 → (if 99999 < v then v else 10 * v + (f i - 48)) = w → Gw l G (d + 5) m10_token 204 [.ref 102, v1] [.int (nI w), .ref 102] (I, J, K) Q := by
        intro w hw ew
        rw [ew] at kk
        refine e_putI rfl f10_180 hM.k rfl rfl ?_
        refine e_aload_n rfl rfl ?_
        refine e_dup rfl rfl ?_
        refine e_getI rfl f10_157 hM.k rfl ?_
        rw [u2_nk _ _ (by omega), hat]
        refine e_iconst (v := nI 1) rfl ic_1N ?_
        first | refine e_iaddN rfl ?_ | refine e_iadd rfl ?_
        refine e_putI rfl f10_157 hM.k rfl rfl ?_
        refine e_goto (tgt := 162) rfl rfl ?_
        exact ih (i + 1) w _ (by omega) hw (fun c x q => (if_neg (fun e => q ⟨e.1, Or.inl e.2⟩)).trans ((if_neg (fun e => q ⟨e.1, Or.inr e.2⟩)).trans (g c x q))) (u2_at _ _ _ _) (by rw [u2_nk _ _ (by omega), u2_at]) kk
      refine e_aload_n rfl rfl ?_
      refine e_aload_n rfl rfl ?_
      refine e_getI rfl f10_180 hM.k rfl ?_
      rw [h27]
      refine e_ldc rfl k10_189 ?_
      rw [show (99999 : Int32) = nI 99999 by decide]
      first | refine e_icmp_leN (tgt := 189) rfl rfl (by omega) (by omega) (fun z => ?_) (fun z => ?_) | refine e_icmp_le (tgt := 189) rfl rfl (fun z => ?_) (fun z => ?_)
      · refine e_bipush (v := nI 10) rfl bp_10N ?_
        refine e_aload_n rfl rfl ?_
        refine e_getI rfl f10_180 hM.k rfl ?_
        rw [h27]
        first | refine e_imulN rfl ?_ | refine e_imul rfl ?_
        refine e_aload_n rfl rfl ?_
        refine e_callVp (kd := 10) (M2 := m10_here) rfl v10_163 ok10_here (hr) rfl hM.k rfl rfl rfl rfl ?_
        rw [hrF, if_pos (show i < n by omega)]
        first | refine e_iaddN rfl ?_ | refine e_iadd rfl ?_
        refine e_bipush (v := nI 48) rfl bp_48N ?_
        first | refine e_isubN rfl (by omega) ?_ | refine e_isub rfl ?_
        rw [show 10 * v + f i - 48 = 10 * v + (f i - 48) by omega]
        exact tail _ (by omega) (if_neg (by omega))
      · refine e_aload_n rfl rfl ?_
        refine e_getI rfl f10_180 hM.k rfl ?_
        rw [h27]
        refine e_goto (tgt := 204) rfl rfl ?_
        exact tail v hv (if_pos (by assumption))
end MToken
