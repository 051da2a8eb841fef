/-! ===== the reference: signs ===== -/
/-- how the reference writes a sign -/
def svF (t : Int32) : Int32 := if t = nI 257 then nI 258 else if t = nI 258 then nI 257 else t
def nxC (f : Nat → Nat) (n p : Nat) : Nat := if p + 1 < n then f (p + 1) else 0
theorem sv_small {c : Nat} (h : c < 256) : svF (nI c) = nI c := by
  unfold svF
  rw [if_neg (fun q => absurd ((nI_eq (by omega) (by omega)).mp q) (by omega)), if_neg (fun q => absurd ((nI_eq (by omega) (by omega)).mp q) (by omega))]
theorem sg_pl {c nx : Nat} (hc : c < 256) (h1 : ¬ (c = 60 ∧ nx = 61)) (h2 : ¬ (c = 62 ∧ nx = 61)) (h3 : ¬ (c = 60 ∧ nx = 62)) : (nI 256 ≤ nI c ↔ nI 256 ≤ sgT c nx) ∧ nI c = (if sgT c nx = -1 then nI c else svF (sgT c nx)) := by
  unfold sgT
  rw [if_neg h1, if_neg h2, if_neg h3]
  have a : ¬ nI 256 ≤ nI c := fun q => absurd ((nI_leI (by omega) (by omega)).mp q) (by omega)
  by_cases q : sgL.contains c = true
  · rw [if_pos q, if_neg (nI_m1 (by omega)), sv_small hc]
    exact ⟨Iff.rfl, rfl⟩
  · rw [if_neg q, if_pos rfl]
    exact ⟨⟨fun w => absurd w a, fun w => absurd w (by decide)⟩, rfl⟩
section MSign
variable {l : Launch} {G : GG} {d : Nat} {I : IM} {J : JM} {K : Kt} {h : Hp} {Q : Option Value → Hp → Prop} {f : Nat → Nat} {n p : Nat}
theorem hr_eq {a v : Nat} (h256 : ∀ j, f j < 256) (hv : v < 256) (h0 : 0 < v) : hrF f n a = nI v ↔ (if a < n then f a else 0) = v := by
  unfold hrF
  have := h256 a
  by_cases c : a < n
  · rw [if_pos c, if_pos c, nI_eq (by omega) (by omega)]
  · rw [if_neg c, if_neg c]
    exact ⟨fun q => absurd q.symm (nI_m1 (by omega)), fun q => absurd q (by omega)⟩
/-- the rest of a sign, its sort known -/
theorem msign_tail (hM : MK K) (hsz : I 102 23 = nI n) (hn : n ≤ 700) (hp : p < n) (hf : ∀ j, j < n → I 103 j = nI (f j)) (h256 : ∀ j, f j < 256) (hat : I 102 24 = nI (p + 1)) (kk : ∀ I', (∀ c k, ¬ (c = 102 ∧ (k = 24 ∨ k = 27)) → I' c k = I c k) → I' 102 24 = nI (if nI 256 ≤ sgT (f p) (nxC f n p) then p + 2 else p + 1) → I' 102 27 = (if sgT (f p) (nxC f n p) = -1 then nI (f p) else svF (sgT (f p) (nxC f n p))) → Q none (I', J, K)) : Gw l G (d + 1) m10_sign 79 [.ref 102, .int (nI (f p))] [] (I, J, K) Q := by
  have hc := h256 p
  have fin : ∀ (v : Int32) I1, (∀ c k, ¬ (c = 102 ∧ k = 27) → I1 c k = I c k) → I1 102 27 = v → (nI 256 ≤ v ↔ nI 256 ≤ sgT (f p) (nxC f n p)) → v = (if sgT (f p) (nxC f n p) = -1 then nI (f p) else svF (sgT (f p) (nxC f n p))) → Gw l G (d + 1) m10_sign 150 [.ref 102, .int (nI (f p))] [] (I1, J, K) Q := by
    intro v I1 g1 e1 h1 h2
    have a1 : I1 102 24 = nI (p + 1) := by rw [g1 102 24 (by omega)]; exact hat
    refine e_aload_n rfl rfl ?_
    refine e_getI rfl f10_180 hM.k rfl ?_
    rw [e1]
    refine e_sipush (v := nI 256) rfl sp_256N ?_
    refine e_icmp_lt (tgt := 170) rfl rfl (fun z => ?_) (fun z => ?_)
    · refine e_return rfl rfl ?_
      exact kk I1 (fun c k q => g1 c k (fun w => q ⟨w.1, Or.inr w.2⟩)) (by rw [if_neg (fun q => absurd (h1.mpr q) (Int32.not_le.mpr z))]; exact a1) (e1.trans h2)
    · refine e_aload_n rfl rfl ?_
      refine e_dup rfl rfl ?_
      refine e_getI rfl f10_157 hM.k rfl ?_
      rw [a1]
      refine e_iconst (v := nI 1) rfl ic_1N ?_
      first | refine e_iaddN rfl ?_ | refine e_iadd rfl ?_
      refine e_putI rfl f10_157 hM.k rfl rfl ?_
      refine e_return rfl rfl ?_
      exact kk _ (fun c k q => by rw [u2, if_neg (fun w => q ⟨w.1, Or.inl w.2⟩)]; exact g1 c k (fun w => q ⟨w.1, Or.inr w.2⟩)) (by rw [u2_at, if_pos (h1.mp (Int32.not_lt.mp z))]) (by rw [u2_nk _ _ (by omega)]; exact e1.trans h2)
  have g27 : ∀ v c k, ¬ (c = 102 ∧ k = 27) → u2 I 102 27 v c k = I c k := fun v c k q => if_neg q
  have hr : ∀ I1, (∀ c k, ¬ (c = 102 ∧ k = 27) → I1 c k = I c k) → Cp l G d m10_here [.ref 102] (I1, J, K) (.int (hrF f n (p + 1))) := fun I1 g1 => c10_here hM (by rw [g1 102 23 (by omega)]; exact hsz) (by rw [g1 102 24 (by omega)]; exact hat) hn (by omega) (fun j hj => by rw [g1 103 j (by omega)]; exact hf j hj)
  have h61 : hrF f n (p + 1) = nI 61 ↔ nxC f n p = 61 := hr_eq h256 (by omega) (by omega)
  have h62 : hrF f n (p + 1) = nI 62 ↔ nxC f n p = 62 := hr_eq h256 (by omega) (by omega)
  refine e_aload_n rfl rfl ?_
  refine e_iload_n rfl rfl ?_
  refine e_putI rfl f10_180 hM.k rfl rfl ?_
  refine e_iload_n rfl rfl ?_
  refine e_bipush (v := nI 60) rfl bp_60N ?_
  first | refine e_icmp_neN (tgt := 106) rfl rfl (by omega) (by omega) (fun z => ?_) (fun z => ?_) | refine e_icmp_ne (tgt := 106) rfl rfl (fun z => ?_) (fun z => ?_)
  · have y0 : f p ≠ 60 := by assumption
    refine e_iload_n rfl rfl ?_
    refine e_bipush (v := nI 60) rfl bp_60N ?_
    first | refine e_icmp_neN (tgt := 128) rfl rfl (by omega) (by omega) (fun z => ?_) (fun z => ?_) | refine e_icmp_ne (tgt := 128) rfl rfl (fun z => ?_) (fun z => ?_)
    · refine e_iload_n rfl rfl ?_
      refine e_bipush (v := nI 62) rfl bp_62N ?_
      first | refine e_icmp_neN (tgt := 150) rfl rfl (by omega) (by omega) (fun z => ?_) (fun z => ?_) | refine e_icmp_ne (tgt := 150) rfl rfl (fun z => ?_) (fun z => ?_)
      · have y2 : f p ≠ 62 := by assumption
        obtain ⟨k1, k2⟩ := sg_pl (c := f p) (nx := nxC f n p) hc (fun q => y0 q.1) (fun q => y2 q.1) (fun q => y0 q.1)
        exact fin _ _ (g27 _) (u2_at _ _ _ _) k1 k2
      · have y2 : f p = 62 := by assumption
        refine e_aload_n rfl rfl ?_
        refine e_callVp (kd := 10) (M2 := m10_here) rfl v10_163 ok10_here (hr _ (g27 _)) rfl hM.k rfl rfl rfl rfl ?_
        refine e_bipush (v := nI 61) rfl bp_61N ?_
        refine e_icmp_ne (tgt := 150) rfl rfl (fun z => ?_) (fun z => ?_)
        · obtain ⟨k1, k2⟩ := sg_pl (c := f p) (nx := nxC f n p) hc (fun q => y0 q.1) (fun q => z (h61.mpr q.2)) (fun q => y0 q.1)
          exact fin _ _ (g27 _) (u2_at _ _ _ _) k1 k2
        · have es : sgT (f p) (nxC f n p) = nI 257 := by
            unfold sgT
            rw [if_neg (fun q => y0 q.1), if_pos ⟨y2, h61.mp z⟩]
          refine e_aload_n rfl rfl ?_
          refine e_sipush (v := nI 258) rfl sp_258N ?_
          refine e_putI rfl f10_180 hM.k rfl rfl ?_
          exact fin (nI 258) _ (fun c k q => (if_neg q).trans (g27 _ c k q)) (u2_at _ _ _ _) (by rw [es]; decide) (by rw [es, if_neg (by decide)]; decide)
    · omega
  · have y0 : f p = 60 := by assumption
    refine e_aload_n rfl rfl ?_
    refine e_callVp (kd := 10) (M2 := m10_here) rfl v10_163 ok10_here (hr _ (g27 _)) rfl hM.k rfl rfl rfl rfl ?_
    refine e_bipush (v := nI 61) rfl bp_61N ?_
    refine e_icmp_ne (tgt := 106) rfl rfl (fun zh => ?_) (fun zh => ?_)
    · refine e_iload_n rfl rfl ?_
      refine e_bipush (v := nI 60) rfl bp_60N ?_
      first | refine e_icmp_neN (tgt := 128) rfl rfl (by omega) (by omega) (fun z => ?_) (fun z => ?_) | refine e_icmp_ne (tgt := 128) rfl rfl (fun z => ?_) (fun z => ?_)
      · omega
      · refine e_aload_n rfl rfl ?_
        refine e_callVp (kd := 10) (M2 := m10_here) rfl v10_163 ok10_here (hr _ (g27 _)) rfl hM.k rfl rfl rfl rfl ?_
        refine e_bipush (v := nI 62) rfl bp_62N ?_
        refine e_icmp_ne (tgt := 128) rfl rfl (fun z2 => ?_) (fun z2 => ?_)
        · obtain ⟨k1, k2⟩ := sg_pl (c := f p) (nx := nxC f n p) hc (fun q => zh (h61.mpr q.2)) (fun q => absurd q.1 (by omega)) (fun q => z2 (h62.mpr q.2))
          refine e_iload_n rfl rfl ?_
          refine e_bipush (v := nI 62) rfl bp_62N ?_
          first | refine e_icmp_neN (tgt := 150) rfl rfl (by omega) (by omega) (fun z => ?_) (fun z => ?_) | refine e_icmp_ne (tgt := 150) rfl rfl (fun z => ?_) (fun z => ?_)
          · exact fin _ _ (g27 _) (u2_at _ _ _ _) k1 k2
          · omega
        · have es : sgT (f p) (nxC f n p) = nI 258 := by
            unfold sgT
            rw [if_neg (fun q => zh (h61.mpr q.2)), if_neg (fun q => absurd q.1 (by omega)), if_pos ⟨y0, h62.mp z2⟩]
          refine e_aload_n rfl rfl ?_
          refine e_sipush (v := nI 257) rfl sp_257N ?_
          refine e_putI rfl f10_180 hM.k rfl rfl ?_
          refine e_iload_n rfl rfl ?_
          refine e_bipush (v := nI 62) rfl bp_62N ?_
          first | refine e_icmp_neN (tgt := 150) rfl rfl (by omega) (by omega) (fun z => ?_) (fun z => ?_) | refine e_icmp_ne (tgt := 150) rfl rfl (fun z => ?_) (fun z => ?_)
          · exact fin (nI 257) _ (fun c k q => (if_neg q).trans (g27 _ c k q)) (u2_at _ _ _ _) (by rw [es]; decide) (by rw [es, if_neg (by decide)]; decide)
          · omega
    · have es : sgT (f p) (nxC f n p) = nI 256 := by
        unfold sgT
        rw [if_pos ⟨y0, h61.mp zh⟩]
      refine e_aload_n rfl rfl ?_
      refine e_sipush (v := nI 256) rfl sp_256N ?_
      refine e_putI rfl f10_180 hM.k rfl rfl ?_
      refine e_iload_n rfl rfl ?_
      refine e_bipush (v := nI 60) rfl bp_60N ?_
      first | refine e_icmp_neN (tgt := 128) rfl rfl (by omega) (by omega) (fun z => ?_) (fun z => ?_) | refine e_icmp_ne (tgt := 128) rfl rfl (fun z => ?_) (fun z => ?_)
      · omega
      · refine e_aload_n rfl rfl ?_
        refine e_callVp (kd := 10) (M2 := m10_here) rfl v10_163 ok10_here (hr _ (fun c k q => (if_neg q).trans (g27 _ c k q))) rfl hM.k rfl rfl rfl rfl ?_
        refine e_bipush (v := nI 62) rfl bp_62N ?_
        refine e_icmp_ne (tgt := 128) rfl rfl (fun z2 => ?_) (fun z2 => absurd ((h62.mp z2).symm.trans (h61.mp zh)) (by omega))
        refine e_iload_n rfl rfl ?_
        refine e_bipush (v := nI 62) rfl bp_62N ?_
        first | refine e_icmp_neN (tgt := 150) rfl rfl (by omega) (by omega) (fun z => ?_) (fun z => ?_) | refine e_icmp_ne (tgt := 150) rfl rfl (fun z => ?_) (fun z => ?_)
        · exact fin (nI 256) _ (fun c k q => (if_neg q).trans (g27 _ c k q)) (u2_at _ _ _ _) (by rw [es]) (by rw [es, if_neg (by decide)]; decide)
        · omega
theorem c10_sign (hM : MK K) (hsz : I 102 23 = nI n) (hn : n ≤ 700) (hp : p < n) (hf : ∀ j, j < n → I 103 j = nI (f j)) (h256 : ∀ j, f j < 256) (hat : I 102 24 = nI p) : Cw l G (d + 1) m10_sign [.ref 102, .int (nI (f p))] (I, J, K) (fun r h' => r = none ∧ ∃ I', h' = (I', J, K) ∧ (∀ c k, ¬ (c = 102 ∧ (k = 24 ∨ k = 26 ∨ k = 27)) → I' c k = I c k) ∧ I' 102 24 = nI (if nI 256 ≤ sgT (f p) (nxC f n p) then p + 2 else p + 1) ∧ I' 102 26 = (if sgT (f p) (nxC f n p) = -1 then nI 5 else nI 3) ∧ I' 102 27 = (if sgT (f p) (nxC f n p) = -1 then nI (f p) else svF (sgT (f p) (nxC f n p)))) := by
  have hc := h256 p
  have fin : ∀ so, (if sgT (f p) (nxC f n p) = -1 then nI 5 else nI 3) = so → Gw l G (d + 1) m10_sign 76 [.ref 102, .int (nI (f p))] [.int so, .ref 102] (u2 I 102 24 (nI (p + 1)), J, K) (fun r h' => r = none ∧ ∃ I', h' = (I', J, K) ∧ (∀ c k, ¬ (c = 102 ∧ (k = 24 ∨ k = 26 ∨ k = 27)) → I' c k = I c k) ∧ I' 102 24 = nI (if nI 256 ≤ sgT (f p) (nxC f n p) then p + 2 else p + 1) ∧ I' 102 26 = (if sgT (f p) (nxC f n p) = -1 then nI 5 else nI 3) ∧ I' 102 27 = (if sgT (f p) (nxC f n p) = -1 then nI (f p) else svF (sgT (f p) (nxC f n p)))) := by
    intro so e
    have row : ∀ c k, ¬ (c = 102 ∧ (k = 24 ∨ k = 26 ∨ k = 27)) → u2 (u2 I 102 24 (nI (p + 1))) 102 26 so c k = I c k := fun c k q => by rw [u2, if_neg (fun w => q ⟨w.1, Or.inr (Or.inl w.2)⟩), u2, if_neg (fun w => q ⟨w.1, Or.inl w.2⟩)]
    refine e_putI rfl f10_170 hM.k rfl rfl ?_
    refine msign_tail hM (by rw [row 102 23 (by omega)]; exact hsz) hn hp (fun j hj => by rw [row 103 j (by omega)]; exact hf j hj) h256 (by rw [u2_nk _ _ (by omega), u2_at]) (fun I1 k1 k2 k3 => ⟨rfl, I1, rfl, fun c k q => ?_, k2, ?_, k3⟩)
    · rw [k1 c k (fun w => q ⟨w.1, w.2.elim Or.inl (fun z => Or.inr (Or.inr z))⟩)]; exact row c k q
    · rw [k1 102 26 (by omega), u2_at, e]
  have ns : ∀ q : Bool, sgL.contains (f p) = q → (if sgT (f p) (nxC f n p) = -1 then nI 5 else nI 3) = (if q = true then nI 3 else nI 5) := by
    intro q hq
    unfold sgT
    by_cases w1 : f p = 60 ∧ nxC f n p = 61
    · rw [if_pos w1, if_neg (by decide), ← hq, w1.1]; rfl
    · rw [if_neg w1]
      by_cases w2 : f p = 62 ∧ nxC f n p = 61
      · rw [if_pos w2, if_neg (by decide), ← hq, w2.1]; rfl
      · rw [if_neg w2]
        by_cases w3 : f p = 60 ∧ nxC f n p = 62
        · rw [if_pos w3, if_neg (by decide), ← hq, w3.1]; rfl
        · rw [if_neg w3, hq]
          by_cases q1 : q = true
          · rw [if_pos q1, if_pos q1, if_neg (nI_m1 (by omega))]
          · rw [if_neg q1, if_neg q1, if_pos rfl]
  have yes : sgL.contains (f p) = true → Gw l G (d + 1) m10_sign 71 [.ref 102, .int (nI (f p))] [.ref 102] (u2 I 102 24 (nI (p + 1)), J, K) (fun r h' => r = none ∧ ∃ I', h' = (I', J, K) ∧ (∀ c k, ¬ (c = 102 ∧ (k = 24 ∨ k = 26 ∨ k = 27)) → I' c k = I c k) ∧ I' 102 24 = nI (if nI 256 ≤ sgT (f p) (nxC f n p) then p + 2 else p + 1) ∧ I' 102 26 = (if sgT (f p) (nxC f n p) = -1 then nI 5 else nI 3) ∧ I' 102 27 = (if sgT (f p) (nxC f n p) = -1 then nI (f p) else svF (sgT (f p) (nxC f n p)))) := fun q => by
    refine e_iconst (v := nI 3) rfl ic_3N ?_
    refine e_goto (tgt := 76) rfl rfl ?_
    exact fin _ (ns true q)
  have no : sgL.contains (f p) = false → Gw l G (d + 1) m10_sign 75 [.ref 102, .int (nI (f p))] [.ref 102] (u2 I 102 24 (nI (p + 1)), J, K) (fun r h' => r = none ∧ ∃ I', h' = (I', J, K) ∧ (∀ c k, ¬ (c = 102 ∧ (k = 24 ∨ k = 26 ∨ k = 27)) → I' c k = I c k) ∧ I' 102 24 = nI (if nI 256 ≤ sgT (f p) (nxC f n p) then p + 2 else p + 1) ∧ I' 102 26 = (if sgT (f p) (nxC f n p) = -1 then nI 5 else nI 3) ∧ I' 102 27 = (if sgT (f p) (nxC f n p) = -1 then nI (f p) else svF (sgT (f p) (nxC f n p)))) := fun q => by
    refine e_iconst (v := nI 5) rfl ic_5N ?_
    exact fin _ (ns false q)
  refine Cw.of ok10_sign rfl (rfl : argL _ _ = [.ref 102, .int (nI (f p))]) ?_
  refine e_aload_n rfl rfl ?_
  refine e_dup rfl rfl ?_
  refine e_getI rfl f10_157 hM.k rfl ?_
  rw [hat]
  refine e_iconst (v := nI 1) rfl ic_1N ?_
  first | refine e_iaddN rfl ?_ | refine e_iadd rfl ?_
  refine e_putI rfl f10_157 hM.k rfl rfl ?_
  refine e_aload_n rfl rfl ?_
  refine e_iload_n rfl rfl ?_
  refine e_bipush (v := nI 59) rfl bp_59N ?_
  refine e_icmp_eqN (tgt := 71) rfl rfl (by omega) (by omega) (fun z => yes (by rw [z]; rfl)) (fun z59 => ?_)
  refine e_iload_n rfl rfl ?_
  refine e_bipush (v := nI 40) rfl bp_40N ?_
  refine e_icmp_eqN (tgt := 71) rfl rfl (by omega) (by omega) (fun z => yes (by rw [z]; rfl)) (fun z40 => ?_)
  refine e_iload_n rfl rfl ?_
  refine e_bipush (v := nI 41) rfl bp_41N ?_
  refine e_icmp_eqN (tgt := 71) rfl rfl (by omega) (by omega) (fun z => yes (by rw [z]; rfl)) (fun z41 => ?_)
  refine e_iload_n rfl rfl ?_
  refine e_bipush (v := nI 43) rfl bp_43N ?_
  refine e_icmp_eqN (tgt := 71) rfl rfl (by omega) (by omega) (fun z => yes (by rw [z]; rfl)) (fun z43 => ?_)
  refine e_iload_n rfl rfl ?_
  refine e_bipush (v := nI 45) rfl bp_45N ?_
  refine e_icmp_eqN (tgt := 71) rfl rfl (by omega) (by omega) (fun z => yes (by rw [z]; rfl)) (fun z45 => ?_)
  refine e_iload_n rfl rfl ?_
  refine e_bipush (v := nI 42) rfl bp_42N ?_
  refine e_icmp_eqN (tgt := 71) rfl rfl (by omega) (by omega) (fun z => yes (by rw [z]; rfl)) (fun z42 => ?_)
  refine e_iload_n rfl rfl ?_
  refine e_bipush (v := nI 47) rfl bp_47N ?_
  refine e_icmp_eqN (tgt := 71) rfl rfl (by omega) (by omega) (fun z => yes (by rw [z]; rfl)) (fun z47 => ?_)
  refine e_iload_n rfl rfl ?_
  refine e_bipush (v := nI 60) rfl bp_60N ?_
  refine e_icmp_eqN (tgt := 71) rfl rfl (by omega) (by omega) (fun z => yes (by rw [z]; rfl)) (fun z60 => ?_)
  refine e_iload_n rfl rfl ?_
  refine e_bipush (v := nI 61) rfl bp_61N ?_
  refine e_icmp_eqN (tgt := 71) rfl rfl (by omega) (by omega) (fun z => yes (by rw [z]; rfl)) (fun z61 => ?_)
  refine e_iload_n rfl rfl ?_
  refine e_bipush (v := nI 62) rfl bp_62N ?_
  refine e_icmp_neN (tgt := 75) rfl rfl (by omega) (by omega) (fun z62 => no ?_) (fun z => yes (by rw [z]; rfl))
  refine Bool.eq_false_iff.mpr (fun q => ?_)
  have q : f p ∈ ([40, 41, 42, 43, 45, 47, 59, 60, 61, 62] : List Nat) := List.contains_iff_mem.mp q
  simp only [List.mem_cons, List.not_mem_nil, or_false] at q
  omega
end MSign
