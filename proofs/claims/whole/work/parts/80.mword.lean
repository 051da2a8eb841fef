/-! ===== the reference: words ===== -/
def wbL : List Nat := [107, 105, 110, 100, 32, 116, 105, 110, 32, 111, 112, 101, 110, 32, 119, 97, 110, 116, 32, 107, 101, 121, 115, 32, 114, 117, 115, 116, 32, 115, 101, 101, 100, 32, 108, 97, 119, 32, 102, 114, 101, 115, 104, 32, 103, 108, 111, 114, 121, 32, 98, 108, 111, 119, 32, 111, 114, 32, 97, 110, 100, 32, 110, 111, 116, 32, 100, 101, 110, 116, 115, 32, 107, 101, 101, 112, 115, 32, 119, 101, 105, 103, 104, 116, 32, 115, 111, 117, 110, 100, 32, 119, 111, 114, 116, 104, 32, 108, 101, 102, 116, 32, 100, 97, 121, 32]
def wb (k : Nat) : Nat := wbL.getD k 0
def wsL : List Nat := [0, 5, 9, 14, 19, 24, 29, 34, 38, 44, 50, 55, 58, 62, 66, 72, 78, 85, 91, 97, 102, 106]
def wst (i : Nat) : Nat := wsL.getD i 0
def wln (i : Nat) : Nat := wst (i + 1) - wst i - 1
theorem str4 : (m10_word.1.cls, 194, "kind tin open want keys rust seed law fresh glory blow or and not dents keeps weight sound worth left day ", 4) ∈ strs := List.Mem.tail _ (List.Mem.tail _ (List.Mem.tail _ (List.Mem.tail _ (List.Mem.head _))))
theorem ch4 : ∀ k, k < 106 → chS 4 k = nI (wb k) := by decide +kernel
theorem w_st : ∀ i, i < 21 → wst (i + 1) = wst i + wln i + 1 ∧ 1 ≤ wln i ∧ wln i ≤ 6 ∧ wst i + wln i < 106 ∧ wb (wst i + wln i) = 32 := by decide +kernel
theorem w_let : ∀ i, i < 21 → ∀ j, j < 6 → j < wln i → 97 ≤ wb (wst i + j) ∧ wb (wst i + j) ≤ 122 := by decide +kernel
/-- it is this word -/
def isW (f : Nat → Nat) (p e i : Nat) : Prop := e = p + wln i ∧ ∀ j, j < wln i → f (p + j) = wb (wst i + j)
section MWord
variable {l : Launch} {G : GG} {d : Nat} {I : IM} {J : JM} {K : Kt} {h : Hp} {Q : Option Value → Hp → Prop} {f : Nat → Nat} {n p e : Nat}
theorem mcmp_loop (hM : MK K) (hn : n ≤ 700) (hp : p ≤ e) (he : e ≤ n) (hf : ∀ j, j < n → I 103 j = nI (f j)) (h256 : ∀ j, f j < 256) (hat : I 102 24 = nI e) (hpl : I 102 25 = nI p) {q : Nat} (hq : q < 21) (ky : isW f p e q → ∀ v, Gw l G (d + 4) m10_word 95 [.ref 102, .int (nI q), .int (nI (wst q)), v] [] (I, J, K) Q) (kn : ¬ isW f p e q → ∀ v, Gw l G (d + 4) m10_word 97 [.ref 102, .int (nI q), .int (nI (wst q)), v] [] (I, J, K) Q) : ∀ k i, i + k = wln q → p + i ≤ e → (∀ j, j < i → f (p + j) = wb (wst q + j)) → Gw l G (d + 4) m10_word 15 [.ref 102, .int (nI q), .int (nI (wst q)), .int (nI i)] [] (I, J, K) Q := by
  obtain ⟨w1, w2, w3, w4, w5⟩ := w_st q hq
  have out : ∀ i, i ≤ wln q → ¬ (wb (wst q + i) = 32 ∧ p + i = e) → (isW f p e q → wb (wst q + i) = 32 ∧ p + i = e) → Gw l G (d + 4) m10_word 69 [.ref 102, .int (nI q), .int (nI (wst q)), .int (nI i)] [] (I, J, K) Q := by
    intro i hi h1 h2
    have hw := ch4 (wst q + i) (by omega)
    have no : ∀ v, Gw l G (d + 4) m10_word 97 [.ref 102, .int (nI q), .int (nI (wst q)), v] [] (I, J, K) Q := kn (fun w => h1 (h2 w))
    have hb : wb (wst q + i) < 256 := by
      have hall : ∀ k, k < 106 → wb k < 256 := by decide +kernel
      exact hall _ (by omega)
    refine e_ldcS (j := 4) rfl str4 ?_
    refine e_iload_n rfl rfl ?_
    refine e_iload_n rfl rfl ?_
    first | refine e_iaddN rfl ?_ | refine e_iadd rfl ?_
    refine e_callVSp (M2 := mS_charAt) (as := [.int (nI (wst q + i))]) (by omega) rfl v10_201 okS_charAt (cS_charAt (j := 4) (by omega) (show wst q + i < 106 by omega)) rfl rfl rfl rfl ?_
    rw [hw]
    refine e_bipush (v := nI 32) rfl bp_32N ?_
    first | refine e_icmp_neN (tgt := 97) rfl rfl (by omega) (by omega) (fun z => ?_) (fun z => ?_) | refine e_icmp_ne (tgt := 97) rfl rfl (fun z => ?_) (fun z => ?_)
    · exact no _
    · refine e_aload_n rfl rfl ?_
      refine e_getI rfl f10_167 hM.k rfl ?_
      rw [hpl]
      refine e_iload_n rfl rfl ?_
      first | refine e_iaddN rfl ?_ | refine e_iadd rfl ?_
      refine e_aload_n rfl rfl ?_
      refine e_getI rfl f10_157 hM.k rfl ?_
      rw [hat]
      first | refine e_icmp_neN (tgt := 97) rfl rfl (by omega) (by omega) (fun z => ?_) (fun z => ?_) | refine e_icmp_ne (tgt := 97) rfl rfl (fun z => ?_) (fun z => ?_)
      · exact no _
      · exact absurd ⟨by assumption, by assumption⟩ h1
  intro k
  induction k with
  | zero =>
    intro i hi hle hj
    obtain rfl : i = wln q := by omega
    have hw := ch4 (wst q + wln q) (by omega)
    rw [w5] at hw
    refine e_ldcS (j := 4) rfl str4 ?_
    refine e_iload_n rfl rfl ?_
    refine e_iload_n rfl rfl ?_
    first | refine e_iaddN rfl ?_ | refine e_iadd rfl ?_
    refine e_callVSp (M2 := mS_charAt) (as := [.int (nI (wst q + wln q))]) (by omega) rfl v10_201 okS_charAt (cS_charAt (j := 4) (by omega) (show wst q + wln q < 106 by omega)) rfl rfl rfl rfl ?_
    rw [hw]
    refine e_bipush (v := nI 32) rfl bp_32N ?_
    first | refine e_icmp_eqN (tgt := 69) rfl rfl (by omega) (by omega) (fun z => ?_) (fun z => ?_) | refine e_icmp_eq (tgt := 69) rfl rfl (fun z => ?_) (fun z => ?_)
    · by_cases c : p + wln q = e
      · refine e_ldcS (j := 4) rfl str4 ?_
        refine e_iload_n rfl rfl ?_
        refine e_iload_n rfl rfl ?_
        first | refine e_iaddN rfl ?_ | refine e_iadd rfl ?_
        refine e_callVSp (M2 := mS_charAt) (as := [.int (nI (wst q + wln q))]) (by omega) rfl v10_201 okS_charAt (cS_charAt (j := 4) (by omega) (show wst q + wln q < 106 by omega)) rfl rfl rfl rfl ?_
        rw [hw]
        refine e_bipush (v := nI 32) rfl bp_32N ?_
        first | refine e_icmp_neN (tgt := 97) rfl rfl (by omega) (by omega) (fun z => ?_) (fun z => ?_) | refine e_icmp_ne (tgt := 97) rfl rfl (fun z => ?_) (fun z => ?_)
        · omega
        · refine e_aload_n rfl rfl ?_
          refine e_getI rfl f10_167 hM.k rfl ?_
          rw [hpl]
          refine e_iload_n rfl rfl ?_
          first | refine e_iaddN rfl ?_ | refine e_iadd rfl ?_
          refine e_aload_n rfl rfl ?_
          refine e_getI rfl f10_157 hM.k rfl ?_
          rw [hat]
          first | refine e_icmp_neN (tgt := 97) rfl rfl (by omega) (by omega) (fun z => ?_) (fun z => ?_) | refine e_icmp_ne (tgt := 97) rfl rfl (fun z => ?_) (fun z => ?_)
          · omega
          · exact ky ⟨c.symm, hj⟩ _
      · exact out (wln q) (by omega) (fun w => c w.2) (fun w => absurd w.1.symm c)
    · omega
  | succ k ih =>
    intro i hi hle hj
    have hw := ch4 (wst q + i) (by omega)
    have hl := w_let q hq i (by omega) (by omega)
    refine e_ldcS (j := 4) rfl str4 ?_
    refine e_iload_n rfl rfl ?_
    refine e_iload_n rfl rfl ?_
    first | refine e_iaddN rfl ?_ | refine e_iadd rfl ?_
    refine e_callVSp (M2 := mS_charAt) (as := [.int (nI (wst q + i))]) (by omega) rfl v10_201 okS_charAt (cS_charAt (j := 4) (by omega) (show wst q + i < 106 by omega)) rfl rfl rfl rfl ?_
    rw [hw]
    refine e_bipush (v := nI 32) rfl bp_32N ?_
    first | refine e_icmp_eqN (tgt := 69) rfl rfl (by omega) (by omega) (fun z => ?_) (fun z => ?_) | refine e_icmp_eq (tgt := 69) rfl rfl (fun z => ?_) (fun z => ?_)
    · omega
    · refine e_aload_n rfl rfl ?_
      refine e_getI rfl f10_167 hM.k rfl ?_
      rw [hpl]
      refine e_iload_n rfl rfl ?_
      first | refine e_iaddN rfl ?_ | refine e_iadd rfl ?_
      refine e_aload_n rfl rfl ?_
      refine e_getI rfl f10_157 hM.k rfl ?_
      rw [hat]
      first | refine e_icmp_geN (tgt := 69) rfl rfl (by omega) (by omega) (fun z => ?_) (fun z => ?_) | refine e_icmp_ge (tgt := 69) rfl rfl (fun z => ?_) (fun z => ?_)
      · exact out i (by omega) (fun w => absurd w.1 (by omega)) (fun w => absurd w.1 (by omega))
      · have hlt : p + i < e := by assumption
        have h5 := h256 (p + i)
        refine e_aload_n rfl rfl ?_
        refine e_getP rfl f10_7 hM.k rfl hM.p1 ?_
        refine e_aload_n rfl rfl ?_
        refine e_getI rfl f10_167 hM.k rfl ?_
        rw [hpl]
        refine e_iload_n rfl rfl ?_
        first | refine e_iaddN rfl ?_ | refine e_iadd rfl ?_
        first | refine e_ialoadN rfl hM.a1 (by omega) (by omega) ?_ | (refine e_iaload rfl hM.a1 ?_ ?_; rotate_left)
        rw [hf (p + i) (by omega)]
        refine e_ldcS (j := 4) rfl str4 ?_
        refine e_iload_n rfl rfl ?_
        refine e_iload_n rfl rfl ?_
        first | refine e_iaddN rfl ?_ | refine e_iadd rfl ?_
        refine e_callVSp (M2 := mS_charAt) (as := [.int (nI (wst q + i))]) (by omega) rfl v10_201 okS_charAt (cS_charAt (j := 4) (by omega) (show wst q + i < 106 by omega)) rfl rfl rfl rfl ?_
        rw [hw]
        first | refine e_icmp_neN (tgt := 69) rfl rfl (by omega) (by omega) (fun z => ?_) (fun z => ?_) | refine e_icmp_ne (tgt := 69) rfl rfl (fun z => ?_) (fun z => ?_)
        · have y : f (p + i) ≠ wb (wst q + i) := by assumption
          exact out i (by omega) (fun w => absurd w.1 (by omega)) (fun w => absurd (w.2 i (by omega)) y)
        · have y : f (p + i) = wb (wst q + i) := by assumption
          first | refine e_inc3 rfl rfl rfl (incN1 _) ?_ | refine e_inc3 rfl rfl rfl rfl ?_
          refine e_goto (tgt := 15) rfl rfl ?_
          exact ih (i + 1) (by omega) (by omega) (fun j a => if w : j = i then by rw [w]; exact y else hj j (by omega))
theorem mskip_loop (hM : MK K) {q : Nat} (hq : q < 21) {v : Value} (kk : Gw l G (d + 4) m10_word 4 [.ref 102, .int (nI (q + 1)), .int (nI (wst (q + 1))), v] [] (I, J, K) Q) : ∀ k i, i + k = wln q → Gw l G (d + 4) m10_word 97 [.ref 102, .int (nI q), .int (nI (wst q + i)), v] [] (I, J, K) Q := by
  obtain ⟨w1, w2, w3, w4, w5⟩ := w_st q hq
  intro k
  induction k with
  | zero =>
    intro i hi
    obtain rfl : i = wln q := by omega
    have hw := ch4 (wst q + wln q) (by omega)
    rw [w5] at hw
    refine e_ldcS (j := 4) rfl str4 ?_
    refine e_iload_n rfl rfl ?_
    refine e_callVSp (M2 := mS_charAt) (as := [.int (nI (wst q + wln q))]) (by omega) rfl v10_201 okS_charAt (cS_charAt (j := 4) (by omega) (show wst q + wln q < 106 by omega)) rfl rfl rfl rfl ?_
    rw [hw]
    refine e_bipush (v := nI 32) rfl bp_32N ?_
    first | refine e_icmp_eqN (tgt := 114) rfl rfl (by omega) (by omega) (fun z => ?_) (fun z => ?_) | refine e_icmp_eq (tgt := 114) rfl rfl (fun z => ?_) (fun z => ?_)
    · first | refine e_inc2 rfl rfl rfl (incN1 _) ?_ | refine e_inc2 rfl rfl rfl rfl ?_
      first | refine e_inc1 rfl rfl rfl (incN1 _) ?_ | refine e_inc1 rfl rfl rfl rfl ?_
      refine e_goto (tgt := 4) rfl rfl ?_
      rw [← w1]
      exact kk
    · omega
  | succ k ih =>
    intro i hi
    have hw := ch4 (wst q + i) (by omega)
    have hl := w_let q hq i (by omega) (by omega)
    refine e_ldcS (j := 4) rfl str4 ?_
    refine e_iload_n rfl rfl ?_
    refine e_callVSp (M2 := mS_charAt) (as := [.int (nI (wst q + i))]) (by omega) rfl v10_201 okS_charAt (cS_charAt (j := 4) (by omega) (show wst q + i < 106 by omega)) rfl rfl rfl rfl ?_
    rw [hw]
    refine e_bipush (v := nI 32) rfl bp_32N ?_
    first | refine e_icmp_eqN (tgt := 114) rfl rfl (by omega) (by omega) (fun z => ?_) (fun z => ?_) | refine e_icmp_eq (tgt := 114) rfl rfl (fun z => ?_) (fun z => ?_)
    · omega
    · first | refine e_inc2 rfl rfl rfl (incN1 _) ?_ | refine e_inc2 rfl rfl rfl rfl ?_
      refine e_goto (tgt := 97) rfl rfl ?_
      exact ih (i + 1) (by omega)
theorem mword_loop (hM : MK K) (hn : n ≤ 700) (hp : p ≤ e) (he : e ≤ n) (hf : ∀ j, j < n → I 103 j = nI (f j)) (h256 : ∀ j, f j < 256) (hat : I 102 24 = nI e) (hpl : I 102 25 = nI p) (ky : ∀ q, q < 21 → isW f p e q → Q (some (.int (nI q))) (I, J, K)) : ∀ k q v, q + k = 21 → (∀ j, j < q → ¬ isW f p e j) → ((∀ j, j < 21 → ¬ isW f p e j) → Q (some (.int (-1))) (I, J, K)) → Gw l G (d + 4) m10_word 4 [.ref 102, .int (nI q), .int (nI (wst q)), v] [] (I, J, K) Q := by
  intro k
  induction k with
  | zero =>
    intro q v hq hj kn
    obtain rfl : q = 21 := by omega
    refine e_iload_n rfl rfl ?_
    refine e_ldcS (j := 4) rfl str4 ?_
    refine e_callVSp (M2 := mS_length) (as := []) (by omega) rfl v10_196 okS_length (cS_length (j := 4) (d := d + 2) (by omega)) rfl rfl rfl rfl ?_
    refine e_icmp_geN (tgt := 123) rfl rfl (by decide) (by decide) (fun z => ?_) (fun z => absurd z (by decide))
    refine e_iconst rfl ic_m1 ?_
    refine e_ireturn rfl rfl ?_
    exact kn hj
  | succ k ih =>
    intro q v hq hj kn
    obtain ⟨w1, w2, w3, w4, w5⟩ := w_st q (by omega)
    refine e_iload_n rfl rfl ?_
    refine e_ldcS (j := 4) rfl str4 ?_
    refine e_callVSp (M2 := mS_length) (as := []) (by omega) rfl v10_196 okS_length (cS_length (j := 4) (d := d + 2) (by omega)) rfl rfl rfl rfl ?_
    rw [show lenS.getD 4 0 = 106 from rfl]
    refine e_icmp_geN (tgt := 123) rfl rfl (by omega) (by omega) (fun z => absurd z (by omega)) (fun z => ?_)
    refine e_iconst (v := nI 0) rfl ic_0N ?_
    refine e_ist3 rfl rfl rfl ?_
    refine mcmp_loop hM hn hp he hf h256 hat hpl (by omega) (fun w v => ?_) (fun w v => ?_) (wln q) 0 (by omega) (by omega) (fun j a => absurd a (by omega))
    · refine e_iload_n rfl rfl ?_
      refine e_ireturn rfl rfl ?_
      exact ky q (by omega) w
    · have := mskip_loop (d := d) (l := l) (G := G) (I := I) (J := J) (Q := Q) (v := v) hM (q := q) (by omega) (ih (q + 1) _ (by omega) (fun j a => if w2 : j = q then by rw [w2]; exact w else hj j (by omega)) kn) (wln q) 0 (by omega)
      exact this
theorem c10_word (hM : MK K) (hn : n ≤ 700) (hp : p ≤ e) (he : e ≤ n) (hf : ∀ j, j < n → I 103 j = nI (f j)) (h256 : ∀ j, f j < 256) (hat : I 102 24 = nI e) (hpl : I 102 25 = nI p) : Cw l G (d + 4) m10_word [.ref 102] (I, J, K) (fun r h' => h' = (I, J, K) ∧ ((∃ q, q < 21 ∧ isW f p e q ∧ r = some (.int (nI q))) ∨ ((∀ q, q < 21 → ¬ isW f p e q) ∧ r = some (.int (-1))))) := by
  refine Cw.of ok10_word rfl (rfl : argL _ _ = [.ref 102, .null, .null, .null]) ?_
  refine e_iconst (v := nI 0) rfl ic_0N ?_
  refine e_ist1 rfl rfl rfl ?_
  refine e_iconst (v := nI 0) rfl ic_0N ?_
  refine e_ist2 rfl rfl rfl ?_
  exact mword_loop hM hn hp he hf h256 hat hpl (fun q a b => ⟨rfl, Or.inl ⟨q, a, b, rfl⟩⟩) 21 0 _ (by omega) (fun j a => absurd a (by omega)) (fun w => ⟨rfl, Or.inr ⟨w, rfl⟩⟩)
end MWord
