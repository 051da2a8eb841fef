/-! ===== TinNation: tin ===== -/
section Tin0
variable {l : Launch} {G : GG} {d : Nat} {I : IM} {J : JM} {K : Kt} {P : Pl} {S : SM} {n : Nat}
theorem inN_7 {w : Int32} (h : inN 7 w = true) : w = nI 0 ∨ w = nI 1 ∨ w = nI 2 ∨ w = nI 3 ∨ w = nI 4 ∨ w = nI 5 ∨ w = nI 6 := by
  obtain ⟨j, j1, rfl⟩ := inN_is (by omega) h
  rcases (by omega : j = 0 ∨ j = 1 ∨ j = 2 ∨ j = 3 ∨ j = 4 ∨ j = 5 ∨ j = 6) with rfl | rfl | rfl | rfl | rfl | rfl | rfl
  · exact Or.inl rfl
  · exact Or.inr (Or.inl rfl)
  · exact Or.inr (Or.inr (Or.inl rfl))
  · exact Or.inr (Or.inr (Or.inr (Or.inl rfl)))
  · exact Or.inr (Or.inr (Or.inr (Or.inr (Or.inl rfl))))
  · exact Or.inr (Or.inr (Or.inr (Or.inr (Or.inr (Or.inl rfl)))))
  · exact Or.inr (Or.inr (Or.inr (Or.inr (Or.inr (Or.inr rfl)))))
theorem g9_tin (hG : GK K) (hR : RP I 33 P) (hC : RC I J 62 n S) (hn : P.1 1 = n) {t : Nat} (ht : t < n) {w : Int32} (hw : inN 7 w = true) : Gw l G (d + 2) m9_tin 0 [.ref 0, .int (nI t), .int w] [] (I, J, K) (fun r h' => r = some (.int (a_tin P S t w)) ∧ h' = (I, J, K)) := by
  obtain ⟨⟨k9, t0, t2, t3, t4, t5, t6, t7, t9, t10, t11, t12⟩, -, -, -, p33, -, s62, -⟩ := hG
  obtain ⟨h6, q0, q1, q2, q3, q4, q5, q6, a1, a2, a3, a4, a5, a6, a7⟩ := s62
  obtain ⟨h3, o0, o1, o2, o3, o4, r1, r2, r3, r4, r5⟩ := p33
  have r21 := r2.1
  obtain ⟨c1, c2, c3, -⟩ := hC
  obtain ⟨x0, x1, x2, x4, x5⟩ := c3 t ht
  have yes : inN n (nI t) = true := decide_eq_true ⟨nI_pos' (by omega), (nI_ltI (by omega) (by omega)).mpr ht⟩
  have rd : ∀ j, j < 5 → rAt I (33 + 6) n j (nI t) = P.2 (3 + j) t := fun j hj => by
    unfold rAt
    rw [if_pos ⟨nI_pos' (by omega), (nI_ltI (by omega) (by omega)).mpr ht⟩, nI_clamp (by omega)]
    exact hR.2.2.2.2.2.2.1 j hj t (by omega)
  have hs2 : I (33 + 6) 2 = nI n := by rw [← hn]; exact hR.2.2.1.1
  refine e_aload_n rfl rfl ?_
  refine e_getP rfl f9_41 (by assumption) rfl (by assumption) ?_
  refine e_iload_n rfl rfl ?_
  refine e_callVp (kd := 6) (M2 := m6_has) rfl v9_121 ok6_has (c6_has h6 c1 _) rfl (by assumption) rfl rfl rfl rfl ?_
  rw [yes]
  refine e_if_neB (tgt := 21) rfl rfl (fun _ => ?_) (fun z => absurd z (by decide))
  refine e_iload_n rfl rfl ?_
  unfold a_tin
  refine sw9_tin_22 (fun z => ?_) (fun z => ?_) (fun z => ?_) (fun z => ?_) (fun z => ?_) (fun z => ?_) (fun z => ?_) (fun z0 z1 z2 z3 z4 z5 z6 => ?_)
  · rw [z, if_pos rfl]
    refine e_aload_n rfl rfl ?_
    refine e_getP rfl f9_25 (by assumption) rfl (by assumption) ?_
    refine e_getP rfl f9_118 (by assumption) rfl (by assumption) ?_
    refine e_iload_n rfl rfl ?_
    refine e_iconst (v := nI 1) rfl ic_1N ?_
    refine e_callVp (kd := 4) (M2 := m4_at) rfl v9_132 ok4_at (c4_at r2 hs2 c2 (j := 1) (by omega) _) rfl (by assumption) rfl rfl rfl rfl ?_
    refine e_ireturn rfl rfl ?_
    rw [rd 1 (by omega)]
    exact ⟨rfl, rfl⟩
  · rw [z, if_neg (by decide), if_pos rfl]
    refine e_aload_n rfl rfl ?_
    refine e_getP rfl f9_41 (by assumption) rfl (by assumption) ?_
    refine e_getP rfl f9_136 (by assumption) rfl (by assumption) ?_
    refine e_iload_n rfl rfl ?_
    first | refine e_ialoadN rfl (by assumption) (by omega) (by omega) ?_ | (refine e_iaload rfl (by assumption) ?_ ?_; rotate_left)
    rw [show I (62 + 2) t = S 1 t from x1]
    refine e_ireturn rfl rfl ?_
    exact ⟨rfl, rfl⟩
  · rw [z, if_neg (by decide), if_neg (by decide), if_pos rfl]
    refine e_aload_n rfl rfl ?_
    refine e_getP rfl f9_25 (by assumption) rfl (by assumption) ?_
    refine e_getP rfl f9_118 (by assumption) rfl (by assumption) ?_
    refine e_iload_n rfl rfl ?_
    refine e_iconst (v := nI 3) rfl ic_3N ?_
    refine e_callVp (kd := 4) (M2 := m4_at) rfl v9_132 ok4_at (c4_at r2 hs2 c2 (j := 3) (by omega) _) rfl (by assumption) rfl rfl rfl rfl ?_
    refine e_ireturn rfl rfl ?_
    rw [rd 3 (by omega)]
    exact ⟨rfl, rfl⟩
  · rw [z, if_neg (by decide), if_neg (by decide), if_neg (by decide), if_pos rfl]
    refine e_aload_n rfl rfl ?_
    refine e_getP rfl f9_41 (by assumption) rfl (by assumption) ?_
    refine e_getP rfl f9_139 (by assumption) rfl (by assumption) ?_
    refine e_iload_n rfl rfl ?_
    first | refine e_ialoadN rfl (by assumption) (by omega) (by omega) ?_ | (refine e_iaload rfl (by assumption) ?_ ?_; rotate_left)
    rw [show I (62 + 3) t = S 2 t from x2]
    refine e_ireturn rfl rfl ?_
    exact ⟨rfl, rfl⟩
  · rw [z, if_neg (by decide), if_neg (by decide), if_neg (by decide), if_neg (by decide), if_pos rfl]
    refine e_aload_n rfl rfl ?_
    refine e_getP rfl f9_41 (by assumption) rfl (by assumption) ?_
    refine e_getP rfl f9_142 (by assumption) rfl (by assumption) ?_
    refine e_iload_n rfl rfl ?_
    first | refine e_ialoadN rfl (by assumption) (by omega) (by omega) ?_ | (refine e_iaload rfl (by assumption) ?_ ?_; rotate_left)
    rw [show I (62 + 1) t = S 0 t from x0]
    refine e_ireturn rfl rfl ?_
    exact ⟨rfl, rfl⟩
  · rw [z, if_neg (by decide), if_neg (by decide), if_neg (by decide), if_neg (by decide), if_neg (by decide), if_pos rfl]
    refine e_aload_n rfl rfl ?_
    refine e_getP rfl f9_41 (by assumption) rfl (by assumption) ?_
    refine e_getP rfl f9_145 (by assumption) rfl (by assumption) ?_
    refine e_iload_n rfl rfl ?_
    first | refine e_ialoadN rfl (by assumption) (by omega) (by omega) ?_ | (refine e_iaload rfl (by assumption) ?_ ?_; rotate_left)
    rw [show I (62 + 5) t = S 4 t from x4]
    refine e_ireturn rfl rfl ?_
    exact ⟨rfl, rfl⟩
  · rw [z, if_neg (by decide), if_neg (by decide), if_neg (by decide), if_neg (by decide), if_neg (by decide), if_neg (by decide)]
    refine e_aload_n rfl rfl ?_
    refine e_getP rfl f9_41 (by assumption) rfl (by assumption) ?_
    refine e_getP rfl f9_148 (by assumption) rfl (by assumption) ?_
    refine e_iload_n rfl rfl ?_
    first | refine e_ialoadN rfl (by assumption) (by omega) (by omega) ?_ | (refine e_iaload rfl (by assumption) ?_ ?_; rotate_left)
    rw [show I (62 + 6) t = S 5 t from x5]
    refine e_ireturn rfl rfl ?_
    exact ⟨rfl, rfl⟩
  · exfalso
    rcases inN_7 hw with q | q | q | q | q | q | q
    · exact z0 q
    · exact z1 q
    · exact z2 q
    · exact z3 q
    · exact z4 q
    · exact z5 q
    · exact z6 q
end Tin0
