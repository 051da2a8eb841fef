/-! ===== the law: its beginning ===== -/
theorem It0_a : It0 0 1 = nI 0 ∧ It0 0 8 = bI false ∧ It0 2 3 = nI 0 ∧ It0 2 4 = -1 ∧ RPm It0 3 ∧ (It0 87 0 = nI 24 ∧ It0 87 2 = nI 0 ∧ It0 86 1 = -1) ∧ It0 94 0 = nI 20 ∧ It0 94 2 = nI 0 := by unfold RPm; decide +kernel
theorem It0_w : ∀ k, k < 21 → It0 31 k = nI (wd k) := by decide +kernel
theorem MI.hi' {I I' : IM} {P : Pl} {S : SM} {im : Bool} {SI : SM} {m : Nat} {T : SM} {kn : Int32} {u : Nat} {Hs : Nat → SM} {B : Nat} (h : MI I P S im SI m T kn u Hs B) (g : ∀ c, 102 ≤ c → c ≤ 144 → I' c = I c) : MI I' P S im SI m T kn u Hs B :=
  h.mk' (Nat.le_refl _) (fun c a b => g c (by omega) (by omega)) (h.2.2.1.frame h.2.1.1.1.2.1 (fun c i o => by rw [g c (by unfold onF at o; omega) (by unfold onF at o; omega)])) (fun f c i a b o => by rw [g c (by unfold onF at o; omega) (by unfold onF at o; omega)]) (fun c a b => g c (by omega) (by omega)) (fun k a b _ _ => by rw [g 102 (by omega) (by omega)])
section LawStart
variable {l : Launch} {G : GG} {d : Nat}
theorem Inv.first {I : IM} {J : JM} (hA : ∀ c, (c < 62 ∨ 69 < c ∧ c < 102) → I c = It0 c) (hC : RC I J 62 (P00.1 1) (beg P00)) (hH : HC I 62 (P00.1 1) 8) (hM : MI I P00 (beg P00) false (fun _ _ => 0) 0 (fun _ _ => 0) (-1) 0 (fun _ _ _ => 0) 8) (hQ : TQ I 0 (fun _ => 0) 0 (-1)) : Inv (I, J, K2) 8 := by
  obtain ⟨a1, a2, a3, a4, ⟨m1, m2, m3, m4⟩, ⟨b1, b2, b3⟩, c1, c2⟩ := It0_a
  refine ⟨I, J, K2, P00, beg P00, false, _, 0, _, -1, 0, _, 0, fun _ => 0, 0, -1, rfl, ⟨K2_G, K2_M, K2_o, by rw [K2_N]; omega⟩, ?_, ?_, hM, hQ, OS.fresh P00_X.1⟩
  · refine ⟨Kt0_P.frame (fun c a b => hA c (by omega)), WF_wfP P00_X.1 P00_X.2.1, hC, hH, by rw [hA 0 (by omega)]; exact a2, fun q => absurd q (by decide), ⟨by rw [hA _ (by omega)]; exact b1, by rw [hA _ (by omega)]; exact b2, by omega, fun j hj i hi => absurd hi (by omega), by rw [hA _ (by omega)]; exact b3⟩, fun _ _ => 0, ⟨by rw [hA _ (by omega)]; exact c1, by rw [hA _ (by omega)]; exact c2, by omega, fun j hj i hi => absurd hi (by omega)⟩, trivial⟩
  · exact ⟨by rw [hA 0 (by omega)]; exact a1, by omega, fun j hj => absurd hj (by omega), fun _ => (by decide : 0 < 256), fun k hk => by rw [hA 31 (by omega)]; exact It0_w k hk, ⟨by rw [hA _ (by omega)]; exact m1, by rw [hA _ (by omega)]; exact m2, by rw [hA _ (by omega)]; exact m3, by rw [hA _ (by omega)]; exact m4⟩, by rw [hA 2 (by omega)]; exact a3, by rw [hA 2 (by omega)]; exact a4⟩
theorem law_go (hl : l.stackTraces = false) (hL : gL G ≤ 3072) : GL l G d mL_0 0 0 0 [.retAddr 100, .null, .null, .null, .null, .null, .null] [] e0 := by
  obtain ⟨h1, k1, I1, J1, q1, f1, f2, C1, H1⟩ := c9_init (l := l) (G := G) (d := d + 122)
  subst q1
  obtain ⟨h2, k2, I2, J2, q2, f3, M2, Q2⟩ := c10_init (l := l) (G := G) (d := d + 126) (I := I1) (J := J1) (SI := fun _ _ => 0) (T := fun _ _ => 0) (Hs := fun _ _ _ => 0) (f := fun _ => 0) (fun _ => by decide)
  subst q2
  have eK : (nA (I2, J2, K1) 23 1).2.2 = K2 := kk_nA rfl 23 1
  have n1 : mN (I1, J1, Kt0) = 102 := Kt0_N
  have n2 : mN (I2, J2, K1) = 145 := K1_N
  have eI : ∀ c, c ≠ 145 → (nA (I2, J2, K1) 23 1).1 c = I2 c := fun c hc => by
    funext x
    show (if c = mN (I2, J2, K1) then 0 else I2 c x) = _
    rw [n2, if_neg hc]
  have eJ : ∀ c, c ≠ 145 → (nA (I2, J2, K1) 23 1).2.1 c = J2 c := fun c hc => by
    funext x
    show (if c = mN (I2, J2, K1) then 0 else J2 c x) = _
    rw [n2, if_neg hc]
  have inv : Inv (nA (I2, J2, K1) 23 1) 8 := by
    have e : nA (I2, J2, K1) 23 1 = ((nA (I2, J2, K1) 23 1).1, (nA (I2, J2, K1) 23 1).2.1, K2) := by rw [← eK]
    rw [e]
    have g1 : ∀ c, c < 102 → (nA (I2, J2, K1) 23 1).1 c = I1 c := fun c hc => by rw [eI c (by omega), (f3 c hc).1]
    have g2 : ∀ c, c < 102 → (nA (I2, J2, K1) 23 1).2.1 c = J1 c := fun c hc => by rw [eJ c (by omega), (f3 c hc).2]
    refine Inv.first (fun c hc => ?_) ?_ ?_ (M2.hi' (fun c a b => eI c (by omega))) ?_
    · rw [g1 c (by omega), f1 c (by omega)]
    · exact C1.frame (fun c a b => g1 c (by omega)) (by rw [g2 62 (by omega)])
    · exact H1.frame (g1 _ (by omega)) (g1 _ (by omega))
    · obtain ⟨z1, z2, z3, z4, z5, z6⟩ := Q2
      exact ⟨by rw [eI 102 (by omega)]; exact z1, z2, fun j hj => absurd hj (by omega), z4, by rw [eI 102 (by omega)]; exact z5, by rw [eI 102 (by omega)]; exact z6⟩
  obtain ⟨hh, kk⟩ := law_loop (d := d) hl hL 520 0 (0 + 1 + 101 + 1 + 42 + 1) (0 + kN 9 + 1716 + kN 10 + 2817 + 1) 8 _ .null .null (by omega) (by omega) inv (by omega) (by omega) (by omega) (by decide)
  refine ⟨hh, ?_⟩
  refine go_new (kd := 9) rfl (by decide) clL_8 ins9 ini9 (by decide) (by decide) ?_
  refine go_dup rfl rfl ?_
  refine go_callI (M2 := m9_init) rfl vL_17 ok9_init rfl k1 rfl rfl rfl (by decide) (by decide) ?_
  refine go_astore_n rfl rfl rfl rfl ?_
  refine go_new (kd := 10) rfl (by decide) clL_18 ins10 ini10 (by decide) (by decide) ?_
  rw [n1]
  refine go_dup rfl rfl ?_
  refine go_callI (M2 := m10_init) rfl vL_20 ok10_init rfl k2 rfl rfl rfl (by decide) (by decide) ?_
  refine go_astore_n rfl rfl rfl rfl ?_
  refine go_iconst (v := nI 1) rfl ic_1N ?_
  refine go_newa (kd := 23) rfl (by decide) (by decide) rfl arr23 (by decide) (by decide) (by decide) ?_
  rw [n2]
  refine go_astore_n rfl rfl rfl rfl ?_
  refine go_iconst (v := nI 0) rfl ic_0N ?_
  refine go_istore rfl rfl rfl rfl ?_
  exact kk
end LawStart
