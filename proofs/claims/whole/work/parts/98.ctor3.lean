/-! ===== constructors: TinNation, TinNationModel ===== -/
def e0 : Hp := (fun _ _ => 0, fun _ _ => 0, fun _ _ => none, fun _ => (30, 0), 0)
def t0 : Hp := nA e0 9 0
def t1 : Hp := aN t0 0 0 21 700
def t2 : Hp := wP (parserH (nA t1 2 0) (mN t1)) 0 2 (some (mN t1))
def t3 : Hp := wP (planH (nA t2 3 0) (mN t2)) 0 3 (some (mN t2))
def t4 : Hp := wP (daysH (nA t3 0 0) (mN t3) 33) 0 4 (some (mN t3))
def t5 : Hp := wP (stateH (nA t4 6 0) (mN t4)) 0 5 (some (mN t4))
def t6 : Hp := wP (stateH (nA t5 6 0) (mN t5)) 0 6 (some (mN t5))
def t7 : Hp := wP (stateH (nA t6 6 0) (mN t6)) 0 7 (some (mN t6))
def t8 : Hp := wP (toldH (nA t7 8 0) (mN t7)) 0 9 (some (mN t7))
def t9 : Hp := wP (stepsH (nA t8 7 0) (mN t8)) 0 10 (some (mN t8))
def t10 : Hp := aN t9 0 11 20 4
def t11 : Hp := aN t10 0 12 20 4
def Kt0 : Kt := t11.2.2
def It0 : IM := t11.1
def Jt0 : JM := t11.2.1
def P00 : Pl := P0 (fun _ _ => 0)
theorem Kt0_N : Kt0.2.2 = 102 := by decide +kernel
theorem Kt0_rows {a w m : Nat} (h : ((Kt0.2.1 a).1 = 4 ∧ Kt0.1 a 1 = some (a + 1) ∧ Kt0.2.1 (a + 1) = (24, w)) ∧ (∀ j, j < w → Kt0.1 (a + 1) j = some (a + 2 + j)) ∧ (∀ j, j < w → Kt0.2.1 (a + 2 + j) = (20, m)) ∧ (0 < w ∧ w ≤ 8 ∧ m ≤ 64)) : isRows Kt0 a w m := ⟨h.1.1, h.1.2.1, h.1.2.2, h.2.1, h.2.2.1, h.2.2.2⟩
theorem Kt0_plan {p : Nat} (h : (Kt0.2.1 p).1 = 3 ∧ Kt0.1 p 0 = some (p + 1) ∧ Kt0.1 p 1 = some (p + 6) ∧ Kt0.1 p 2 = some (p + 13) ∧ Kt0.1 p 3 = some (p + 17) ∧ Kt0.1 p 4 = some (p + 22)) (h1 : isRows Kt0 (p + 1) 3 6) (h2 : isRows Kt0 (p + 6) 5 8) (h3 : isRows Kt0 (p + 13) 2 10) (h4 : isRows Kt0 (p + 17) 3 8) (h5 : isLaws Kt0 (p + 22)) : isPlan Kt0 p := ⟨h.1, h.2.1, h.2.2.1, h.2.2.2.1, h.2.2.2.2.1, h.2.2.2.2.2, h1, h2, h3, h4, h5⟩
theorem Kt0_G : GK Kt0 := ⟨by decide +kernel, by decide +kernel, by unfold isScan; decide +kernel, Kt0_plan (by decide +kernel) (Kt0_rows (by decide +kernel)) (Kt0_rows (by decide +kernel)) (Kt0_rows (by decide +kernel)) (Kt0_rows (by decide +kernel)) (by unfold isLaws; decide +kernel), Kt0_plan (by decide +kernel) (Kt0_rows (by decide +kernel)) (Kt0_rows (by decide +kernel)) (Kt0_rows (by decide +kernel)) (Kt0_rows (by decide +kernel)) (by unfold isLaws; decide +kernel), by unfold isDays; decide +kernel, by unfold isState; decide +kernel, by unfold isState; decide +kernel, by unfold isState; decide +kernel, ⟨by decide +kernel, by decide +kernel, Kt0_rows (by decide +kernel)⟩, ⟨by decide +kernel, by decide +kernel, Kt0_rows (by decide +kernel)⟩⟩
theorem Kt0_P : RP It0 33 P00 := by unfold RP RPm P00 P0; decide +kernel
section Ctors3
variable {l : Launch} {G : GG} {d : Nat}
theorem c9_init : ∃ h', Ct l G (d + 6) 101 1716 m9_init [.ref 0] t0 none h' ∧ ∃ I' J', h' = (I', J', Kt0) ∧ (∀ c, (c < 62 ∨ 69 < c) → I' c = It0 c) ∧ (∀ c, c ≠ 62 → J' c = Jt0 c) ∧ RC I' J' 62 (P00.1 1) (beg P00) ∧ HC I' 62 (P00.1 1) 8 := by
  obtain ⟨r1, h1, k1, q1, I', J', q2, q3⟩ := c6_begin (l := l) (G := G) (d := d + 3) (I := It0) (J := Jt0) (K := Kt0) (s := 62) (p := 33) (P := P00) Kt0_G.2.2.2.2.2.2.1 Kt0_G.2.2.2.2.1 (by omega) Kt0_P
  subst q1
  subst q2
  refine ⟨_, ?_, I', J', rfl, q3⟩
  refine Ct.of ok9_init rfl (rfl : argL _ _ = [.ref 0]) ?_
  refine go_aload_n rfl rfl ?_
  refine go_objInit rfl v9_3 rfl ?_
  refine go_aload_n rfl rfl ?_
  refine go_sipush (v := nI 700) rfl sp_700N ?_
  refine go_newa (kd := 21) rfl (by decide) (by decide) rfl arr21 (by decide) (by decide) (by decide) ?_
  refine go_putFP rfl f9_11 (by decide +kernel) rfl rfl rfl rfl ?_
  refine go_aload_n rfl rfl ?_
  refine go_new (kd := 2) rfl (by decide) cl9_15 ins2 ini2 (by decide) (by decide) ?_
  refine go_dup rfl rfl ?_
  refine go_callIN (M2 := m2_init) rfl v9_17 ok2_init rfl (c2_init (d := d) (Nat.lt_succ_self _) (kS_new _ _ _)) rfl rfl rfl (by decide) (by decide) ?_
  refine go_putFP rfl f9_18 (by decide +kernel) rfl rfl rfl rfl ?_
  refine go_aload_n rfl rfl ?_
  refine go_new (kd := 3) rfl (by decide) cl9_22 ins3 ini3 (by decide) (by decide) ?_
  refine go_dup rfl rfl ?_
  refine go_callIN (M2 := m3_init) rfl v9_24 ok3_init rfl (c3_init (d := d + 3) (Nat.lt_succ_self _) (kS_new _ _ _)) rfl rfl rfl (by decide) (by decide) ?_
  refine go_putFP rfl f9_25 (by decide +kernel) rfl rfl rfl rfl ?_
  refine go_aload_n rfl rfl ?_
  refine go_new (kd := 0) rfl (by decide) cl9_29 ins0 ini0 (by decide) (by decide) ?_
  refine go_dup rfl rfl ?_
  refine go_aload_n rfl rfl ?_
  refine go_getP (b := 33) rfl f9_25 (by decide +kernel) rfl (by decide +kernel) ?_
  refine go_callI (M2 := m0_init) rfl v9_31 ok0_init rfl (c0_init (d := d + 4) (p := 33) (Nat.lt_succ_self _) (kS_new _ _ _)) rfl rfl rfl (by decide) (by decide) ?_
  refine go_putFP rfl f9_34 (by decide +kernel) rfl rfl rfl rfl ?_
  refine go_aload_n rfl rfl ?_
  refine go_new (kd := 6) rfl (by decide) cl9_38 ins6 ini6 (by decide) (by decide) ?_
  refine go_dup rfl rfl ?_
  refine go_callIN (M2 := m6_init) rfl v9_40 ok6_init rfl (c6_init (d := d + 4) (Nat.lt_succ_self _) (kS_new _ _ _)) rfl rfl rfl (by decide) (by decide) ?_
  refine go_putFP rfl f9_41 (by decide +kernel) rfl rfl rfl rfl ?_
  refine go_aload_n rfl rfl ?_
  refine go_new (kd := 6) rfl (by decide) cl9_38 ins6 ini6 (by decide) (by decide) ?_
  refine go_dup rfl rfl ?_
  refine go_callIN (M2 := m6_init) rfl v9_40 ok6_init rfl (c6_init (d := d + 4) (Nat.lt_succ_self _) (kS_new _ _ _)) rfl rfl rfl (by decide) (by decide) ?_
  refine go_putFP rfl f9_45 (by decide +kernel) rfl rfl rfl rfl ?_
  refine go_aload_n rfl rfl ?_
  refine go_new (kd := 6) rfl (by decide) cl9_38 ins6 ini6 (by decide) (by decide) ?_
  refine go_dup rfl rfl ?_
  refine go_callIN (M2 := m6_init) rfl v9_40 ok6_init rfl (c6_init (d := d + 4) (Nat.lt_succ_self _) (kS_new _ _ _)) rfl rfl rfl (by decide) (by decide) ?_
  refine go_putFP rfl f9_48 (by decide +kernel) rfl rfl rfl rfl ?_
  refine go_aload_n rfl rfl ?_
  refine go_new (kd := 8) rfl (by decide) cl9_51 ins8 ini8 (by decide) (by decide) ?_
  refine go_dup rfl rfl ?_
  refine go_callIN (M2 := m8_init) rfl v9_53 ok8_init rfl (c8_init (d := d + 3) (Nat.lt_succ_self _) (kS_new _ _ _)) rfl rfl rfl (by decide) (by decide) ?_
  refine go_putFP rfl f9_54 (by decide +kernel) rfl rfl rfl rfl ?_
  refine go_aload_n rfl rfl ?_
  refine go_new (kd := 7) rfl (by decide) cl9_58 ins7 ini7 (by decide) (by decide) ?_
  refine go_dup rfl rfl ?_
  refine go_callIN (M2 := m7_init) rfl v9_60 ok7_init rfl (c7_init (d := d + 3) (Nat.lt_succ_self _) (kS_new _ _ _)) rfl rfl rfl (by decide) (by decide) ?_
  refine go_putFP rfl f9_61 (by decide +kernel) rfl rfl rfl rfl ?_
  refine go_aload_n rfl rfl ?_
  refine go_iconst (v := nI 4) rfl ic_4N ?_
  refine go_newa (kd := 20) rfl (by decide) (by decide) rfl arr20 (by decide) (by decide) (by decide) ?_
  refine go_putFP rfl f9_65 (by decide +kernel) rfl rfl rfl rfl ?_
  refine go_aload_n rfl rfl ?_
  refine go_iconst (v := nI 4) rfl ic_4N ?_
  refine go_newa (kd := 20) rfl (by decide) (by decide) rfl arr20 (by decide) (by decide) (by decide) ?_
  refine go_putFP rfl f9_69 (by decide +kernel) rfl rfl rfl rfl ?_
  show Go l G (d + 6) 101 1716 m9_init _ _ 119 _ _ t11 _ _
  refine go_aload_n rfl rfl ?_
  refine go_getP (b := 62) rfl f9_41 (by decide +kernel) rfl (by decide +kernel) ?_
  refine go_aload_n rfl rfl ?_
  refine go_getP (b := 33) rfl f9_25 (by decide +kernel) rfl (by decide +kernel) ?_
  refine go_callV (M2 := m6_begin) (mc1 := 0) (ms1 := 0) (b := 62) (as := [.ref 33]) rfl v9_72 ok6_begin k1 rfl (by decide +kernel) (by decide +kernel) rfl rfl (by decide) (by decide) ?_
  exact go_return rfl rfl rfl rfl
end Ctors3
