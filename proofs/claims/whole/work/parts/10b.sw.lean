section RowsY
variable {l : Launch} {G : GG} {d pc npc : Nat} {M : MD} {L st : List Value} {h : Hp} {Q : Option Value → Hp → Prop}
theorem e_if_eqC {x y : Int64} {off : Int} {tgt : Nat} (hc : lk M pc = some (.ifCond .eq off, npc, 3)) (ht : (pc : Int) + off = (tgt : Int)) (kt : x = y → Gw l G d M tgt L st h Q) (kf : ¬ x = y → Gw l G d M npc L st h Q) : Gw l G d M pc L (.int (lg_cmp x y) :: st) h Q := e_if_eq hc ht (fun z => kt ((lg_cmp_eq x y).mp z)) (fun z => kf ((fun q => z ((lg_cmp_eq x y).mpr q))))
theorem e_if_neC {x y : Int64} {off : Int} {tgt : Nat} (hc : lk M pc = some (.ifCond .ne off, npc, 3)) (ht : (pc : Int) + off = (tgt : Int)) (kt : ¬ x = y → Gw l G d M tgt L st h Q) (kf : x = y → Gw l G d M npc L st h Q) : Gw l G d M pc L (.int (lg_cmp x y) :: st) h Q := e_if_ne hc ht (fun z => kt ((fun q => z ((lg_cmp_eq x y).mpr q)))) (fun z => kf ((lg_cmp_eq x y).mp z))
theorem e_if_ltC {x y : Int64} {off : Int} {tgt : Nat} (hc : lk M pc = some (.ifCond .lt off, npc, 3)) (ht : (pc : Int) + off = (tgt : Int)) (kt : x < y → Gw l G d M tgt L st h Q) (kf : ¬ x < y → Gw l G d M npc L st h Q) : Gw l G d M pc L (.int (lg_cmp x y) :: st) h Q := e_if_lt hc ht (fun z => kt ((lg_cmp_lt x y).mp z)) (fun z => kf ((fun q => z ((lg_cmp_lt x y).mpr q))))
theorem e_if_geC {x y : Int64} {off : Int} {tgt : Nat} (hc : lk M pc = some (.ifCond .ge off, npc, 3)) (ht : (pc : Int) + off = (tgt : Int)) (kt : y ≤ x → Gw l G d M tgt L st h Q) (kf : ¬ y ≤ x → Gw l G d M npc L st h Q) : Gw l G d M pc L (.int (lg_cmp x y) :: st) h Q := e_if_ge hc ht (fun z => kt ((lg_cmp_ge x y).mp z)) (fun z => kf ((fun q => z ((lg_cmp_ge x y).mpr q))))
theorem e_if_gtC {x y : Int64} {off : Int} {tgt : Nat} (hc : lk M pc = some (.ifCond .gt off, npc, 3)) (ht : (pc : Int) + off = (tgt : Int)) (kt : y < x → Gw l G d M tgt L st h Q) (kf : ¬ y < x → Gw l G d M npc L st h Q) : Gw l G d M pc L (.int (lg_cmp x y) :: st) h Q := e_if_gt hc ht (fun z => kt ((lg_cmp_gt x y).mp z)) (fun z => kf ((fun q => z ((lg_cmp_gt x y).mpr q))))
theorem e_if_leC {x y : Int64} {off : Int} {tgt : Nat} (hc : lk M pc = some (.ifCond .le off, npc, 3)) (ht : (pc : Int) + off = (tgt : Int)) (kt : x ≤ y → Gw l G d M tgt L st h Q) (kf : ¬ x ≤ y → Gw l G d M npc L st h Q) : Gw l G d M pc L (.int (lg_cmp x y) :: st) h Q := e_if_le hc ht (fun z => kt ((lg_cmp_le x y).mp z)) (fun z => kf ((fun q => z ((lg_cmp_le x y).mpr q))))
theorem decN1 {x : Nat} (hx : 1 ≤ x) : nI x + Int32.ofInt (-1) = nI (x - 1) := by
  obtain ⟨y, rfl⟩ : ∃ y, x = y + 1 := ⟨x - 1, by omega⟩
  rw [show Int32.ofInt (-1) = -1 by decide, pk_m1]; rfl
end RowsY
set_option maxRecDepth 20000 in
theorem sw1_joined_1 {l : Launch} {G : GG} {d : Nat} {L st : List Value} {h : Hp} {Q : Option Value → Hp → Prop} {x : Int32} (k0 : x = nI 20 → Gw l G d m1_joined 126 L st h Q) (k1 : x = nI 21 → Gw l G d m1_joined 108 L st h Q) (k2 : x = nI 42 → Gw l G d m1_joined 224 L st h Q) (k3 : x = nI 43 → Gw l G d m1_joined 216 L st h Q) (k4 : x = nI 45 → Gw l G d m1_joined 220 L st h Q) (k5 : x = nI 47 → Gw l G d m1_joined 279 L st h Q) (k6 : x = nI 60 → Gw l G d m1_joined 144 L st h Q) (k7 : x = nI 61 → Gw l G d m1_joined 168 L st h Q) (k8 : x = nI 62 → Gw l G d m1_joined 204 L st h Q) (k9 : x = nI 256 → Gw l G d m1_joined 156 L st h Q) (k10 : x = nI 257 → Gw l G d m1_joined 192 L st h Q) (k11 : x = nI 258 → Gw l G d m1_joined 180 L st h Q) (kd : ¬ x = nI 20 → ¬ x = nI 21 → ¬ x = nI 42 → ¬ x = nI 43 → ¬ x = nI 45 → ¬ x = nI 47 → ¬ x = nI 60 → ¬ x = nI 61 → ¬ x = nI 62 → ¬ x = nI 256 → ¬ x = nI 257 → ¬ x = nI 258 → Gw l G d m1_joined 295 L st h Q) : Gw l G d m1_joined 1 L (.int x :: st) h Q := by
  by_cases z0 : x = nI 20
  · exact e_lookup (tgt := 126) (off := 125) rfl (by decide) (by rw [z0]; decide) rfl (k0 z0)
  by_cases z1 : x = nI 21
  · exact e_lookup (tgt := 108) (off := 107) rfl (by decide) (by rw [z1]; decide) rfl (k1 z1)
  by_cases z2 : x = nI 42
  · exact e_lookup (tgt := 224) (off := 223) rfl (by decide) (by rw [z2]; decide) rfl (k2 z2)
  by_cases z3 : x = nI 43
  · exact e_lookup (tgt := 216) (off := 215) rfl (by decide) (by rw [z3]; decide) rfl (k3 z3)
  by_cases z4 : x = nI 45
  · exact e_lookup (tgt := 220) (off := 219) rfl (by decide) (by rw [z4]; decide) rfl (k4 z4)
  by_cases z5 : x = nI 47
  · exact e_lookup (tgt := 279) (off := 278) rfl (by decide) (by rw [z5]; decide) rfl (k5 z5)
  by_cases z6 : x = nI 60
  · exact e_lookup (tgt := 144) (off := 143) rfl (by decide) (by rw [z6]; decide) rfl (k6 z6)
  by_cases z7 : x = nI 61
  · exact e_lookup (tgt := 168) (off := 167) rfl (by decide) (by rw [z7]; decide) rfl (k7 z7)
  by_cases z8 : x = nI 62
  · exact e_lookup (tgt := 204) (off := 203) rfl (by decide) (by rw [z8]; decide) rfl (k8 z8)
  by_cases z9 : x = nI 256
  · exact e_lookup (tgt := 156) (off := 155) rfl (by decide) (by rw [z9]; decide) rfl (k9 z9)
  by_cases z10 : x = nI 257
  · exact e_lookup (tgt := 192) (off := 191) rfl (by decide) (by rw [z10]; decide) rfl (k10 z10)
  by_cases z11 : x = nI 258
  · exact e_lookup (tgt := 180) (off := 179) rfl (by decide) (by rw [z11]; decide) rfl (k11 z11)
  refine e_lookup (tgt := 295) (off := 294) rfl (by decide) ?_ rfl (kd z0 z1 z2 z3 z4 z5 z6 z7 z8 z9 z10 z11)
  show Op.lookupswitch.offset [(20, 125), (21, 107), (42, 223), (43, 215), (45, 219), (47, 278), (60, 143), (61, 167), (62, 203), (256, 155), (257, 191), (258, 179)] 294 x.toInt = 294
  rw [lv_osw z0 (by decide), lv_osw z1 (by decide), lv_osw z2 (by decide), lv_osw z3 (by decide), lv_osw z4 (by decide), lv_osw z5 (by decide), lv_osw z6 (by decide), lv_osw z7 (by decide), lv_osw z8 (by decide), lv_osw z9 (by decide), lv_osw z10 (by decide), lv_osw z11 (by decide)]
  rfl
set_option maxRecDepth 20000 in
theorem sw2_line_7 {l : Launch} {G : GG} {d : Nat} {L st : List Value} {h : Hp} {Q : Option Value → Hp → Prop} {x : Int32} (k0 : x = nI 1 → Gw l G d m2_line 52 L st h Q) (k1 : x = nI 2 → Gw l G d m2_line 59 L st h Q) (k2 : x = nI 3 → Gw l G d m2_line 66 L st h Q) (k3 : x = nI 4 → Gw l G d m2_line 73 L st h Q) (k4 : x = nI 5 → Gw l G d m2_line 80 L st h Q) (k5 : x = nI 6 → Gw l G d m2_line 96 L st h Q) (k6 : x = nI 7 → Gw l G d m2_line 112 L st h Q) (k7 : x = nI 8 → Gw l G d m2_line 128 L st h Q) (kd : ¬ x = nI 1 → ¬ x = nI 2 → ¬ x = nI 3 → ¬ x = nI 4 → ¬ x = nI 5 → ¬ x = nI 6 → ¬ x = nI 7 → ¬ x = nI 8 → Gw l G d m2_line 135 L st h Q) : Gw l G d m2_line 7 L (.int x :: st) h Q := by
  by_cases z0 : x = nI 1
  · exact e_tableIn (tgt := 52) (off := 45) rfl (by rw [z0]; decide) (by rw [z0]; decide) (by rw [z0]; decide) rfl (k0 z0)
  by_cases z1 : x = nI 2
  · exact e_tableIn (tgt := 59) (off := 52) rfl (by rw [z1]; decide) (by rw [z1]; decide) (by rw [z1]; decide) rfl (k1 z1)
  by_cases z2 : x = nI 3
  · exact e_tableIn (tgt := 66) (off := 59) rfl (by rw [z2]; decide) (by rw [z2]; decide) (by rw [z2]; decide) rfl (k2 z2)
  by_cases z3 : x = nI 4
  · exact e_tableIn (tgt := 73) (off := 66) rfl (by rw [z3]; decide) (by rw [z3]; decide) (by rw [z3]; decide) rfl (k3 z3)
  by_cases z4 : x = nI 5
  · exact e_tableIn (tgt := 80) (off := 73) rfl (by rw [z4]; decide) (by rw [z4]; decide) (by rw [z4]; decide) rfl (k4 z4)
  by_cases z5 : x = nI 6
  · exact e_tableIn (tgt := 96) (off := 89) rfl (by rw [z5]; decide) (by rw [z5]; decide) (by rw [z5]; decide) rfl (k5 z5)
  by_cases z6 : x = nI 7
  · exact e_tableIn (tgt := 112) (off := 105) rfl (by rw [z6]; decide) (by rw [z6]; decide) (by rw [z6]; decide) rfl (k6 z6)
  by_cases z7 : x = nI 8
  · exact e_tableIn (tgt := 128) (off := 121) rfl (by rw [z7]; decide) (by rw [z7]; decide) (by rw [z7]; decide) rfl (k7 z7)
  have y0 := lv_neT z0 (show (nI 1).toInt = 1 by decide)
  have y1 := lv_neT z1 (show (nI 2).toInt = 2 by decide)
  have y2 := lv_neT z2 (show (nI 3).toInt = 3 by decide)
  have y3 := lv_neT z3 (show (nI 4).toInt = 4 by decide)
  have y4 := lv_neT z4 (show (nI 5).toInt = 5 by decide)
  have y5 := lv_neT z5 (show (nI 6).toInt = 6 by decide)
  have y6 := lv_neT z6 (show (nI 7).toInt = 7 by decide)
  have y7 := lv_neT z7 (show (nI 8).toInt = 8 by decide)
  exact e_tableOut (tgt := 135) rfl (by omega) rfl (kd z0 z1 z2 z3 z4 z5 z6 z7)
set_option maxRecDepth 20000 in
theorem sw9_fault_1 {l : Launch} {G : GG} {d : Nat} {L st : List Value} {h : Hp} {Q : Option Value → Hp → Prop} {x : Int32} (k0 : x = nI 0 → Gw l G d m9_fault 28 L st h Q) (k1 : x = nI 1 → Gw l G d m9_fault 36 L st h Q) (kd : ¬ x = nI 0 → ¬ x = nI 1 → Gw l G d m9_fault 44 L st h Q) : Gw l G d m9_fault 1 L (.int x :: st) h Q := by
  by_cases z0 : x = nI 0
  · exact e_lookup (tgt := 28) (off := 27) rfl (by decide) (by rw [z0]; decide) rfl (k0 z0)
  by_cases z1 : x = nI 1
  · exact e_lookup (tgt := 36) (off := 35) rfl (by decide) (by rw [z1]; decide) rfl (k1 z1)
  refine e_lookup (tgt := 44) (off := 43) rfl (by decide) ?_ rfl (kd z0 z1)
  show Op.lookupswitch.offset [(0, 27), (1, 35)] 43 x.toInt = 43
  rw [lv_osw z0 (by decide), lv_osw z1 (by decide)]
  rfl
set_option maxRecDepth 20000 in
theorem sw9_named_1 {l : Launch} {G : GG} {d : Nat} {L st : List Value} {h : Hp} {Q : Option Value → Hp → Prop} {x : Int32} (k0 : x = nI 0 → Gw l G d m9_named 28 L st h Q) (k1 : x = nI 1 → Gw l G d m9_named 40 L st h Q) (kd : ¬ x = nI 0 → ¬ x = nI 1 → Gw l G d m9_named 52 L st h Q) : Gw l G d m9_named 1 L (.int x :: st) h Q := by
  by_cases z0 : x = nI 0
  · exact e_lookup (tgt := 28) (off := 27) rfl (by decide) (by rw [z0]; decide) rfl (k0 z0)
  by_cases z1 : x = nI 1
  · exact e_lookup (tgt := 40) (off := 39) rfl (by decide) (by rw [z1]; decide) rfl (k1 z1)
  refine e_lookup (tgt := 52) (off := 51) rfl (by decide) ?_ rfl (kd z0 z1)
  show Op.lookupswitch.offset [(0, 27), (1, 39)] 51 x.toInt = 51
  rw [lv_osw z0 (by decide), lv_osw z1 (by decide)]
  rfl
set_option maxRecDepth 20000 in
theorem sw9_tin_22 {l : Launch} {G : GG} {d : Nat} {L st : List Value} {h : Hp} {Q : Option Value → Hp → Prop} {x : Int32} (k0 : x = nI 0 → Gw l G d m9_tin 64 L st h Q) (k1 : x = nI 1 → Gw l G d m9_tin 77 L st h Q) (k2 : x = nI 2 → Gw l G d m9_tin 87 L st h Q) (k3 : x = nI 3 → Gw l G d m9_tin 100 L st h Q) (k4 : x = nI 4 → Gw l G d m9_tin 110 L st h Q) (k5 : x = nI 5 → Gw l G d m9_tin 120 L st h Q) (k6 : x = nI 6 → Gw l G d m9_tin 130 L st h Q) (kd : ¬ x = nI 0 → ¬ x = nI 1 → ¬ x = nI 2 → ¬ x = nI 3 → ¬ x = nI 4 → ¬ x = nI 5 → ¬ x = nI 6 → Gw l G d m9_tin 140 L st h Q) : Gw l G d m9_tin 22 L (.int x :: st) h Q := by
  by_cases z0 : x = nI 0
  · exact e_tableIn (tgt := 64) (off := 42) rfl (by rw [z0]; decide) (by rw [z0]; decide) (by rw [z0]; decide) rfl (k0 z0)
  by_cases z1 : x = nI 1
  · exact e_tableIn (tgt := 77) (off := 55) rfl (by rw [z1]; decide) (by rw [z1]; decide) (by rw [z1]; decide) rfl (k1 z1)
  by_cases z2 : x = nI 2
  · exact e_tableIn (tgt := 87) (off := 65) rfl (by rw [z2]; decide) (by rw [z2]; decide) (by rw [z2]; decide) rfl (k2 z2)
  by_cases z3 : x = nI 3
  · exact e_tableIn (tgt := 100) (off := 78) rfl (by rw [z3]; decide) (by rw [z3]; decide) (by rw [z3]; decide) rfl (k3 z3)
  by_cases z4 : x = nI 4
  · exact e_tableIn (tgt := 110) (off := 88) rfl (by rw [z4]; decide) (by rw [z4]; decide) (by rw [z4]; decide) rfl (k4 z4)
  by_cases z5 : x = nI 5
  · exact e_tableIn (tgt := 120) (off := 98) rfl (by rw [z5]; decide) (by rw [z5]; decide) (by rw [z5]; decide) rfl (k5 z5)
  by_cases z6 : x = nI 6
  · exact e_tableIn (tgt := 130) (off := 108) rfl (by rw [z6]; decide) (by rw [z6]; decide) (by rw [z6]; decide) rfl (k6 z6)
  have y0 := lv_neT z0 (show (nI 0).toInt = 0 by decide)
  have y1 := lv_neT z1 (show (nI 1).toInt = 1 by decide)
  have y2 := lv_neT z2 (show (nI 2).toInt = 2 by decide)
  have y3 := lv_neT z3 (show (nI 3).toInt = 3 by decide)
  have y4 := lv_neT z4 (show (nI 4).toInt = 4 by decide)
  have y5 := lv_neT z5 (show (nI 5).toInt = 5 by decide)
  have y6 := lv_neT z6 (show (nI 6).toInt = 6 by decide)
  exact e_tableOut (tgt := 140) rfl (by omega) rfl (kd z0 z1 z2 z3 z4 z5 z6)
set_option maxRecDepth 20000 in
theorem sw9_kind_17 {l : Launch} {G : GG} {d : Nat} {L st : List Value} {h : Hp} {Q : Option Value → Hp → Prop} {x : Int32} (k0 : x = nI 0 → Gw l G d m9_kind 48 L st h Q) (k1 : x = nI 1 → Gw l G d m9_kind 61 L st h Q) (k2 : x = nI 2 → Gw l G d m9_kind 74 L st h Q) (k3 : x = nI 3 → Gw l G d m9_kind 81 L st h Q) (kd : ¬ x = nI 0 → ¬ x = nI 1 → ¬ x = nI 2 → ¬ x = nI 3 → Gw l G d m9_kind 88 L st h Q) : Gw l G d m9_kind 17 L (.int x :: st) h Q := by
  by_cases z0 : x = nI 0
  · exact e_tableIn (tgt := 48) (off := 31) rfl (by rw [z0]; decide) (by rw [z0]; decide) (by rw [z0]; decide) rfl (k0 z0)
  by_cases z1 : x = nI 1
  · exact e_tableIn (tgt := 61) (off := 44) rfl (by rw [z1]; decide) (by rw [z1]; decide) (by rw [z1]; decide) rfl (k1 z1)
  by_cases z2 : x = nI 2
  · exact e_tableIn (tgt := 74) (off := 57) rfl (by rw [z2]; decide) (by rw [z2]; decide) (by rw [z2]; decide) rfl (k2 z2)
  by_cases z3 : x = nI 3
  · exact e_tableIn (tgt := 81) (off := 64) rfl (by rw [z3]; decide) (by rw [z3]; decide) (by rw [z3]; decide) rfl (k3 z3)
  have y0 := lv_neT z0 (show (nI 0).toInt = 0 by decide)
  have y1 := lv_neT z1 (show (nI 1).toInt = 1 by decide)
  have y2 := lv_neT z2 (show (nI 2).toInt = 2 by decide)
  have y3 := lv_neT z3 (show (nI 3).toInt = 3 by decide)
  exact e_tableOut (tgt := 88) rfl (by omega) rfl (kd z0 z1 z2 z3)
set_option maxRecDepth 20000 in
theorem sw9_want_17 {l : Launch} {G : GG} {d : Nat} {L st : List Value} {h : Hp} {Q : Option Value → Hp → Prop} {x : Int32} (k0 : x = nI 0 → Gw l G d m9_want 48 L st h Q) (k1 : x = nI 1 → Gw l G d m9_want 61 L st h Q) (k2 : x = nI 2 → Gw l G d m9_want 74 L st h Q) (k3 : x = nI 3 → Gw l G d m9_want 87 L st h Q) (kd : ¬ x = nI 0 → ¬ x = nI 1 → ¬ x = nI 2 → ¬ x = nI 3 → Gw l G d m9_want 97 L st h Q) : Gw l G d m9_want 17 L (.int x :: st) h Q := by
  by_cases z0 : x = nI 0
  · exact e_tableIn (tgt := 48) (off := 31) rfl (by rw [z0]; decide) (by rw [z0]; decide) (by rw [z0]; decide) rfl (k0 z0)
  by_cases z1 : x = nI 1
  · exact e_tableIn (tgt := 61) (off := 44) rfl (by rw [z1]; decide) (by rw [z1]; decide) (by rw [z1]; decide) rfl (k1 z1)
  by_cases z2 : x = nI 2
  · exact e_tableIn (tgt := 74) (off := 57) rfl (by rw [z2]; decide) (by rw [z2]; decide) (by rw [z2]; decide) rfl (k2 z2)
  by_cases z3 : x = nI 3
  · exact e_tableIn (tgt := 87) (off := 70) rfl (by rw [z3]; decide) (by rw [z3]; decide) (by rw [z3]; decide) rfl (k3 z3)
  have y0 := lv_neT z0 (show (nI 0).toInt = 0 by decide)
  have y1 := lv_neT z1 (show (nI 1).toInt = 1 by decide)
  have y2 := lv_neT z2 (show (nI 2).toInt = 2 by decide)
  have y3 := lv_neT z3 (show (nI 3).toInt = 3 by decide)
  exact e_tableOut (tgt := 97) rfl (by omega) rfl (kd z0 z1 z2 z3)
set_option maxRecDepth 20000 in
theorem sw9_ahead_66 {l : Launch} {G : GG} {d : Nat} {L st : List Value} {h : Hp} {Q : Option Value → Hp → Prop} {x : Int32} (k0 : x = nI 0 → Gw l G d m9_ahead 96 L st h Q) (k1 : x = nI 1 → Gw l G d m9_ahead 112 L st h Q) (k2 : x = nI 2 → Gw l G d m9_ahead 128 L st h Q) (k3 : x = nI 3 → Gw l G d m9_ahead 144 L st h Q) (kd : ¬ x = nI 0 → ¬ x = nI 1 → ¬ x = nI 2 → ¬ x = nI 3 → Gw l G d m9_ahead 162 L st h Q) : Gw l G d m9_ahead 66 L (.int x :: st) h Q := by
  by_cases z0 : x = nI 0
  · exact e_tableIn (tgt := 96) (off := 30) rfl (by rw [z0]; decide) (by rw [z0]; decide) (by rw [z0]; decide) rfl (k0 z0)
  by_cases z1 : x = nI 1
  · exact e_tableIn (tgt := 112) (off := 46) rfl (by rw [z1]; decide) (by rw [z1]; decide) (by rw [z1]; decide) rfl (k1 z1)
  by_cases z2 : x = nI 2
  · exact e_tableIn (tgt := 128) (off := 62) rfl (by rw [z2]; decide) (by rw [z2]; decide) (by rw [z2]; decide) rfl (k2 z2)
  by_cases z3 : x = nI 3
  · exact e_tableIn (tgt := 144) (off := 78) rfl (by rw [z3]; decide) (by rw [z3]; decide) (by rw [z3]; decide) rfl (k3 z3)
  have y0 := lv_neT z0 (show (nI 0).toInt = 0 by decide)
  have y1 := lv_neT z1 (show (nI 1).toInt = 1 by decide)
  have y2 := lv_neT z2 (show (nI 2).toInt = 2 by decide)
  have y3 := lv_neT z3 (show (nI 3).toInt = 3 by decide)
  exact e_tableOut (tgt := 162) rfl (by omega) rfl (kd z0 z1 z2 z3)
set_option maxRecDepth 20000 in
theorem sw9_count_1 {l : Launch} {G : GG} {d : Nat} {L st : List Value} {h : Hp} {Q : Option Value → Hp → Prop} {x : Int32} (k0 : x = nI 0 → Gw l G d m9_count 80 L st h Q) (k1 : x = nI 1 → Gw l G d m9_count 91 L st h Q) (k2 : x = nI 2 → Gw l G d m9_count 102 L st h Q) (k3 : x = nI 3 → Gw l G d m9_count 113 L st h Q) (k4 : x = nI 4 → Gw l G d m9_count 124 L st h Q) (k5 : x = nI 5 → Gw l G d m9_count 132 L st h Q) (k6 : x = nI 6 → Gw l G d m9_count 141 L st h Q) (k7 : x = nI 7 → Gw l G d m9_count 150 L st h Q) (k8 : x = nI 8 → Gw l G d m9_count 159 L st h Q) (k9 : x = nI 9 → Gw l G d m9_count 167 L st h Q) (k10 : x = nI 10 → Gw l G d m9_count 175 L st h Q) (k11 : x = nI 11 → Gw l G d m9_count 183 L st h Q) (k12 : x = nI 12 → Gw l G d m9_count 191 L st h Q) (k13 : x = nI 13 → Gw l G d m9_count 199 L st h Q) (k14 : x = nI 14 → Gw l G d m9_count 210 L st h Q) (k15 : x = nI 15 → Gw l G d m9_count 218 L st h Q) (kd : ¬ x = nI 0 → ¬ x = nI 1 → ¬ x = nI 2 → ¬ x = nI 3 → ¬ x = nI 4 → ¬ x = nI 5 → ¬ x = nI 6 → ¬ x = nI 7 → ¬ x = nI 8 → ¬ x = nI 9 → ¬ x = nI 10 → ¬ x = nI 11 → ¬ x = nI 12 → ¬ x = nI 13 → ¬ x = nI 14 → ¬ x = nI 15 → Gw l G d m9_count 229 L st h Q) : Gw l G d m9_count 1 L (.int x :: st) h Q := by
  by_cases z0 : x = nI 0
  · exact e_tableIn (tgt := 80) (off := 79) rfl (by rw [z0]; decide) (by rw [z0]; decide) (by rw [z0]; decide) rfl (k0 z0)
  by_cases z1 : x = nI 1
  · exact e_tableIn (tgt := 91) (off := 90) rfl (by rw [z1]; decide) (by rw [z1]; decide) (by rw [z1]; decide) rfl (k1 z1)
  by_cases z2 : x = nI 2
  · exact e_tableIn (tgt := 102) (off := 101) rfl (by rw [z2]; decide) (by rw [z2]; decide) (by rw [z2]; decide) rfl (k2 z2)
  by_cases z3 : x = nI 3
  · exact e_tableIn (tgt := 113) (off := 112) rfl (by rw [z3]; decide) (by rw [z3]; decide) (by rw [z3]; decide) rfl (k3 z3)
  by_cases z4 : x = nI 4
  · exact e_tableIn (tgt := 124) (off := 123) rfl (by rw [z4]; decide) (by rw [z4]; decide) (by rw [z4]; decide) rfl (k4 z4)
  by_cases z5 : x = nI 5
  · exact e_tableIn (tgt := 132) (off := 131) rfl (by rw [z5]; decide) (by rw [z5]; decide) (by rw [z5]; decide) rfl (k5 z5)
  by_cases z6 : x = nI 6
  · exact e_tableIn (tgt := 141) (off := 140) rfl (by rw [z6]; decide) (by rw [z6]; decide) (by rw [z6]; decide) rfl (k6 z6)
  by_cases z7 : x = nI 7
  · exact e_tableIn (tgt := 150) (off := 149) rfl (by rw [z7]; decide) (by rw [z7]; decide) (by rw [z7]; decide) rfl (k7 z7)
  by_cases z8 : x = nI 8
  · exact e_tableIn (tgt := 159) (off := 158) rfl (by rw [z8]; decide) (by rw [z8]; decide) (by rw [z8]; decide) rfl (k8 z8)
  by_cases z9 : x = nI 9
  · exact e_tableIn (tgt := 167) (off := 166) rfl (by rw [z9]; decide) (by rw [z9]; decide) (by rw [z9]; decide) rfl (k9 z9)
  by_cases z10 : x = nI 10
  · exact e_tableIn (tgt := 175) (off := 174) rfl (by rw [z10]; decide) (by rw [z10]; decide) (by rw [z10]; decide) rfl (k10 z10)
  by_cases z11 : x = nI 11
  · exact e_tableIn (tgt := 183) (off := 182) rfl (by rw [z11]; decide) (by rw [z11]; decide) (by rw [z11]; decide) rfl (k11 z11)
  by_cases z12 : x = nI 12
  · exact e_tableIn (tgt := 191) (off := 190) rfl (by rw [z12]; decide) (by rw [z12]; decide) (by rw [z12]; decide) rfl (k12 z12)
  by_cases z13 : x = nI 13
  · exact e_tableIn (tgt := 199) (off := 198) rfl (by rw [z13]; decide) (by rw [z13]; decide) (by rw [z13]; decide) rfl (k13 z13)
  by_cases z14 : x = nI 14
  · exact e_tableIn (tgt := 210) (off := 209) rfl (by rw [z14]; decide) (by rw [z14]; decide) (by rw [z14]; decide) rfl (k14 z14)
  by_cases z15 : x = nI 15
  · exact e_tableIn (tgt := 218) (off := 217) rfl (by rw [z15]; decide) (by rw [z15]; decide) (by rw [z15]; decide) rfl (k15 z15)
  have y0 := lv_neT z0 (show (nI 0).toInt = 0 by decide)
  have y1 := lv_neT z1 (show (nI 1).toInt = 1 by decide)
  have y2 := lv_neT z2 (show (nI 2).toInt = 2 by decide)
  have y3 := lv_neT z3 (show (nI 3).toInt = 3 by decide)
  have y4 := lv_neT z4 (show (nI 4).toInt = 4 by decide)
  have y5 := lv_neT z5 (show (nI 5).toInt = 5 by decide)
  have y6 := lv_neT z6 (show (nI 6).toInt = 6 by decide)
  have y7 := lv_neT z7 (show (nI 7).toInt = 7 by decide)
  have y8 := lv_neT z8 (show (nI 8).toInt = 8 by decide)
  have y9 := lv_neT z9 (show (nI 9).toInt = 9 by decide)
  have y10 := lv_neT z10 (show (nI 10).toInt = 10 by decide)
  have y11 := lv_neT z11 (show (nI 11).toInt = 11 by decide)
  have y12 := lv_neT z12 (show (nI 12).toInt = 12 by decide)
  have y13 := lv_neT z13 (show (nI 13).toInt = 13 by decide)
  have y14 := lv_neT z14 (show (nI 14).toInt = 14 by decide)
  have y15 := lv_neT z15 (show (nI 15).toInt = 15 by decide)
  exact e_tableOut (tgt := 229) rfl (by omega) rfl (kd z0 z1 z2 z3 z4 z5 z6 z7 z8 z9 z10 z11 z12 z13 z14 z15)
set_option maxRecDepth 20000 in
theorem sw10_line_96 {l : Launch} {G : GG} {d : Nat} {L st : List Value} {h : Hp} {Q : Option Value → Hp → Prop} {x : Int32} (k0 : x = nI 0 → Gw l G d m10_line 140 L st h Q) (k1 : x = nI 1 → Gw l G d m10_line 211 L st h Q) (k2 : x = nI 2 → Gw l G d m10_line 315 L st h Q) (k3 : x = nI 3 → Gw l G d m10_line 376 L st h Q) (k4 : x = nI 4 → Gw l G d m10_line 451 L st h Q) (k5 : x = nI 5 → Gw l G d m10_line 466 L st h Q) (k6 : x = nI 6 → Gw l G d m10_line 481 L st h Q) (kd : ¬ x = nI 0 → ¬ x = nI 1 → ¬ x = nI 2 → ¬ x = nI 3 → ¬ x = nI 4 → ¬ x = nI 5 → ¬ x = nI 6 → Gw l G d m10_line 497 L st h Q) : Gw l G d m10_line 96 L (.int x :: st) h Q := by
  by_cases z0 : x = nI 0
  · exact e_tableIn (tgt := 140) (off := 44) rfl (by rw [z0]; decide) (by rw [z0]; decide) (by rw [z0]; decide) rfl (k0 z0)
  by_cases z1 : x = nI 1
  · exact e_tableIn (tgt := 211) (off := 115) rfl (by rw [z1]; decide) (by rw [z1]; decide) (by rw [z1]; decide) rfl (k1 z1)
  by_cases z2 : x = nI 2
  · exact e_tableIn (tgt := 315) (off := 219) rfl (by rw [z2]; decide) (by rw [z2]; decide) (by rw [z2]; decide) rfl (k2 z2)
  by_cases z3 : x = nI 3
  · exact e_tableIn (tgt := 376) (off := 280) rfl (by rw [z3]; decide) (by rw [z3]; decide) (by rw [z3]; decide) rfl (k3 z3)
  by_cases z4 : x = nI 4
  · exact e_tableIn (tgt := 451) (off := 355) rfl (by rw [z4]; decide) (by rw [z4]; decide) (by rw [z4]; decide) rfl (k4 z4)
  by_cases z5 : x = nI 5
  · exact e_tableIn (tgt := 466) (off := 370) rfl (by rw [z5]; decide) (by rw [z5]; decide) (by rw [z5]; decide) rfl (k5 z5)
  by_cases z6 : x = nI 6
  · exact e_tableIn (tgt := 481) (off := 385) rfl (by rw [z6]; decide) (by rw [z6]; decide) (by rw [z6]; decide) rfl (k6 z6)
  have y0 := lv_neT z0 (show (nI 0).toInt = 0 by decide)
  have y1 := lv_neT z1 (show (nI 1).toInt = 1 by decide)
  have y2 := lv_neT z2 (show (nI 2).toInt = 2 by decide)
  have y3 := lv_neT z3 (show (nI 3).toInt = 3 by decide)
  have y4 := lv_neT z4 (show (nI 4).toInt = 4 by decide)
  have y5 := lv_neT z5 (show (nI 5).toInt = 5 by decide)
  have y6 := lv_neT z6 (show (nI 6).toInt = 6 by decide)
  exact e_tableOut (tgt := 497) rfl (by omega) rfl (kd z0 z1 z2 z3 z4 z5 z6)
set_option maxRecDepth 20000 in
theorem sw10_named_6 {l : Launch} {G : GG} {d : Nat} {L st : List Value} {h : Hp} {Q : Option Value → Hp → Prop} {x : Int32} (k0 : x = nI 0 → Gw l G d m10_named 32 L st h Q) (k1 : x = nI 1 → Gw l G d m10_named 48 L st h Q) (kd : ¬ x = nI 0 → ¬ x = nI 1 → Gw l G d m10_named 64 L st h Q) : Gw l G d m10_named 6 L (.int x :: st) h Q := by
  by_cases z0 : x = nI 0
  · exact e_lookup (tgt := 32) (off := 26) rfl (by decide) (by rw [z0]; decide) rfl (k0 z0)
  by_cases z1 : x = nI 1
  · exact e_lookup (tgt := 48) (off := 42) rfl (by decide) (by rw [z1]; decide) rfl (k1 z1)
  refine e_lookup (tgt := 64) (off := 58) rfl (by decide) ?_ rfl (kd z0 z1)
  show Op.lookupswitch.offset [(0, 26), (1, 42)] 58 x.toInt = 58
  rw [lv_osw z0 (by decide), lv_osw z1 (by decide)]
  rfl
set_option maxRecDepth 20000 in
theorem sw10_works_70 {l : Launch} {G : GG} {d : Nat} {L st : List Value} {h : Hp} {Q : Option Value → Hp → Prop} {x : Int32} (k0 : x = nI 42 → Gw l G d m10_works 186 L st h Q) (k1 : x = nI 43 → Gw l G d m10_works 168 L st h Q) (k2 : x = nI 45 → Gw l G d m10_works 177 L st h Q) (k3 : x = nI 47 → Gw l G d m10_works 221 L st h Q) (k4 : x = nI 60 → Gw l G d m10_works 238 L st h Q) (k5 : x = nI 61 → Gw l G d m10_works 278 L st h Q) (k6 : x = nI 62 → Gw l G d m10_works 258 L st h Q) (k7 : x = nI 256 → Gw l G d m10_works 298 L st h Q) (k8 : x = nI 257 → Gw l G d m10_works 338 L st h Q) (k9 : x = nI 258 → Gw l G d m10_works 318 L st h Q) (k10 : x = nI 261 → Gw l G d m10_works 358 L st h Q) (kd : ¬ x = nI 42 → ¬ x = nI 43 → ¬ x = nI 45 → ¬ x = nI 47 → ¬ x = nI 60 → ¬ x = nI 61 → ¬ x = nI 62 → ¬ x = nI 256 → ¬ x = nI 257 → ¬ x = nI 258 → ¬ x = nI 261 → Gw l G d m10_works 384 L st h Q) : Gw l G d m10_works 70 L (.int x :: st) h Q := by
  by_cases z0 : x = nI 42
  · exact e_lookup (tgt := 186) (off := 116) rfl (by decide) (by rw [z0]; decide) rfl (k0 z0)
  by_cases z1 : x = nI 43
  · exact e_lookup (tgt := 168) (off := 98) rfl (by decide) (by rw [z1]; decide) rfl (k1 z1)
  by_cases z2 : x = nI 45
  · exact e_lookup (tgt := 177) (off := 107) rfl (by decide) (by rw [z2]; decide) rfl (k2 z2)
  by_cases z3 : x = nI 47
  · exact e_lookup (tgt := 221) (off := 151) rfl (by decide) (by rw [z3]; decide) rfl (k3 z3)
  by_cases z4 : x = nI 60
  · exact e_lookup (tgt := 238) (off := 168) rfl (by decide) (by rw [z4]; decide) rfl (k4 z4)
  by_cases z5 : x = nI 61
  · exact e_lookup (tgt := 278) (off := 208) rfl (by decide) (by rw [z5]; decide) rfl (k5 z5)
  by_cases z6 : x = nI 62
  · exact e_lookup (tgt := 258) (off := 188) rfl (by decide) (by rw [z6]; decide) rfl (k6 z6)
  by_cases z7 : x = nI 256
  · exact e_lookup (tgt := 298) (off := 228) rfl (by decide) (by rw [z7]; decide) rfl (k7 z7)
  by_cases z8 : x = nI 257
  · exact e_lookup (tgt := 338) (off := 268) rfl (by decide) (by rw [z8]; decide) rfl (k8 z8)
  by_cases z9 : x = nI 258
  · exact e_lookup (tgt := 318) (off := 248) rfl (by decide) (by rw [z9]; decide) rfl (k9 z9)
  by_cases z10 : x = nI 261
  · exact e_lookup (tgt := 358) (off := 288) rfl (by decide) (by rw [z10]; decide) rfl (k10 z10)
  refine e_lookup (tgt := 384) (off := 314) rfl (by decide) ?_ rfl (kd z0 z1 z2 z3 z4 z5 z6 z7 z8 z9 z10)
  show Op.lookupswitch.offset [(42, 116), (43, 98), (45, 107), (47, 151), (60, 168), (61, 208), (62, 188), (256, 228), (257, 268), (258, 248), (261, 288)] 314 x.toInt = 314
  rw [lv_osw z0 (by decide), lv_osw z1 (by decide), lv_osw z2 (by decide), lv_osw z3 (by decide), lv_osw z4 (by decide), lv_osw z5 (by decide), lv_osw z6 (by decide), lv_osw z7 (by decide), lv_osw z8 (by decide), lv_osw z9 (by decide), lv_osw z10 (by decide)]
  rfl
set_option maxRecDepth 20000 in
theorem sw10_tin_41 {l : Launch} {G : GG} {d : Nat} {L st : List Value} {h : Hp} {Q : Option Value → Hp → Prop} {x : Int32} (k0 : x = nI 0 → Gw l G d m10_tin 80 L st h Q) (k1 : x = nI 1 → Gw l G d m10_tin 87 L st h Q) (k2 : x = nI 2 → Gw l G d m10_tin 94 L st h Q) (k3 : x = nI 3 → Gw l G d m10_tin 101 L st h Q) (k4 : x = nI 4 → Gw l G d m10_tin 108 L st h Q) (k5 : x = nI 5 → Gw l G d m10_tin 115 L st h Q) (kd : ¬ x = nI 0 → ¬ x = nI 1 → ¬ x = nI 2 → ¬ x = nI 3 → ¬ x = nI 4 → ¬ x = nI 5 → Gw l G d m10_tin 122 L st h Q) : Gw l G d m10_tin 41 L (.int x :: st) h Q := by
  by_cases z0 : x = nI 0
  · exact e_tableIn (tgt := 80) (off := 39) rfl (by rw [z0]; decide) (by rw [z0]; decide) (by rw [z0]; decide) rfl (k0 z0)
  by_cases z1 : x = nI 1
  · exact e_tableIn (tgt := 87) (off := 46) rfl (by rw [z1]; decide) (by rw [z1]; decide) (by rw [z1]; decide) rfl (k1 z1)
  by_cases z2 : x = nI 2
  · exact e_tableIn (tgt := 94) (off := 53) rfl (by rw [z2]; decide) (by rw [z2]; decide) (by rw [z2]; decide) rfl (k2 z2)
  by_cases z3 : x = nI 3
  · exact e_tableIn (tgt := 101) (off := 60) rfl (by rw [z3]; decide) (by rw [z3]; decide) (by rw [z3]; decide) rfl (k3 z3)
  by_cases z4 : x = nI 4
  · exact e_tableIn (tgt := 108) (off := 67) rfl (by rw [z4]; decide) (by rw [z4]; decide) (by rw [z4]; decide) rfl (k4 z4)
  by_cases z5 : x = nI 5
  · exact e_tableIn (tgt := 115) (off := 74) rfl (by rw [z5]; decide) (by rw [z5]; decide) (by rw [z5]; decide) rfl (k5 z5)
  have y0 := lv_neT z0 (show (nI 0).toInt = 0 by decide)
  have y1 := lv_neT z1 (show (nI 1).toInt = 1 by decide)
  have y2 := lv_neT z2 (show (nI 2).toInt = 2 by decide)
  have y3 := lv_neT z3 (show (nI 3).toInt = 3 by decide)
  have y4 := lv_neT z4 (show (nI 4).toInt = 4 by decide)
  have y5 := lv_neT z5 (show (nI 5).toInt = 5 by decide)
  exact e_tableOut (tgt := 122) rfl (by omega) rfl (kd z0 z1 z2 z3 z4 z5)
set_option maxRecDepth 20000 in
theorem sw10_kind_16 {l : Launch} {G : GG} {d : Nat} {L st : List Value} {h : Hp} {Q : Option Value → Hp → Prop} {x : Int32} (k0 : x = nI 0 → Gw l G d m10_kind 48 L st h Q) (k1 : x = nI 1 → Gw l G d m10_kind 55 L st h Q) (k2 : x = nI 2 → Gw l G d m10_kind 62 L st h Q) (k3 : x = nI 3 → Gw l G d m10_kind 69 L st h Q) (kd : ¬ x = nI 0 → ¬ x = nI 1 → ¬ x = nI 2 → ¬ x = nI 3 → Gw l G d m10_kind 76 L st h Q) : Gw l G d m10_kind 16 L (.int x :: st) h Q := by
  by_cases z0 : x = nI 0
  · exact e_tableIn (tgt := 48) (off := 32) rfl (by rw [z0]; decide) (by rw [z0]; decide) (by rw [z0]; decide) rfl (k0 z0)
  by_cases z1 : x = nI 1
  · exact e_tableIn (tgt := 55) (off := 39) rfl (by rw [z1]; decide) (by rw [z1]; decide) (by rw [z1]; decide) rfl (k1 z1)
  by_cases z2 : x = nI 2
  · exact e_tableIn (tgt := 62) (off := 46) rfl (by rw [z2]; decide) (by rw [z2]; decide) (by rw [z2]; decide) rfl (k2 z2)
  by_cases z3 : x = nI 3
  · exact e_tableIn (tgt := 69) (off := 53) rfl (by rw [z3]; decide) (by rw [z3]; decide) (by rw [z3]; decide) rfl (k3 z3)
  have y0 := lv_neT z0 (show (nI 0).toInt = 0 by decide)
  have y1 := lv_neT z1 (show (nI 1).toInt = 1 by decide)
  have y2 := lv_neT z2 (show (nI 2).toInt = 2 by decide)
  have y3 := lv_neT z3 (show (nI 3).toInt = 3 by decide)
  exact e_tableOut (tgt := 76) rfl (by omega) rfl (kd z0 z1 z2 z3)
set_option maxRecDepth 20000 in
theorem sw10_ahead_32 {l : Launch} {G : GG} {d : Nat} {L st : List Value} {h : Hp} {Q : Option Value → Hp → Prop} {x : Int32} (k0 : x = nI 0 → Gw l G d m10_ahead 64 L st h Q) (k1 : x = nI 1 → Gw l G d m10_ahead 78 L st h Q) (k2 : x = nI 2 → Gw l G d m10_ahead 92 L st h Q) (k3 : x = nI 3 → Gw l G d m10_ahead 106 L st h Q) (kd : ¬ x = nI 0 → ¬ x = nI 1 → ¬ x = nI 2 → ¬ x = nI 3 → Gw l G d m10_ahead 120 L st h Q) : Gw l G d m10_ahead 32 L (.int x :: st) h Q := by
  by_cases z0 : x = nI 0
  · exact e_tableIn (tgt := 64) (off := 32) rfl (by rw [z0]; decide) (by rw [z0]; decide) (by rw [z0]; decide) rfl (k0 z0)
  by_cases z1 : x = nI 1
  · exact e_tableIn (tgt := 78) (off := 46) rfl (by rw [z1]; decide) (by rw [z1]; decide) (by rw [z1]; decide) rfl (k1 z1)
  by_cases z2 : x = nI 2
  · exact e_tableIn (tgt := 92) (off := 60) rfl (by rw [z2]; decide) (by rw [z2]; decide) (by rw [z2]; decide) rfl (k2 z2)
  by_cases z3 : x = nI 3
  · exact e_tableIn (tgt := 106) (off := 74) rfl (by rw [z3]; decide) (by rw [z3]; decide) (by rw [z3]; decide) rfl (k3 z3)
  have y0 := lv_neT z0 (show (nI 0).toInt = 0 by decide)
  have y1 := lv_neT z1 (show (nI 1).toInt = 1 by decide)
  have y2 := lv_neT z2 (show (nI 2).toInt = 2 by decide)
  have y3 := lv_neT z3 (show (nI 3).toInt = 3 by decide)
  exact e_tableOut (tgt := 120) rfl (by omega) rfl (kd z0 z1 z2 z3)
set_option maxRecDepth 20000 in
theorem sw10_count_6 {l : Launch} {G : GG} {d : Nat} {L st : List Value} {h : Hp} {Q : Option Value → Hp → Prop} {x : Int32} (k0 : x = nI 0 → Gw l G d m10_count 84 L st h Q) (k1 : x = nI 1 → Gw l G d m10_count 91 L st h Q) (k2 : x = nI 2 → Gw l G d m10_count 98 L st h Q) (k3 : x = nI 3 → Gw l G d m10_count 105 L st h Q) (k4 : x = nI 4 → Gw l G d m10_count 113 L st h Q) (k5 : x = nI 5 → Gw l G d m10_count 120 L st h Q) (k6 : x = nI 6 → Gw l G d m10_count 127 L st h Q) (k7 : x = nI 7 → Gw l G d m10_count 134 L st h Q) (k8 : x = nI 8 → Gw l G d m10_count 141 L st h Q) (k9 : x = nI 9 → Gw l G d m10_count 148 L st h Q) (k10 : x = nI 10 → Gw l G d m10_count 155 L st h Q) (k11 : x = nI 11 → Gw l G d m10_count 162 L st h Q) (k12 : x = nI 12 → Gw l G d m10_count 169 L st h Q) (k13 : x = nI 13 → Gw l G d m10_count 176 L st h Q) (k14 : x = nI 14 → Gw l G d m10_count 181 L st h Q) (k15 : x = nI 15 → Gw l G d m10_count 186 L st h Q) (kd : ¬ x = nI 0 → ¬ x = nI 1 → ¬ x = nI 2 → ¬ x = nI 3 → ¬ x = nI 4 → ¬ x = nI 5 → ¬ x = nI 6 → ¬ x = nI 7 → ¬ x = nI 8 → ¬ x = nI 9 → ¬ x = nI 10 → ¬ x = nI 11 → ¬ x = nI 12 → ¬ x = nI 13 → ¬ x = nI 14 → ¬ x = nI 15 → Gw l G d m10_count 191 L st h Q) : Gw l G d m10_count 6 L (.int x :: st) h Q := by
  by_cases z0 : x = nI 0
  · exact e_tableIn (tgt := 84) (off := 78) rfl (by rw [z0]; decide) (by rw [z0]; decide) (by rw [z0]; decide) rfl (k0 z0)
  by_cases z1 : x = nI 1
  · exact e_tableIn (tgt := 91) (off := 85) rfl (by rw [z1]; decide) (by rw [z1]; decide) (by rw [z1]; decide) rfl (k1 z1)
  by_cases z2 : x = nI 2
  · exact e_tableIn (tgt := 98) (off := 92) rfl (by rw [z2]; decide) (by rw [z2]; decide) (by rw [z2]; decide) rfl (k2 z2)
  by_cases z3 : x = nI 3
  · exact e_tableIn (tgt := 105) (off := 99) rfl (by rw [z3]; decide) (by rw [z3]; decide) (by rw [z3]; decide) rfl (k3 z3)
  by_cases z4 : x = nI 4
  · exact e_tableIn (tgt := 113) (off := 107) rfl (by rw [z4]; decide) (by rw [z4]; decide) (by rw [z4]; decide) rfl (k4 z4)
  by_cases z5 : x = nI 5
  · exact e_tableIn (tgt := 120) (off := 114) rfl (by rw [z5]; decide) (by rw [z5]; decide) (by rw [z5]; decide) rfl (k5 z5)
  by_cases z6 : x = nI 6
  · exact e_tableIn (tgt := 127) (off := 121) rfl (by rw [z6]; decide) (by rw [z6]; decide) (by rw [z6]; decide) rfl (k6 z6)
  by_cases z7 : x = nI 7
  · exact e_tableIn (tgt := 134) (off := 128) rfl (by rw [z7]; decide) (by rw [z7]; decide) (by rw [z7]; decide) rfl (k7 z7)
  by_cases z8 : x = nI 8
  · exact e_tableIn (tgt := 141) (off := 135) rfl (by rw [z8]; decide) (by rw [z8]; decide) (by rw [z8]; decide) rfl (k8 z8)
  by_cases z9 : x = nI 9
  · exact e_tableIn (tgt := 148) (off := 142) rfl (by rw [z9]; decide) (by rw [z9]; decide) (by rw [z9]; decide) rfl (k9 z9)
  by_cases z10 : x = nI 10
  · exact e_tableIn (tgt := 155) (off := 149) rfl (by rw [z10]; decide) (by rw [z10]; decide) (by rw [z10]; decide) rfl (k10 z10)
  by_cases z11 : x = nI 11
  · exact e_tableIn (tgt := 162) (off := 156) rfl (by rw [z11]; decide) (by rw [z11]; decide) (by rw [z11]; decide) rfl (k11 z11)
  by_cases z12 : x = nI 12
  · exact e_tableIn (tgt := 169) (off := 163) rfl (by rw [z12]; decide) (by rw [z12]; decide) (by rw [z12]; decide) rfl (k12 z12)
  by_cases z13 : x = nI 13
  · exact e_tableIn (tgt := 176) (off := 170) rfl (by rw [z13]; decide) (by rw [z13]; decide) (by rw [z13]; decide) rfl (k13 z13)
  by_cases z14 : x = nI 14
  · exact e_tableIn (tgt := 181) (off := 175) rfl (by rw [z14]; decide) (by rw [z14]; decide) (by rw [z14]; decide) rfl (k14 z14)
  by_cases z15 : x = nI 15
  · exact e_tableIn (tgt := 186) (off := 180) rfl (by rw [z15]; decide) (by rw [z15]; decide) (by rw [z15]; decide) rfl (k15 z15)
  have y0 := lv_neT z0 (show (nI 0).toInt = 0 by decide)
  have y1 := lv_neT z1 (show (nI 1).toInt = 1 by decide)
  have y2 := lv_neT z2 (show (nI 2).toInt = 2 by decide)
  have y3 := lv_neT z3 (show (nI 3).toInt = 3 by decide)
  have y4 := lv_neT z4 (show (nI 4).toInt = 4 by decide)
  have y5 := lv_neT z5 (show (nI 5).toInt = 5 by decide)
  have y6 := lv_neT z6 (show (nI 6).toInt = 6 by decide)
  have y7 := lv_neT z7 (show (nI 7).toInt = 7 by decide)
  have y8 := lv_neT z8 (show (nI 8).toInt = 8 by decide)
  have y9 := lv_neT z9 (show (nI 9).toInt = 9 by decide)
  have y10 := lv_neT z10 (show (nI 10).toInt = 10 by decide)
  have y11 := lv_neT z11 (show (nI 11).toInt = 11 by decide)
  have y12 := lv_neT z12 (show (nI 12).toInt = 12 by decide)
  have y13 := lv_neT z13 (show (nI 13).toInt = 13 by decide)
  have y14 := lv_neT z14 (show (nI 14).toInt = 14 by decide)
  have y15 := lv_neT z15 (show (nI 15).toInt = 15 by decide)
  exact e_tableOut (tgt := 191) rfl (by omega) rfl (kd z0 z1 z2 z3 z4 z5 z6 z7 z8 z9 z10 z11 z12 z13 z14 z15)
