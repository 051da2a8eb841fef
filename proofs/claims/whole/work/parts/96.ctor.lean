/-! ===== constructors ===== -/
theorem mN_wP (h : Hp) (a k : Nat) (v : Option Nat) : mN (wP h a k v) = mN h := rfl
theorem mN_wI (h : Hp) (a k : Nat) (v : Int32) : mN (wI h a k v) = mN h := rfl
theorem mN_mn (h : Hp) (w m : Nat) : mN (mnH h w m) = mN h + 1 + w := rfl
theorem kS_nA {h : Hp} {kd n b : Nat} (hb : b < mN h) : mS (nA h kd n) b = mS h b := if_neg (by omega)
theorem kS_mn {h : Hp} {w m b : Nat} (hb : b < mN h) : mS (mnH h w m) b = mS h b := (if_neg (by omega)).trans (if_neg (by omega))
theorem kS_new (h : Hp) (kd n : Nat) : (mS (nA h kd n) (mN h)).1 = kd := by rw [mS_nA, if_pos rfl]
/-- a new row, put at place k of a -/
def aN (h : Hp) (a k kd n : Nat) : Hp := wP (nA h kd n) a k (some (mN h))
def rowsH (h : Hp) (a m w : Nat) : Hp := wP (mnH (wI h a 0 (nI m)) w m) a 1 (some (mN h))
def rN (h : Hp) (a k m w : Nat) : Hp := wP (rowsH (nA h 4 0) (mN h) m w) a k (some (mN h))
def lawsH (h : Hp) (a : Nat) : Hp := aN (aN (aN (aN h a 0 20 64) a 1 20 3) a 2 20 3) a 3 23 64
def stateH (h : Hp) (a : Nat) : Hp := aN (aN (aN (aN (aN (aN (aN h a 0 20 8) a 1 20 8) a 2 20 8) a 3 20 8) a 4 20 8) a 5 20 8) a 6 20 8
def plan4 (h : Hp) (a : Nat) : Hp := rN (rN (rN (rN h a 0 6 3) a 1 8 5) a 2 10 2) a 3 8 3
def planL (h : Hp) (a : Nat) : Hp := wP (lawsH (nA h 1 0) (mN h)) a 4 (some (mN h))
def planH (h : Hp) (a : Nat) : Hp := wI (wI (wI (planL (plan4 h a) a) a 5 (nI 20)) a 8 (-1)) a 9 (-1)
def wordsH (h : Hp) (c : Nat) : Nat → Hp
  | 0 => h
  | k + 1 => wI (wordsH h c k) c k (nI (wd k))
def scanH (h : Hp) (a : Nat) : Hp := wordsH (aN (aN h a 0 20 21) a 1 21 0) (mN h) 21
def parserP (h : Hp) (a : Nat) : Hp := wP (planH (nA h 3 0) (mN h)) a 0 (some (mN h))
def parserS (h : Hp) (a : Nat) : Hp := wP (scanH (nA h 5 0) (mN h)) a 1 (some (mN h))
def parserH (h : Hp) (a : Nat) : Hp := wI (parserS (parserP h a) a) a 4 (-1)
def daysH (h : Hp) (a p : Nat) : Hp := wP (aN h a 1 20 7) a 0 (some p)
def toldH (h : Hp) (a : Nat) : Hp := wI (rN h a 0 24 4) a 1 (-1)
def stepsH (h : Hp) (a : Nat) : Hp := rN h a 0 20 4
theorem mN_aN (h : Hp) (a k kd n : Nat) : mN (aN h a k kd n) = mN h + 1 := rfl
theorem mN_rows (h : Hp) (a m w : Nat) : mN (rowsH h a m w) = mN h + 1 + w := rfl
theorem mN_rN (h : Hp) (a k m w : Nat) : mN (rN h a k m w) = mN h + 1 + 1 + w := rfl
theorem mN_laws (h : Hp) (a : Nat) : mN (lawsH h a) = mN h + 4 := rfl
theorem mN_state (h : Hp) (a : Nat) : mN (stateH h a) = mN h + 7 := rfl
theorem mN_plan4 (h : Hp) (a : Nat) : mN (plan4 h a) = mN h + 21 := by unfold plan4; simp only [mN_rN]
theorem mN_planL (h : Hp) (a : Nat) : mN (planL h a) = mN h + 5 := rfl
theorem mN_plan (h : Hp) (a : Nat) : mN (planH h a) = mN h + 26 := by unfold planH; simp only [mN_wI, mN_planL, mN_plan4]
theorem mN_words (h : Hp) (c : Nat) : ∀ k, mN (wordsH h c k) = mN h
  | 0 => rfl
  | k + 1 => mN_words h c k
theorem mN_scan (h : Hp) (a : Nat) : mN (scanH h a) = mN h + 2 := by unfold scanH; rw [mN_words]; rfl
theorem mN_parserP (h : Hp) (a : Nat) : mN (parserP h a) = mN h + 27 := by unfold parserP; rw [mN_wP, mN_plan, mN_nA]
theorem mN_parserS (h : Hp) (a : Nat) : mN (parserS h a) = mN h + 3 := by unfold parserS; rw [mN_wP, mN_scan, mN_nA]
theorem mN_parser (h : Hp) (a : Nat) : mN (parserH h a) = mN h + 30 := by unfold parserH; rw [mN_wI, mN_parserS, mN_parserP]
theorem mN_days (h : Hp) (a p : Nat) : mN (daysH h a p) = mN h + 1 := rfl
theorem mN_told (h : Hp) (a : Nat) : mN (toldH h a) = mN h + 6 := rfl
theorem mN_steps (h : Hp) (a : Nat) : mN (stepsH h a) = mN h + 6 := rfl
section KindS
variable {h : Hp} {a b k kd n m w p : Nat}
theorem kS_aN (hb : b < mN h) : mS (aN h a k kd n) b = mS h b := kS_nA hb
theorem kS_rows (hb : b < mN h) : mS (rowsH h a m w) b = mS h b := kS_mn (h := wI h a 0 (nI m)) hb
theorem kS_rN (hb : b < mN h) : mS (rN h a k m w) b = mS h b := (kS_rows (h := nA h 4 0) (by rw [mN_nA]; omega)).trans (kS_nA hb)
theorem kS_laws (hb : b < mN h) : mS (lawsH h a) b = mS h b := by unfold lawsH; simp (disch := ((try simp only [mN_aN]); omega)) only [kS_aN]
theorem kS_state (hb : b < mN h) : mS (stateH h a) b = mS h b := by unfold stateH; simp (disch := ((try simp only [mN_aN]); omega)) only [kS_aN]
theorem kS_plan4 (hb : b < mN h) : mS (plan4 h a) b = mS h b := by unfold plan4; simp (disch := ((try simp only [mN_rN]); omega)) only [kS_rN]
theorem kS_planL (hb : b < mN h) : mS (planL h a) b = mS h b := (kS_laws (h := nA h 1 0) (by rw [mN_nA]; omega)).trans (kS_nA hb)
theorem kS_plan (hb : b < mN h) : mS (planH h a) b = mS h b := (kS_planL (by rw [mN_plan4]; omega)).trans (kS_plan4 hb)
theorem kS_words {c : Nat} : ∀ k, mS (wordsH h c k) b = mS h b
  | 0 => rfl
  | k + 1 => kS_words k
theorem kS_scan (hb : b < mN h) : mS (scanH h a) b = mS h b := by unfold scanH; rw [kS_words, kS_aN (by rw [mN_aN]; omega), kS_aN hb]
theorem kS_parserP (hb : b < mN h) : mS (parserP h a) b = mS h b := (kS_plan (h := nA h 3 0) (by rw [mN_nA]; omega)).trans (kS_nA hb)
theorem kS_parserS (hb : b < mN h) : mS (parserS h a) b = mS h b := (kS_scan (h := nA h 5 0) (by rw [mN_nA]; omega)).trans (kS_nA hb)
theorem kS_parser (hb : b < mN h) : mS (parserH h a) b = mS h b := (kS_parserS (by rw [mN_parserP]; omega)).trans (kS_parserP hb)
theorem kS_days (hb : b < mN h) : mS (daysH h a p) b = mS h b := kS_aN (a := a) (k := 1) hb
theorem kS_told (hb : b < mN h) : mS (toldH h a) b = mS h b := kS_rN (a := a) (k := 0) hb
theorem kS_steps (hb : b < mN h) : mS (stepsH h a) b = mS h b := kS_rN hb
end KindS
theorem arr20 : Cond.arrayClass (aTy 20) ∈ gtbl := mem_g 174 (by decide +kernel) rfl
theorem arr21 : Cond.arrayClass (aTy 21) ∈ gtbl := mem_g 173 (by decide +kernel) rfl
theorem arr22 : Cond.arrayClass (aTy 22) ∈ gtbl := mem_g 1518 (by decide +kernel) rfl
theorem arr23 : Cond.arrayClass (aTy 23) ∈ gtbl := mem_g 205 (by decide +kernel) rfl
theorem ins0 : Cond.instantiable (kC 0) (kN 0) ∈ gtbl := mem_g 361 (by decide +kernel) rfl
theorem ins1 : Cond.instantiable (kC 1) (kN 1) ∈ gtbl := mem_g 176 (by decide +kernel) rfl
theorem ins2 : Cond.instantiable (kC 2) (kN 2) ∈ gtbl := mem_g 138 (by decide +kernel) rfl
theorem ins3 : Cond.instantiable (kC 3) (kN 3) ∈ gtbl := mem_g 144 (by decide +kernel) rfl
theorem ins4 : Cond.instantiable (kC 4) (kN 4) ∈ gtbl := mem_g 150 (by decide +kernel) rfl
theorem ins5 : Cond.instantiable (kC 5) (kN 5) ∈ gtbl := mem_g 264 (by decide +kernel) rfl
theorem ins6 : Cond.instantiable (kC 6) (kN 6) ∈ gtbl := mem_g 383 (by decide +kernel) rfl
theorem ins7 : Cond.instantiable (kC 7) (kN 7) ∈ gtbl := mem_g 486 (by decide +kernel) rfl
theorem ins8 : Cond.instantiable (kC 8) (kN 8) ∈ gtbl := mem_g 469 (by decide +kernel) rfl
theorem ins9 : Cond.instantiable (kC 9) (kN 9) ∈ gtbl := mem_g 130 (by decide +kernel) rfl
theorem ins10 : Cond.instantiable (kC 10) (kN 10) ∈ gtbl := mem_g 1306 (by decide +kernel) rfl
theorem clL_8 : Cond.classLink RL 8 (kC 9) ∈ gtbl := mem_g 129 (by decide +kernel) rfl
theorem cl9_15 : Cond.classLink RX9 15 (kC 2) ∈ gtbl := mem_g 137 (by decide +kernel) rfl
theorem cl2_9 : Cond.classLink RX2 9 (kC 3) ∈ gtbl := mem_g 143 (by decide +kernel) rfl
theorem cl3_9 : Cond.classLink RX3 9 (kC 4) ∈ gtbl := mem_g 149 (by decide +kernel) rfl
theorem cl4_15 : Cond.classLink RX4 15 ("[" ++ (FieldType.array .int).toString) ∈ gtbl := mem_g 155 (by decide +kernel) rfl
theorem cl3_29 : Cond.classLink RX3 29 (kC 1) ∈ gtbl := mem_g 175 (by decide +kernel) rfl
theorem cl2_18 : Cond.classLink RX2 18 (kC 5) ∈ gtbl := mem_g 263 (by decide +kernel) rfl
theorem cl9_22 : Cond.classLink RX9 22 (kC 3) ∈ gtbl := mem_g 358 (by decide +kernel) rfl
theorem cl9_29 : Cond.classLink RX9 29 (kC 0) ∈ gtbl := mem_g 360 (by decide +kernel) rfl
theorem cl9_38 : Cond.classLink RX9 38 (kC 6) ∈ gtbl := mem_g 382 (by decide +kernel) rfl
theorem cl9_51 : Cond.classLink RX9 51 (kC 8) ∈ gtbl := mem_g 468 (by decide +kernel) rfl
theorem cl8_9 : Cond.classLink RX8 9 (kC 4) ∈ gtbl := mem_g 474 (by decide +kernel) rfl
theorem cl9_58 : Cond.classLink RX9 58 (kC 7) ∈ gtbl := mem_g 485 (by decide +kernel) rfl
theorem cl7_9 : Cond.classLink RX7 9 (kC 4) ∈ gtbl := mem_g 491 (by decide +kernel) rfl
theorem clL_18 : Cond.classLink RL 18 (kC 10) ∈ gtbl := mem_g 1305 (by decide +kernel) rfl
theorem nar_ref {kd k b : Nat} (hkd : kd < 11) (hs : sty kd k = 2) : narrow (kTy kd k) (.ref b) = .ref b ∧ fits (kTy kd k) (.ref b) = true := by
  unfold sty at hs
  rw [if_pos hkd] at hs
  cases e : kTy kd k <;> rw [e] at hs <;> first | exact ⟨rfl, rfl⟩ | exact absurd hs (by decide)
section RowsP
variable {l : Launch} {G : GG} {d mc ms kc ks pc npc : Nat} {M : MD} {L st : List Value} {h h2 h' : Hp} {r : Option Value} {a b k kd n i : Nat}
theorem go_putFP (hc : lk M pc = some (.putfield i, npc, 3)) (hf : Fl M.1.cls i kd k) (hs : (mS h a).1 = kd) (hfin : (kT kd k).2.2.2 = true) (hnm : M.1.name = "<init>") (hcl : kC kd = M.1.cls) (ht : sty kd k = 2) (kk : Go l G d mc ms M kc ks npc L st (wP h a k (some b)) r h') : Go l G d mc ms M kc ks pc L (.ref b :: .ref a :: st) h r h' := go_putF (w := .ref b) (h2 := wP h a k (some b)) hc hf hs hfin hnm hcl (nar_ref hf.1 ht).1 (nar_ref hf.1 ht).2 rfl rfl (fun a' kd e => cv_wP_ne e _) (cv_wP ht b) kk
theorem go_putFI {v : Int32} (hc : lk M pc = some (.putfield i, npc, 3)) (hf : Fl M.1.cls i kd k) (hs : (mS h a).1 = kd) (hfin : (kT kd k).2.2.2 = true) (hnm : M.1.name = "<init>") (hcl : kC kd = M.1.cls) (ht : kTy kd k = .int) (kk : Go l G d mc ms M kc ks npc L st (wI h a k v) r h') : Go l G d mc ms M kc ks pc L (.int v :: .ref a :: st) h r h' := go_putF (w := .int v) (h2 := wI h a k v) hc hf hs hfin hnm hcl (by rw [ht]; rfl) (by rw [ht]; rfl) rfl rfl (fun a' kd e => cv_wI_ne e v) (cv_wI (sty_of_int hf.1 ht) v) kk
theorem go_putQ (hc : lk M pc = some (.putfield i, npc, 3)) (hf : Fl M.1.cls i kd k) (hs : (mS h a).1 = kd) (hfin : (kT kd k).2.2.2 = false) (ht : sty kd k = 2) (kk : Go l G d mc ms M kc ks npc L st (wP h a k (some b)) r h') : Go l G d mc ms M kc ks pc L (.ref b :: .ref a :: st) h r h' := go_putV (w := .ref b) (h2 := wP h a k (some b)) hc hf hs hfin (nar_ref hf.1 ht).1 (nar_ref hf.1 ht).2 rfl rfl (fun a' kd e => cv_wP_ne e _) (cv_wP ht b) kk
end RowsP
section Ctors
variable {l : Launch} {G : GG} {d : Nat} {h : Hp} {a : Nat}
theorem c4_init {m w : Nat} (ha : a < mN h) (hs : (mS h a).1 = 4) (hw : w ≤ 100) (hm : m ≤ 100) : Ct l G (d + 1) (1 + w) (w + w * m) m4_init [.ref a, .int (nI m), .int (nI w)] h none (rowsH h a m w) := by
  refine Ct.of ok4_init rfl (rfl : argL _ _ = [.ref a, .int (nI m), .int (nI w)]) ?_
  refine go_aload_n rfl rfl ?_
  refine go_objInit rfl v4_3 rfl ?_
  refine go_aload_n rfl rfl ?_
  refine go_iload_n rfl rfl ?_
  refine go_putFI rfl f4_9 (by first | exact hs | (simp (disch := ((try simp only [mN_wP, mN_wI, mN_nA, mN_mn, mN_aN, mN_rows, mN_rN, mN_laws, mN_state, mN_plan, mN_words, mN_scan, mN_parser, mN_days, mN_told, mN_steps, mN_plan4, mN_planL, mN_parserP, mN_parserS]); omega)) only [mS_wP, mS_wI, kS_nA, kS_mn, kS_aN, kS_rows, kS_rN, kS_laws, kS_state, kS_plan, kS_words, kS_scan, kS_parser, kS_days, kS_told, kS_steps, kS_plan4, kS_planL, kS_parserP, kS_parserS]; exact hs)) rfl rfl rfl rfl ?_
  refine go_aload_n rfl rfl ?_
  refine go_iload_n rfl rfl ?_
  refine go_iload_n rfl rfl ?_
  refine go_mna (kc := 0) (ks := 0) rfl cl4_15 arr20 hw hm (by omega) (by omega) ?_
  rw [show 0 + 1 + w = 1 + w by omega, show 0 + w + w * m = w + w * m by omega]
  refine go_putFP rfl f4_17 (by first | exact hs | (simp (disch := ((try simp only [mN_wP, mN_wI, mN_nA, mN_mn, mN_aN, mN_rows, mN_rN, mN_laws, mN_state, mN_plan, mN_words, mN_scan, mN_parser, mN_days, mN_told, mN_steps, mN_plan4, mN_planL, mN_parserP, mN_parserS]); omega)) only [mS_wP, mS_wI, kS_nA, kS_mn, kS_aN, kS_rows, kS_rN, kS_laws, kS_state, kS_plan, kS_words, kS_scan, kS_parser, kS_days, kS_told, kS_steps, kS_plan4, kS_planL, kS_parserP, kS_parserS]; exact hs)) rfl rfl rfl rfl ?_
  exact go_return rfl rfl rfl rfl
theorem c1_init (ha : a < mN h) (hs : (mS h a).1 = 1) : Ct l G (d + 1) 4 134 m1_init [.ref a] h none (lawsH h a) := by
  refine Ct.of ok1_init rfl (rfl : argL _ _ = [.ref a]) ?_
  refine go_aload_n rfl rfl ?_
  refine go_objInit rfl v1_3 rfl ?_
  refine go_aload_n rfl rfl ?_
  refine go_bipush (v := nI 64) rfl bp_64N ?_
  refine go_newa (kd := 20) rfl (by decide) (by decide) rfl arr20 (by decide) (by decide) (by decide) ?_
  refine go_putFP rfl f1_9 (by first | exact hs | (simp (disch := ((try simp only [mN_wP, mN_wI, mN_nA, mN_mn, mN_aN, mN_rows, mN_rN, mN_laws, mN_state, mN_plan, mN_words, mN_scan, mN_parser, mN_days, mN_told, mN_steps, mN_plan4, mN_planL, mN_parserP, mN_parserS]); omega)) only [mS_wP, mS_wI, kS_nA, kS_mn, kS_aN, kS_rows, kS_rN, kS_laws, kS_state, kS_plan, kS_words, kS_scan, kS_parser, kS_days, kS_told, kS_steps, kS_plan4, kS_planL, kS_parserP, kS_parserS]; exact hs)) rfl rfl rfl rfl ?_
  refine go_aload_n rfl rfl ?_
  refine go_iconst (v := nI 3) rfl ic_3N ?_
  refine go_newa (kd := 20) rfl (by decide) (by decide) rfl arr20 (by decide) (by decide) (by decide) ?_
  refine go_putFP rfl f1_15 (by first | exact hs | (simp (disch := ((try simp only [mN_wP, mN_wI, mN_nA, mN_mn, mN_aN, mN_rows, mN_rN, mN_laws, mN_state, mN_plan, mN_words, mN_scan, mN_parser, mN_days, mN_told, mN_steps, mN_plan4, mN_planL, mN_parserP, mN_parserS]); omega)) only [mS_wP, mS_wI, kS_nA, kS_mn, kS_aN, kS_rows, kS_rN, kS_laws, kS_state, kS_plan, kS_words, kS_scan, kS_parser, kS_days, kS_told, kS_steps, kS_plan4, kS_planL, kS_parserP, kS_parserS]; exact hs)) rfl rfl rfl rfl ?_
  refine go_aload_n rfl rfl ?_
  refine go_iconst (v := nI 3) rfl ic_3N ?_
  refine go_newa (kd := 20) rfl (by decide) (by decide) rfl arr20 (by decide) (by decide) (by decide) ?_
  refine go_putFP rfl f1_18 (by first | exact hs | (simp (disch := ((try simp only [mN_wP, mN_wI, mN_nA, mN_mn, mN_aN, mN_rows, mN_rN, mN_laws, mN_state, mN_plan, mN_words, mN_scan, mN_parser, mN_days, mN_told, mN_steps, mN_plan4, mN_planL, mN_parserP, mN_parserS]); omega)) only [mS_wP, mS_wI, kS_nA, kS_mn, kS_aN, kS_rows, kS_rN, kS_laws, kS_state, kS_plan, kS_words, kS_scan, kS_parser, kS_days, kS_told, kS_steps, kS_plan4, kS_planL, kS_parserP, kS_parserS]; exact hs)) rfl rfl rfl rfl ?_
  refine go_aload_n rfl rfl ?_
  refine go_bipush (v := nI 64) rfl bp_64N ?_
  refine go_newa (kd := 23) rfl (by decide) (by decide) rfl arr23 (by decide) (by decide) (by decide) ?_
  refine go_putFP rfl f1_21 (by first | exact hs | (simp (disch := ((try simp only [mN_wP, mN_wI, mN_nA, mN_mn, mN_aN, mN_rows, mN_rN, mN_laws, mN_state, mN_plan, mN_words, mN_scan, mN_parser, mN_days, mN_told, mN_steps, mN_plan4, mN_planL, mN_parserP, mN_parserS]); omega)) only [mS_wP, mS_wI, kS_nA, kS_mn, kS_aN, kS_rows, kS_rN, kS_laws, kS_state, kS_plan, kS_words, kS_scan, kS_parser, kS_days, kS_told, kS_steps, kS_plan4, kS_planL, kS_parserP, kS_parserS]; exact hs)) rfl rfl rfl rfl ?_
  exact go_return rfl rfl rfl rfl
theorem c6_init (ha : a < mN h) (hs : (mS h a).1 = 6) : Ct l G (d + 1) 7 56 m6_init [.ref a] h none (stateH h a) := by
  refine Ct.of ok6_init rfl (rfl : argL _ _ = [.ref a]) ?_
  refine go_aload_n rfl rfl ?_
  refine go_objInit rfl v6_3 rfl ?_
  refine go_aload_n rfl rfl ?_
  refine go_bipush (v := nI 8) rfl bp_8N ?_
  refine go_newa (kd := 20) rfl (by decide) (by decide) rfl arr20 (by decide) (by decide) (by decide) ?_
  refine go_putFP rfl f6_9 (by first | exact hs | (simp (disch := ((try simp only [mN_wP, mN_wI, mN_nA, mN_mn, mN_aN, mN_rows, mN_rN, mN_laws, mN_state, mN_plan, mN_words, mN_scan, mN_parser, mN_days, mN_told, mN_steps, mN_plan4, mN_planL, mN_parserP, mN_parserS]); omega)) only [mS_wP, mS_wI, kS_nA, kS_mn, kS_aN, kS_rows, kS_rN, kS_laws, kS_state, kS_plan, kS_words, kS_scan, kS_parser, kS_days, kS_told, kS_steps, kS_plan4, kS_planL, kS_parserP, kS_parserS]; exact hs)) rfl rfl rfl rfl ?_
  refine go_aload_n rfl rfl ?_
  refine go_bipush (v := nI 8) rfl bp_8N ?_
  refine go_newa (kd := 20) rfl (by decide) (by decide) rfl arr20 (by decide) (by decide) (by decide) ?_
  refine go_putFP rfl f6_15 (by first | exact hs | (simp (disch := ((try simp only [mN_wP, mN_wI, mN_nA, mN_mn, mN_aN, mN_rows, mN_rN, mN_laws, mN_state, mN_plan, mN_words, mN_scan, mN_parser, mN_days, mN_told, mN_steps, mN_plan4, mN_planL, mN_parserP, mN_parserS]); omega)) only [mS_wP, mS_wI, kS_nA, kS_mn, kS_aN, kS_rows, kS_rN, kS_laws, kS_state, kS_plan, kS_words, kS_scan, kS_parser, kS_days, kS_told, kS_steps, kS_plan4, kS_planL, kS_parserP, kS_parserS]; exact hs)) rfl rfl rfl rfl ?_
  refine go_aload_n rfl rfl ?_
  refine go_bipush (v := nI 8) rfl bp_8N ?_
  refine go_newa (kd := 20) rfl (by decide) (by decide) rfl arr20 (by decide) (by decide) (by decide) ?_
  refine go_putFP rfl f6_18 (by first | exact hs | (simp (disch := ((try simp only [mN_wP, mN_wI, mN_nA, mN_mn, mN_aN, mN_rows, mN_rN, mN_laws, mN_state, mN_plan, mN_words, mN_scan, mN_parser, mN_days, mN_told, mN_steps, mN_plan4, mN_planL, mN_parserP, mN_parserS]); omega)) only [mS_wP, mS_wI, kS_nA, kS_mn, kS_aN, kS_rows, kS_rN, kS_laws, kS_state, kS_plan, kS_words, kS_scan, kS_parser, kS_days, kS_told, kS_steps, kS_plan4, kS_planL, kS_parserP, kS_parserS]; exact hs)) rfl rfl rfl rfl ?_
  refine go_aload_n rfl rfl ?_
  refine go_bipush (v := nI 8) rfl bp_8N ?_
  refine go_newa (kd := 20) rfl (by decide) (by decide) rfl arr20 (by decide) (by decide) (by decide) ?_
  refine go_putFP rfl f6_21 (by first | exact hs | (simp (disch := ((try simp only [mN_wP, mN_wI, mN_nA, mN_mn, mN_aN, mN_rows, mN_rN, mN_laws, mN_state, mN_plan, mN_words, mN_scan, mN_parser, mN_days, mN_told, mN_steps, mN_plan4, mN_planL, mN_parserP, mN_parserS]); omega)) only [mS_wP, mS_wI, kS_nA, kS_mn, kS_aN, kS_rows, kS_rN, kS_laws, kS_state, kS_plan, kS_words, kS_scan, kS_parser, kS_days, kS_told, kS_steps, kS_plan4, kS_planL, kS_parserP, kS_parserS]; exact hs)) rfl rfl rfl rfl ?_
  refine go_aload_n rfl rfl ?_
  refine go_bipush (v := nI 8) rfl bp_8N ?_
  refine go_newa (kd := 20) rfl (by decide) (by decide) rfl arr20 (by decide) (by decide) (by decide) ?_
  refine go_putFP rfl f6_24 (by first | exact hs | (simp (disch := ((try simp only [mN_wP, mN_wI, mN_nA, mN_mn, mN_aN, mN_rows, mN_rN, mN_laws, mN_state, mN_plan, mN_words, mN_scan, mN_parser, mN_days, mN_told, mN_steps, mN_plan4, mN_planL, mN_parserP, mN_parserS]); omega)) only [mS_wP, mS_wI, kS_nA, kS_mn, kS_aN, kS_rows, kS_rN, kS_laws, kS_state, kS_plan, kS_words, kS_scan, kS_parser, kS_days, kS_told, kS_steps, kS_plan4, kS_planL, kS_parserP, kS_parserS]; exact hs)) rfl rfl rfl rfl ?_
  refine go_aload_n rfl rfl ?_
  refine go_bipush (v := nI 8) rfl bp_8N ?_
  refine go_newa (kd := 20) rfl (by decide) (by decide) rfl arr20 (by decide) (by decide) (by decide) ?_
  refine go_putFP rfl f6_27 (by first | exact hs | (simp (disch := ((try simp only [mN_wP, mN_wI, mN_nA, mN_mn, mN_aN, mN_rows, mN_rN, mN_laws, mN_state, mN_plan, mN_words, mN_scan, mN_parser, mN_days, mN_told, mN_steps, mN_plan4, mN_planL, mN_parserP, mN_parserS]); omega)) only [mS_wP, mS_wI, kS_nA, kS_mn, kS_aN, kS_rows, kS_rN, kS_laws, kS_state, kS_plan, kS_words, kS_scan, kS_parser, kS_days, kS_told, kS_steps, kS_plan4, kS_planL, kS_parserP, kS_parserS]; exact hs)) rfl rfl rfl rfl ?_
  refine go_aload_n rfl rfl ?_
  refine go_bipush (v := nI 8) rfl bp_8N ?_
  refine go_newa (kd := 20) rfl (by decide) (by decide) rfl arr20 (by decide) (by decide) (by decide) ?_
  refine go_putFP rfl f6_30 (by first | exact hs | (simp (disch := ((try simp only [mN_wP, mN_wI, mN_nA, mN_mn, mN_aN, mN_rows, mN_rN, mN_laws, mN_state, mN_plan, mN_words, mN_scan, mN_parser, mN_days, mN_told, mN_steps, mN_plan4, mN_planL, mN_parserP, mN_parserS]); omega)) only [mS_wP, mS_wI, kS_nA, kS_mn, kS_aN, kS_rows, kS_rN, kS_laws, kS_state, kS_plan, kS_words, kS_scan, kS_parser, kS_days, kS_told, kS_steps, kS_plan4, kS_planL, kS_parserP, kS_parserS]; exact hs)) rfl rfl rfl rfl ?_
  exact go_return rfl rfl rfl rfl
theorem c0_init {p : Nat} (ha : a < mN h) (hs : (mS h a).1 = 0) : Ct l G (d + 1) 1 7 m0_init [.ref a, .ref p] h none (daysH h a p) := by
  refine Ct.of ok0_init rfl (rfl : argL _ _ = [.ref a, .ref p]) ?_
  refine go_aload_n rfl rfl ?_
  refine go_objInit rfl v0_3 rfl ?_
  refine go_aload_n rfl rfl ?_
  refine go_bipush (v := nI 7) rfl bp_7N ?_
  refine go_newa (kd := 20) rfl (by decide) (by decide) rfl arr20 (by decide) (by decide) (by decide) ?_
  refine go_putFP rfl f0_11 (by first | exact hs | (simp (disch := ((try simp only [mN_wP, mN_wI, mN_nA, mN_mn, mN_aN, mN_rows, mN_rN, mN_laws, mN_state, mN_plan, mN_words, mN_scan, mN_parser, mN_days, mN_told, mN_steps, mN_plan4, mN_planL, mN_parserP, mN_parserS]); omega)) only [mS_wP, mS_wI, kS_nA, kS_mn, kS_aN, kS_rows, kS_rN, kS_laws, kS_state, kS_plan, kS_words, kS_scan, kS_parser, kS_days, kS_told, kS_steps, kS_plan4, kS_planL, kS_parserP, kS_parserS]; exact hs)) rfl rfl rfl rfl ?_
  refine go_aload_n rfl rfl ?_
  refine go_aload_n rfl rfl ?_
  refine go_putFP rfl f0_15 (by first | exact hs | (simp (disch := ((try simp only [mN_wP, mN_wI, mN_nA, mN_mn, mN_aN, mN_rows, mN_rN, mN_laws, mN_state, mN_plan, mN_words, mN_scan, mN_parser, mN_days, mN_told, mN_steps, mN_plan4, mN_planL, mN_parserP, mN_parserS]); omega)) only [mS_wP, mS_wI, kS_nA, kS_mn, kS_aN, kS_rows, kS_rN, kS_laws, kS_state, kS_plan, kS_words, kS_scan, kS_parser, kS_days, kS_told, kS_steps, kS_plan4, kS_planL, kS_parserP, kS_parserS]; exact hs)) rfl rfl rfl rfl ?_
  exact go_return rfl rfl rfl rfl
theorem c7_init (ha : a < mN h) (hs : (mS h a).1 = 7) : Ct l G (d + 2) 6 87 m7_init [.ref a] h none (stepsH h a) := by
  refine Ct.of ok7_init rfl (rfl : argL _ _ = [.ref a]) ?_
  refine go_aload_n rfl rfl ?_
  refine go_objInit rfl v7_3 rfl ?_
  refine go_aload_n rfl rfl ?_
  refine go_new (kd := 4) rfl (by decide) cl7_9 ins4 ini4 (by decide) (by decide) ?_
  refine go_dup rfl rfl ?_
  refine go_bipush (v := nI 20) rfl bp_20N ?_
  refine go_iconst (v := nI 4) rfl ic_4N ?_
  refine go_callI (M2 := m4_init) rfl v7_11 ok4_init rfl (c4_init (d := d) (m := 20) (w := 4) (Nat.lt_succ_self _) (kS_new _ _ _) (by decide) (by decide)) rfl rfl rfl (by decide) (by decide) ?_
  refine go_putFP rfl f7_14 (by first | exact hs | (simp (disch := ((try simp only [mN_wP, mN_wI, mN_nA, mN_mn, mN_aN, mN_rows, mN_rN, mN_laws, mN_state, mN_plan, mN_words, mN_scan, mN_parser, mN_days, mN_told, mN_steps, mN_plan4, mN_planL, mN_parserP, mN_parserS]); omega)) only [mS_wP, mS_wI, kS_nA, kS_mn, kS_aN, kS_rows, kS_rN, kS_laws, kS_state, kS_plan, kS_words, kS_scan, kS_parser, kS_days, kS_told, kS_steps, kS_plan4, kS_planL, kS_parserP, kS_parserS]; exact hs)) rfl rfl rfl rfl ?_
  exact go_return rfl rfl rfl rfl
theorem c8_init (ha : a < mN h) (hs : (mS h a).1 = 8) : Ct l G (d + 2) 6 103 m8_init [.ref a] h none (toldH h a) := by
  refine Ct.of ok8_init rfl (rfl : argL _ _ = [.ref a]) ?_
  refine go_aload_n rfl rfl ?_
  refine go_objInit rfl v8_3 rfl ?_
  refine go_aload_n rfl rfl ?_
  refine go_new (kd := 4) rfl (by decide) cl8_9 ins4 ini4 (by decide) (by decide) ?_
  refine go_dup rfl rfl ?_
  refine go_bipush (v := nI 24) rfl bp_24N ?_
  refine go_iconst (v := nI 4) rfl ic_4N ?_
  refine go_callI (M2 := m4_init) rfl v8_11 ok4_init rfl (c4_init (d := d) (m := 24) (w := 4) (Nat.lt_succ_self _) (kS_new _ _ _) (by decide) (by decide)) rfl rfl rfl (by decide) (by decide) ?_
  refine go_putFP rfl f8_14 (by first | exact hs | (simp (disch := ((try simp only [mN_wP, mN_wI, mN_nA, mN_mn, mN_aN, mN_rows, mN_rN, mN_laws, mN_state, mN_plan, mN_words, mN_scan, mN_parser, mN_days, mN_told, mN_steps, mN_plan4, mN_planL, mN_parserP, mN_parserS]); omega)) only [mS_wP, mS_wI, kS_nA, kS_mn, kS_aN, kS_rows, kS_rN, kS_laws, kS_state, kS_plan, kS_words, kS_scan, kS_parser, kS_days, kS_told, kS_steps, kS_plan4, kS_planL, kS_parserP, kS_parserS]; exact hs)) rfl rfl rfl rfl ?_
  refine go_aload_n rfl rfl ?_
  refine go_iconst rfl ic_m1 ?_
  refine go_putI rfl f8_20 (by first | exact hs | (simp (disch := ((try simp only [mN_wP, mN_wI, mN_nA, mN_mn, mN_aN, mN_rows, mN_rN, mN_laws, mN_state, mN_plan, mN_words, mN_scan, mN_parser, mN_days, mN_told, mN_steps, mN_plan4, mN_planL, mN_parserP, mN_parserS]); omega)) only [mS_wP, mS_wI, kS_nA, kS_mn, kS_aN, kS_rows, kS_rN, kS_laws, kS_state, kS_plan, kS_words, kS_scan, kS_parser, kS_days, kS_told, kS_steps, kS_plan4, kS_planL, kS_parserP, kS_parserS]; exact hs)) rfl rfl ?_
  exact go_return rfl rfl rfl rfl
theorem c3_init (ha : a < mN h) (hs : (mS h a).1 = 3) : Ct l G (d + 2) 26 268 m3_init [.ref a] h none (planH h a) := by
  refine Ct.of ok3_init rfl (rfl : argL _ _ = [.ref a]) ?_
  refine go_aload_n rfl rfl ?_
  refine go_objInit rfl v3_3 rfl ?_
  refine go_aload_n rfl rfl ?_
  refine go_new (kd := 4) rfl (by decide) cl3_9 ins4 ini4 (by decide) (by decide) ?_
  refine go_dup rfl rfl ?_
  refine go_bipush (v := nI 6) rfl bp_6N ?_
  refine go_iconst (v := nI 3) rfl ic_3N ?_
  refine go_callI (M2 := m4_init) rfl v3_11 ok4_init rfl (c4_init (d := d) (m := 6) (w := 3) (Nat.lt_succ_self _) (kS_new _ _ _) (by decide) (by decide)) rfl rfl rfl (by decide) (by decide) ?_
  refine go_putFP rfl f3_14 (by first | exact hs | (simp (disch := ((try simp only [mN_wP, mN_wI, mN_nA, mN_mn, mN_aN, mN_rows, mN_rN, mN_laws, mN_state, mN_plan, mN_words, mN_scan, mN_parser, mN_days, mN_told, mN_steps, mN_plan4, mN_planL, mN_parserP, mN_parserS]); omega)) only [mS_wP, mS_wI, kS_nA, kS_mn, kS_aN, kS_rows, kS_rN, kS_laws, kS_state, kS_plan, kS_words, kS_scan, kS_parser, kS_days, kS_told, kS_steps, kS_plan4, kS_planL, kS_parserP, kS_parserS]; exact hs)) rfl rfl rfl rfl ?_
  refine go_aload_n rfl rfl ?_
  refine go_new (kd := 4) rfl (by decide) cl3_9 ins4 ini4 (by decide) (by decide) ?_
  refine go_dup rfl rfl ?_
  refine go_bipush (v := nI 8) rfl bp_8N ?_
  refine go_iconst (v := nI 5) rfl ic_5N ?_
  refine go_callI (M2 := m4_init) rfl v3_11 ok4_init rfl (c4_init (d := d) (m := 8) (w := 5) (Nat.lt_succ_self _) (kS_new _ _ _) (by decide) (by decide)) rfl rfl rfl (by decide) (by decide) ?_
  refine go_putFP rfl f3_20 (by first | exact hs | (simp (disch := ((try simp only [mN_wP, mN_wI, mN_nA, mN_mn, mN_aN, mN_rows, mN_rN, mN_laws, mN_state, mN_plan, mN_words, mN_scan, mN_parser, mN_days, mN_told, mN_steps, mN_plan4, mN_planL, mN_parserP, mN_parserS]); omega)) only [mS_wP, mS_wI, kS_nA, kS_mn, kS_aN, kS_rows, kS_rN, kS_laws, kS_state, kS_plan, kS_words, kS_scan, kS_parser, kS_days, kS_told, kS_steps, kS_plan4, kS_planL, kS_parserP, kS_parserS]; exact hs)) rfl rfl rfl rfl ?_
  refine go_aload_n rfl rfl ?_
  refine go_new (kd := 4) rfl (by decide) cl3_9 ins4 ini4 (by decide) (by decide) ?_
  refine go_dup rfl rfl ?_
  refine go_bipush (v := nI 10) rfl bp_10N ?_
  refine go_iconst (v := nI 2) rfl ic_2N ?_
  refine go_callI (M2 := m4_init) rfl v3_11 ok4_init rfl (c4_init (d := d) (m := 10) (w := 2) (Nat.lt_succ_self _) (kS_new _ _ _) (by decide) (by decide)) rfl rfl rfl (by decide) (by decide) ?_
  refine go_putFP rfl f3_23 (by first | exact hs | (simp (disch := ((try simp only [mN_wP, mN_wI, mN_nA, mN_mn, mN_aN, mN_rows, mN_rN, mN_laws, mN_state, mN_plan, mN_words, mN_scan, mN_parser, mN_days, mN_told, mN_steps, mN_plan4, mN_planL, mN_parserP, mN_parserS]); omega)) only [mS_wP, mS_wI, kS_nA, kS_mn, kS_aN, kS_rows, kS_rN, kS_laws, kS_state, kS_plan, kS_words, kS_scan, kS_parser, kS_days, kS_told, kS_steps, kS_plan4, kS_planL, kS_parserP, kS_parserS]; exact hs)) rfl rfl rfl rfl ?_
  refine go_aload_n rfl rfl ?_
  refine go_new (kd := 4) rfl (by decide) cl3_9 ins4 ini4 (by decide) (by decide) ?_
  refine go_dup rfl rfl ?_
  refine go_bipush (v := nI 8) rfl bp_8N ?_
  refine go_iconst (v := nI 3) rfl ic_3N ?_
  refine go_callI (M2 := m4_init) rfl v3_11 ok4_init rfl (c4_init (d := d) (m := 8) (w := 3) (Nat.lt_succ_self _) (kS_new _ _ _) (by decide) (by decide)) rfl rfl rfl (by decide) (by decide) ?_
  refine go_putFP rfl f3_26 (by first | exact hs | (simp (disch := ((try simp only [mN_wP, mN_wI, mN_nA, mN_mn, mN_aN, mN_rows, mN_rN, mN_laws, mN_state, mN_plan, mN_words, mN_scan, mN_parser, mN_days, mN_told, mN_steps, mN_plan4, mN_planL, mN_parserP, mN_parserS]); omega)) only [mS_wP, mS_wI, kS_nA, kS_mn, kS_aN, kS_rows, kS_rN, kS_laws, kS_state, kS_plan, kS_words, kS_scan, kS_parser, kS_days, kS_told, kS_steps, kS_plan4, kS_planL, kS_parserP, kS_parserS]; exact hs)) rfl rfl rfl rfl ?_
  refine go_aload_n rfl rfl ?_
  refine go_new (kd := 1) rfl (by decide) cl3_29 ins1 ini1 (by decide) (by decide) ?_
  refine go_dup rfl rfl ?_
  refine go_callIN (M2 := m1_init) rfl v3_31 ok1_init rfl (c1_init (d := d) (Nat.lt_succ_self _) (kS_new _ _ _)) rfl rfl rfl (by decide) (by decide) ?_
  refine go_putFP rfl f3_32 (by first | exact hs | (simp (disch := ((try simp only [mN_wP, mN_wI, mN_nA, mN_mn, mN_aN, mN_rows, mN_rN, mN_laws, mN_state, mN_plan, mN_words, mN_scan, mN_parser, mN_days, mN_told, mN_steps, mN_plan4, mN_planL, mN_parserP, mN_parserS]); omega)) only [mS_wP, mS_wI, kS_nA, kS_mn, kS_aN, kS_rows, kS_rN, kS_laws, kS_state, kS_plan, kS_words, kS_scan, kS_parser, kS_days, kS_told, kS_steps, kS_plan4, kS_planL, kS_parserP, kS_parserS]; exact hs)) rfl rfl rfl rfl ?_
  refine go_aload_n rfl rfl ?_
  refine go_bipush (v := nI 20) rfl bp_20N ?_
  refine go_putI rfl f3_36 (by first | exact hs | (simp (disch := ((try simp only [mN_wP, mN_wI, mN_nA, mN_mn, mN_aN, mN_rows, mN_rN, mN_laws, mN_state, mN_plan, mN_words, mN_scan, mN_parser, mN_days, mN_told, mN_steps, mN_plan4, mN_planL, mN_parserP, mN_parserS]); omega)) only [mS_wP, mS_wI, kS_nA, kS_mn, kS_aN, kS_rows, kS_rN, kS_laws, kS_state, kS_plan, kS_words, kS_scan, kS_parser, kS_days, kS_told, kS_steps, kS_plan4, kS_planL, kS_parserP, kS_parserS]; exact hs)) rfl rfl ?_
  refine go_aload_n rfl rfl ?_
  refine go_iconst rfl ic_m1 ?_
  refine go_putI rfl f3_40 (by first | exact hs | (simp (disch := ((try simp only [mN_wP, mN_wI, mN_nA, mN_mn, mN_aN, mN_rows, mN_rN, mN_laws, mN_state, mN_plan, mN_words, mN_scan, mN_parser, mN_days, mN_told, mN_steps, mN_plan4, mN_planL, mN_parserP, mN_parserS]); omega)) only [mS_wP, mS_wI, kS_nA, kS_mn, kS_aN, kS_rows, kS_rN, kS_laws, kS_state, kS_plan, kS_words, kS_scan, kS_parser, kS_days, kS_told, kS_steps, kS_plan4, kS_planL, kS_parserP, kS_parserS]; exact hs)) rfl rfl ?_
  refine go_aload_n rfl rfl ?_
  refine go_iconst rfl ic_m1 ?_
  refine go_putI rfl f3_43 (by first | exact hs | (simp (disch := ((try simp only [mN_wP, mN_wI, mN_nA, mN_mn, mN_aN, mN_rows, mN_rN, mN_laws, mN_state, mN_plan, mN_words, mN_scan, mN_parser, mN_days, mN_told, mN_steps, mN_plan4, mN_planL, mN_parserP, mN_parserS]); omega)) only [mS_wP, mS_wI, kS_nA, kS_mn, kS_aN, kS_rows, kS_rN, kS_laws, kS_state, kS_plan, kS_words, kS_scan, kS_parser, kS_days, kS_told, kS_steps, kS_plan4, kS_planL, kS_parserP, kS_parserS]; exact hs)) rfl rfl ?_
  exact go_return rfl rfl rfl rfl
end Ctors
