/-! ===== constructors: Scanner, Parser ===== -/
theorem str0 : (m5_init.1.cls, 19, "kind  tin   open  want  keys  rust  seed  law   fresh glory blow  dents keeps weightsound worth left  day   not   and   or    ", 0) ∈ strs := List.Mem.head _
def lt5 (i j : Nat) : Int32 := if chS 0 (i * 6 + j) = nI 32 then nI 0 else chS 0 (i * 6 + j) - nI 97 + nI 1
def ac5 (i : Nat) : Nat → Int32
  | 0 => nI 0
  | j + 1 => (ac5 i j <<< (nI 5 &&& 31)) ||| lt5 i j
theorem ac5_wd : ∀ i, i < 21 → ac5 i 6 = nI (wd i) := by decide +kernel
section Ctors2
variable {l : Launch} {G : GG} {d mc ms : Nat} {h h' : Hp} {r : Option Value} {a : Nat}
theorem scan_in {i : Nat} (hi : i < 21) (kk : ∀ v4, Go l G (d + 4) mc ms m5_init mc ms 79 [.ref a, .int (nI i), .int (ac5 i 6), .int (nI 6), v4] [] h r h') : ∀ k j v4, j + k = 6 → Go l G (d + 4) mc ms m5_init mc ms 31 [.ref a, .int (nI i), .int (ac5 i j), .int (nI j), v4] [] h r h' := by
  intro k
  induction k with
  | zero =>
    intro j v4 hj
    obtain rfl : j = 6 := by omega
    refine go_iload_n rfl rfl ?_
    refine go_bipush (v := nI 6) rfl bp_6N ?_
    refine go_icmp_ge (tgt := 79) rfl rfl (fun _ => kk _) (fun z => absurd (by decide) z)
  | succ k ih =>
    intro j v4 hj
    refine go_iload_n rfl rfl ?_
    refine go_bipush (v := nI 6) rfl bp_6N ?_
    refine go_icmp_ge (tgt := 79) rfl rfl (fun z => absurd ((nI_leI (by omega) (by omega)).mp z) (by omega)) (fun _ => ?_)
    refine go_ldcS (j := 0) rfl str0 ?_
    refine go_iload_n rfl rfl ?_
    refine go_bipush (v := nI 6) rfl bp_6N ?_
    refine go_imul rfl ?_
    refine go_iload_n rfl rfl ?_
    refine go_iadd rfl ?_
    rw [pk_mul, nI_add]
    refine go_callVS (M2 := mS_charAt) (mc1 := 0) (ms1 := 0) (as := [.int (nI (i * 6 + j))]) (by decide) rfl v5_21 okS_charAt (cS_charAt (d := d) (j := 0) (k := i * 6 + j) (by decide) (show i * 6 + j < 126 by omega)) rfl rfl rfl rfl (Nat.le_refl _) (Nat.le_refl _) ?_
    refine go_istore rfl rfl rfl rfl ?_
    refine go_iload_n rfl rfl ?_
    refine go_iconst (v := nI 5) rfl ic_5N ?_
    refine go_ishl rfl ?_
    refine go_iload rfl rfl ?_
    refine go_bipush (v := nI 32) rfl bp_32N ?_
    have tail : ∀ x, lt5 i j = x → Go l G (d + 4) mc ms m5_init mc ms 71 [.ref a, .int (nI i), .int (ac5 i j), .int (nI j), .int (chS 0 (i * 6 + j))] [.int x, .int (ac5 i j <<< (nI 5 &&& 31))] h r h' := by
      intro x hx
      refine go_ior rfl ?_
      refine go_istore_n rfl rfl rfl rfl ?_
      refine go_iinc rfl rfl rfl rfl rfl ?_
      refine go_goto (tgt := 31) rfl rfl ?_
      rw [← hx, show nI j + Int32.ofInt 1 = nI (j + 1) from incN1 j]
      exact ih (j + 1) _ (by omega)
    refine go_icmp_ne (tgt := 64) rfl rfl (fun z => ?_) (fun z => ?_)
    · refine go_iload rfl rfl ?_
      refine go_bipush (v := nI 97) rfl bp_97N ?_
      refine go_isub rfl ?_
      refine go_iconst (v := nI 1) rfl ic_1N ?_
      refine go_iadd rfl ?_
      exact tail _ (if_neg z)
    · refine go_iconst (v := nI 0) rfl ic_0N ?_
      refine go_goto (tgt := 71) rfl rfl ?_
      exact tail _ (if_pos z)
theorem words_S {c b : Nat} (k : Nat) : mS (wordsH h c k) b = mS h b := kS_words k
theorem words_P {c b x : Nat} : ∀ k, mP (wordsH h c k) b x = mP h b x
  | 0 => rfl
  | k + 1 => words_P k
theorem scan_out {c : Nat} (hs : (mS h a).1 = 5) (hp : mP h a 0 = some c) (hc : mS h c = (20, 21)) (e1 : none = r) (e2 : wordsH h c 21 = h') : ∀ k i v2 v3 v4, i + k = 21 → v2.category = 1 → v3.category = 1 → Go l G (d + 4) mc ms m5_init mc ms 21 [.ref a, .int (nI i), v2, v3, v4] [] (wordsH h c i) r h' := by
  intro k
  induction k with
  | zero =>
    intro i v2 v3 v4 hi c2 c3
    obtain rfl : i = 21 := by omega
    refine go_iload_n rfl rfl ?_
    refine go_bipush (v := nI 21) rfl bp_21N ?_
    refine go_icmp_ge (tgt := 92) rfl rfl (fun _ => ?_) (fun z => absurd (by decide) z)
    exact go_return rfl rfl e1 e2
  | succ k ih =>
    intro i v2 v3 v4 hi c2 c3
    refine go_iload_n rfl rfl ?_
    refine go_bipush (v := nI 21) rfl bp_21N ?_
    refine go_icmp_ge (tgt := 92) rfl rfl (fun z => absurd ((nI_leI (by omega) (by omega)).mp z) (by omega)) (fun _ => ?_)
    refine go_iconst (v := nI 0) rfl ic_0N ?_
    refine go_istore_n rfl rfl rfl rfl ?_
    refine go_iconst (v := nI 0) rfl ic_0N ?_
    refine go_istore_n rfl rfl rfl rfl ?_
    refine scan_in (i := i) (by omega) (fun v => ?_) 6 0 _ (by omega)
    rw [ac5_wd i (by omega)]
    refine go_aload_n rfl rfl ?_
    refine go_getP (b := c) rfl f5_11 (by rw [words_S]; exact hs) rfl (by rw [words_P]; exact hp) ?_
    refine go_iload_n rfl rfl ?_
    refine go_iload_n rfl rfl ?_
    refine go_iastore (n := 21) rfl (by rw [words_S]; exact hc) (fun q => q.elim (fun w => nI_pos (by omega) w) (fun w => by rw [nI_clamp (by omega)] at w; omega)) ?_
    rw [nI_clamp (by omega)]
    refine go_iinc rfl rfl rfl rfl rfl ?_
    refine go_goto (tgt := 21) rfl rfl ?_
    rw [show nI i + Int32.ofInt 1 = nI (i + 1) from incN1 i]
    exact ih (i + 1) _ _ _ (by omega) rfl rfl
theorem c5_init (ha : a < mN h) (hs : (mS h a).1 = 5) : Ct l G (d + 4) 2 21 m5_init [.ref a] h none (scanH h a) := by
  refine Ct.of ok5_init rfl (rfl : argL _ _ = [.ref a, .null, .null, .null, .null]) ?_
  refine go_aload_n rfl rfl ?_
  refine go_objInit rfl v5_3 rfl ?_
  refine go_aload_n rfl rfl ?_
  refine go_bipush (v := nI 21) rfl bp_21N ?_
  refine go_newa (kd := 20) rfl (by decide) (by decide) rfl arr20 (by decide) (by decide) (by decide) ?_
  refine go_putFP rfl f5_11 (by first | exact hs | (simp (disch := ((try simp only [mN_wP, mN_wI, mN_nA, mN_mn, mN_aN, mN_rows, mN_rN, mN_laws, mN_state, mN_plan, mN_words, mN_scan, mN_parser, mN_days, mN_told, mN_steps, mN_plan4, mN_planL, mN_parserP, mN_parserS]); omega)) only [mS_wP, mS_wI, kS_nA, kS_mn, kS_aN, kS_rows, kS_rN, kS_laws, kS_state, kS_plan, kS_words, kS_scan, kS_parser, kS_days, kS_told, kS_steps, kS_plan4, kS_planL, kS_parserP, kS_parserS]; exact hs)) rfl rfl rfl rfl ?_
  refine go_aload_n rfl rfl ?_
  refine go_iconst (v := nI 0) rfl ic_0N ?_
  refine go_newa (kd := 21) rfl (by decide) (by decide) rfl arr21 (by decide) (by decide) (by decide) ?_
  refine go_putQ rfl f5_15 (by first | exact hs | (simp (disch := ((try simp only [mN_wP, mN_wI, mN_nA, mN_mn, mN_aN, mN_rows, mN_rN, mN_laws, mN_state, mN_plan, mN_words, mN_scan, mN_parser, mN_days, mN_told, mN_steps, mN_plan4, mN_planL, mN_parserP, mN_parserS]); omega)) only [mS_wP, mS_wI, kS_nA, kS_mn, kS_aN, kS_rows, kS_rN, kS_laws, kS_state, kS_plan, kS_words, kS_scan, kS_parser, kS_days, kS_told, kS_steps, kS_plan4, kS_planL, kS_parserP, kS_parserS]; exact hs)) rfl rfl ?_
  refine go_iconst (v := nI 0) rfl ic_0N ?_
  refine go_istore_n rfl rfl rfl rfl ?_
  refine scan_out (c := mN h) (h := aN (aN h a 0 20 21) a 1 21 0) ?_ ?_ ?_ rfl rfl 21 0 .null .null .null (by omega) rfl rfl
  · rw [kS_aN (by rw [mN_aN]; omega), kS_aN ha]; exact hs
  · show (if a = a ∧ 0 = 1 then _ else mP (nA (aN h a 0 20 21) 21 0) a 0) = _
    rw [if_neg (by omega), mP_nA, if_neg (by rw [mN_aN]; omega)]
    show (if a = a ∧ 0 = 0 then some (mN h) else _) = _
    rw [if_pos ⟨rfl, rfl⟩]
  · rw [kS_aN (by rw [mN_aN]; omega)]
    show mS (nA h 20 21) (mN h) = _
    rw [mS_nA, if_pos rfl]
theorem c2_init (ha : a < mN h) (hs : (mS h a).1 = 2) : Ct l G (d + 5) 30 306 m2_init [.ref a] h none (parserH h a) := by
  refine Ct.of ok2_init rfl (rfl : argL _ _ = [.ref a]) ?_
  refine go_aload_n rfl rfl ?_
  refine go_objInit rfl v2_3 rfl ?_
  refine go_aload_n rfl rfl ?_
  refine go_new (kd := 3) rfl (by decide) cl2_9 ins3 ini3 (by decide) (by decide) ?_
  refine go_dup rfl rfl ?_
  refine go_callIN (M2 := m3_init) rfl v2_11 ok3_init rfl (c3_init (d := d + 2) (Nat.lt_succ_self _) (kS_new _ _ _)) rfl rfl rfl (by decide) (by decide) ?_
  refine go_putFP rfl f2_12 (by first | exact hs | (simp (disch := ((try simp only [mN_wP, mN_wI, mN_nA, mN_mn, mN_aN, mN_rows, mN_rN, mN_laws, mN_state, mN_plan, mN_words, mN_scan, mN_parser, mN_days, mN_told, mN_steps, mN_plan4, mN_planL, mN_parserP, mN_parserS]); omega)) only [mS_wP, mS_wI, kS_nA, kS_mn, kS_aN, kS_rows, kS_rN, kS_laws, kS_state, kS_plan, kS_words, kS_scan, kS_parser, kS_days, kS_told, kS_steps, kS_plan4, kS_planL, kS_parserP, kS_parserS]; exact hs)) rfl rfl rfl rfl ?_
  refine go_aload_n rfl rfl ?_
  refine go_new (kd := 5) rfl (by decide) cl2_18 ins5 ini5 (by decide) (by decide) ?_
  refine go_dup rfl rfl ?_
  refine go_callI (M2 := m5_init) rfl v2_20 ok5_init rfl (c5_init (d := d) (Nat.lt_succ_self _) (kS_new _ _ _)) rfl rfl rfl (by decide) (by decide) ?_
  refine go_putFP rfl f2_21 (by first | exact hs | (simp (disch := ((try simp only [mN_wP, mN_wI, mN_nA, mN_mn, mN_aN, mN_rows, mN_rN, mN_laws, mN_state, mN_plan, mN_words, mN_scan, mN_parser, mN_days, mN_told, mN_steps, mN_plan4, mN_planL, mN_parserP, mN_parserS]); omega)) only [mS_wP, mS_wI, kS_nA, kS_mn, kS_aN, kS_rows, kS_rN, kS_laws, kS_state, kS_plan, kS_words, kS_scan, kS_parser, kS_days, kS_told, kS_steps, kS_plan4, kS_planL, kS_parserP, kS_parserS]; exact hs)) rfl rfl rfl rfl ?_
  refine go_aload_n rfl rfl ?_
  refine go_iconst rfl ic_m1 ?_
  refine go_putI rfl f2_25 (by first | exact hs | (simp (disch := ((try simp only [mN_wP, mN_wI, mN_nA, mN_mn, mN_aN, mN_rows, mN_rN, mN_laws, mN_state, mN_plan, mN_words, mN_scan, mN_parser, mN_days, mN_told, mN_steps, mN_plan4, mN_planL, mN_parserP, mN_parserS]); omega)) only [mS_wP, mS_wI, kS_nA, kS_mn, kS_aN, kS_rows, kS_rN, kS_laws, kS_state, kS_plan, kS_words, kS_scan, kS_parser, kS_days, kS_told, kS_steps, kS_plan4, kS_planL, kS_parserP, kS_parserS]; exact hs)) rfl rfl ?_
  exact go_return rfl rfl rfl rfl
end Ctors2
