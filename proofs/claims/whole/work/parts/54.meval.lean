/-! ===== the reference: laws worked out ===== -/
def vB (v : Int64) : Prop := -MOSTL ≤ v ∧ v ≤ MOSTL
theorem vB_int {v : Int64} : vB v ↔ -1000000000000 ≤ v.toInt ∧ v.toInt ≤ 1000000000000 := by
  unfold vB
  rw [Int64.le_iff_toInt_le, Int64.le_iff_toInt_le]
  have e1 : (-MOSTL).toInt = -1000000000000 := by decide
  have e2 : MOSTL.toInt = 1000000000000 := by decide
  rw [e1, e2]
theorem vB_of32 (x : Int32) : vB x.toInt64 := by
  rw [vB_int, Int32.toInt_toInt64]
  have h1 := Int32.toInt_lt x
  have h2 := Int32.le_toInt x
  omega
theorem neg_int {v : Int64} (h : vB v) : (-v).toInt = -v.toInt := by
  have h := vB_int.mp h
  rw [Int64.toInt_neg, Int.bmod_def]
  omega
theorem neg_vB {v : Int64} (h : vB v) : vB (-v) := by
  have h2 := vB_int.mp h
  rw [vB_int, neg_int h]
  omega
/-- two that don't overflow -/
theorem mul_bad {x y : Int64} (hx : vB x) (hy : vB y) (h0 : ¬ x = 0) : (MOSTL / (if 0 < x then x else -x) < (if 0 < y then y else -y)) ↔ (MOSTL / (if x < 0 then -x else x) < y ∨ y < -(MOSTL / (if x < 0 then -x else x))) := by
  have xi := vB_int.mp hx
  have yi := vB_int.mp hy
  have x0 : ¬ x.toInt = 0 := fun q => h0 (Int64.toInt_inj.mp (by rw [q]; rfl))
  have z0 : (0 : Int64).toInt = 0 := rfl
  have ex : (if 0 < x then x else -x) = (if x < 0 then -x else x) := by
    by_cases c : 0 < x
    · rw [if_pos c, if_neg (fun q => Int64.lt_irrefl (Int64.lt_trans c q))]
    · have c2 : x < 0 := by
        rw [Int64.lt_iff_toInt_lt, z0] at c ⊢
        omega
      rw [if_neg c, if_pos c2]
  rw [ex]
  have ax : 0 < (if x < 0 then -x else x).toInt ∧ (if x < 0 then -x else x).toInt ≤ 1000000000000 := by
    by_cases c : x < 0
    · rw [if_pos c, neg_int hx]
      rw [Int64.lt_iff_toInt_lt, z0] at c
      omega
    · rw [if_neg c]
      rw [Int64.lt_iff_toInt_lt, z0] at c
      omega
  generalize (if x < 0 then -x else x) = b at ax
  have hA : 0 ≤ (MOSTL / b).toInt ∧ (MOSTL / b).toInt ≤ 1000000000000 := by
    have em : MOSTL.toInt = 1000000000000 := by decide
    rw [Int64.toInt_div, em]
    have h1 : 0 ≤ Int.tdiv 1000000000000 b.toInt := Int.tdiv_nonneg (by omega) (by omega)
    have h2 : Int.tdiv 1000000000000 b.toInt ≤ 1000000000000 := Int.tdiv_le_self _ (by omega)
    rw [Int.bmod_def]
    omega
  generalize MOSTL / b = a at hA
  have ha : vB a := vB_int.mpr (by omega)
  by_cases c : 0 < y
  · rw [if_pos c]
    rw [Int64.lt_iff_toInt_lt, z0] at c
    refine ⟨Or.inl, fun q => q.elim id (fun q => ?_)⟩
    rw [Int64.lt_iff_toInt_lt, neg_int ha] at q
    omega
  · rw [if_neg c]
    rw [Int64.lt_iff_toInt_lt, z0] at c
    rw [Int64.lt_iff_toInt_lt, Int64.lt_iff_toInt_lt, Int64.lt_iff_toInt_lt, neg_int hy, neg_int ha]
    omega
def jnV (c v : Int32) : Bool := !(isJn c) || !(decide (kV c = v)) || decide (c = (if v = nI 256 then -256 else if v = nI 257 then -258 else if v = nI 258 then -257 else if v = nI 261 then -20 else -v))
theorem jn_inv {c : Int32} (h : isJn c = true) (v : Int32) (hv : v = nI 42 ∨ v = nI 43 ∨ v = nI 45 ∨ v = nI 47 ∨ v = nI 60 ∨ v = nI 61 ∨ v = nI 62 ∨ v = nI 256 ∨ v = nI 257 ∨ v = nI 258 ∨ v = nI 261) (e : kV c = v) : c = (if v = nI 256 then -256 else if v = nI 257 then -258 else if v = nI 258 then -257 else if v = nI 261 then -20 else -v) := by
  have h1 := of_decide_eq_true h
  rcases h1 with rfl | rfl | rfl | rfl | rfl | rfl | rfl | rfl | rfl | rfl | rfl | rfl <;> rcases hv with rfl | rfl | rfl | rfl | rfl | rfl | rfl | rfl | rfl | rfl | rfl <;> first | decide | exact absurd e (by decide)
theorem jn_or {c : Int32} (h : isJn c = true) (e1 : ¬ kV c = nI 42) (e2 : ¬ kV c = nI 43) (e3 : ¬ kV c = nI 45) (e4 : ¬ kV c = nI 47) (e5 : ¬ kV c = nI 60) (e6 : ¬ kV c = nI 61) (e7 : ¬ kV c = nI 62) (e8 : ¬ kV c = nI 256) (e9 : ¬ kV c = nI 257) (e10 : ¬ kV c = nI 258) (e11 : ¬ kV c = nI 261) : c = -21 := by
  have h1 := of_decide_eq_true h
  rcases h1 with rfl | rfl | rfl | rfl | rfl | rfl | rfl | rfl | rfl | rfl | rfl | rfl <;> first | rfl | (exfalso; first | exact e1 (by decide) | exact e2 (by decide) | exact e3 (by decide) | exact e4 (by decide) | exact e5 (by decide) | exact e6 (by decide) | exact e7 (by decide) | exact e8 (by decide) | exact e9 (by decide) | exact e10 (by decide) | exact e11 (by decide))
theorem kV_n {c : Int32} (h : isJn c = true) : ¬ kV c = nI 260 := by
  have h1 := of_decide_eq_true h
  rcases h1 with rfl | rfl | rfl | rfl | rfl | rfl | rfl | rfl | rfl | rfl | rfl | rfl <;> decide
section MEval
variable {l : Launch} {G : GG} {d : Nat} {I : IM} {J : JM} {K : Kt} {Q : Option Value → Hp → Prop}
theorem c10_is (b : Bool) : Cp l G d m10_is [.int (bI b)] (I, J, K) (.long (if b = true then 1 else 0)) := by
  refine Cp.of ok10_is rfl (rfl : argL _ _ = [.int (bI b)]) ?_
  refine e_iload_n rfl rfl ?_
  refine e_if_eqB (tgt := 8) rfl rfl (fun z => ?_) (fun z => ?_)
  · refine e_lconst (v := 0) rfl rfl ?_
    refine e_lreturn rfl rfl ?_
    rw [z]
    exact ⟨rfl, rfl⟩
  · refine e_lconst (v := 1) rfl rfl ?_
    refine e_goto (tgt := 9) rfl rfl ?_
    refine e_lreturn rfl rfl ?_
    rw [z]
    exact ⟨rfl, rfl⟩
/-- what works leaves: the pile is joined, or it is an ERROR -/
def wkQ (I : IM) (J : JM) (K : Kt) (v : Int64) (r : List Int64) (ret : Option Value) (h' : Hp) : Prop := ∃ I' J', h' = (I', J', K) ∧ (∀ c k, ¬ (c = 102 ∧ k = 36) → I' c k = I c k) ∧ (∀ c, c ≠ 123 → J' c = J c) ∧ (if MOSTL < v ∨ v < -MOSTL then ret = some (.int (bI false)) else ret = some (.int (bI true)) ∧ pileIs (J' 123) (v :: r) ∧ I' 102 36 = nI (r.length + 1))
theorem works_tail (hM : MK K) {I0 : IM} {r : List Int64} {v : Int64} (hr : pileIs (J 123) r) (hl : r.length < 64) (hm : I 102 36 = nI (r.length + 1)) (hI : ∀ c k, ¬ (c = 102 ∧ k = 36) → I c k = I0 c k) {s : Int32} {x y : Int64} : Gw l G d m10_works 407 [.ref 102, .int s, .long y, .null, .long x, .null, .long v, .null] [] (I, J, K) (wkQ I0 J K v r) := by
  have hp : pileIs (u2 J 123 r.length v 123) (v :: r) := ⟨u2_at _ _ _ _, pileIs_keep hr (fun j hj => u2_nk _ _ (by omega))⟩
  refine e_aload_n rfl rfl ?_
  refine e_getP rfl f10_75 hM.k rfl hM.p35 ?_
  refine e_aload_n rfl rfl ?_
  refine e_getI rfl f10_310 hM.k rfl ?_
  rw [hm]
  refine e_iconst (v := nI 1) rfl ic_1N ?_
  first | refine e_isubN rfl (by omega) ?_ | refine e_isub rfl ?_
  rw [show r.length + 1 - 1 = r.length by omega]
  refine e_lload rfl rfl ?_
  first | refine e_lastoreN rfl hM.a35 (by omega) (by omega) ?_ | (refine e_lastore rfl hM.a35 ?_ ?_; rotate_left)
  refine e_lload rfl rfl ?_
  refine e_ldc2 rfl k10_323 ?_
  refine e_lcmp rfl ?_
  refine e_if_gtC (tgt := 442) rfl rfl (fun z => ?_) (fun z => ?_)
  · refine e_iconst (v := nI 0) rfl ic_0N ?_
    refine e_zreturn rfl rfl ?_ ?_
    · exact Or.inl rfl
    · refine ⟨I, _, rfl, hI, fun c hc => u2_row _ _ hc, ?_⟩
      rw [if_pos (Or.inl z)]
      rfl
  · refine e_lload rfl rfl ?_
    refine e_ldc2 rfl k10_325 ?_
    refine e_lcmp rfl ?_
    refine e_if_ltC (tgt := 442) rfl rfl (fun y => ?_) (fun y => ?_)
    · refine e_iconst (v := nI 0) rfl ic_0N ?_
      refine e_zreturn rfl rfl ?_ ?_
      · exact Or.inl rfl
      · refine ⟨I, _, rfl, hI, fun c hc => u2_row _ _ hc, ?_⟩
        rw [if_pos (Or.inr y)]
        rfl
    · refine e_iconst (v := nI 1) rfl ic_1N ?_
      refine e_goto (tgt := 443) rfl rfl ?_
      refine e_zreturn rfl rfl ?_ ?_
      · exact Or.inr rfl
      · refine ⟨I, _, rfl, hI, fun c hc => u2_row _ _ hc, ?_⟩
        rw [if_neg (fun q => q.elim z y)]
        exact ⟨rfl, hp, hm⟩
theorem jn_42 (x y : Int64) : jn (-(-42)) x y = (if (if x = 0 then MOSTL else MOSTL / (if x < 0 then -x else x)) < y ∨ y < -(if x = 0 then MOSTL else MOSTL / (if x < 0 then -x else x)) then MINL else x * y) := by
  unfold jn
  rw [if_neg (by decide), if_neg (by decide), if_pos (by decide)]
theorem jn_43 (x y : Int64) : jn (-(-43)) x y = x + y := by
  unfold jn
  rw [if_neg (by decide), if_neg (by decide), if_neg (by decide), if_pos (by decide)]
theorem jn_45 (x y : Int64) : jn (-(-45)) x y = x - y := by
  unfold jn
  rw [if_neg (by decide), if_neg (by decide), if_neg (by decide), if_neg (by decide), if_pos (by decide)]
theorem jn_47 (x y : Int64) : jn (-(-47)) x y = (if y = 0 then MINL else x / y) := by
  unfold jn
  rw [if_neg (by decide), if_neg (by decide), if_neg (by decide), if_neg (by decide), if_neg (by decide), if_pos (by decide)]
theorem jn_60 (x y : Int64) : jn (-(-60)) x y = (if x < y then 1 else 0) := by
  unfold jn
  rw [if_neg (by decide), if_neg (by decide), if_neg (by decide), if_neg (by decide), if_neg (by decide), if_neg (by decide), if_pos (by decide)]
theorem jn_61 (x y : Int64) : jn (-(-61)) x y = (if x = y then 1 else 0) := by
  unfold jn
  rw [if_neg (by decide), if_neg (by decide), if_neg (by decide), if_neg (by decide), if_neg (by decide), if_neg (by decide), if_neg (by decide), if_pos (by decide)]
theorem jn_62 (x y : Int64) : jn (-(-62)) x y = (if y < x then 1 else 0) := by
  unfold jn
  rw [if_neg (by decide), if_neg (by decide), if_neg (by decide), if_neg (by decide), if_neg (by decide), if_neg (by decide), if_neg (by decide), if_neg (by decide), if_pos (by decide)]
theorem jn_256 (x y : Int64) : jn (-(-256)) x y = (if x ≤ y then 1 else 0) := by
  unfold jn
  rw [if_neg (by decide), if_neg (by decide), if_neg (by decide), if_neg (by decide), if_neg (by decide), if_neg (by decide), if_neg (by decide), if_neg (by decide), if_neg (by decide), if_pos (by decide)]
theorem jn_257 (x y : Int64) : jn (-(-257)) x y = (if y ≤ x then 1 else 0) := by
  unfold jn
  rw [if_neg (by decide), if_neg (by decide), if_neg (by decide), if_neg (by decide), if_neg (by decide), if_neg (by decide), if_neg (by decide), if_neg (by decide), if_neg (by decide), if_neg (by decide), if_pos (by decide)]
theorem jn_258 (x y : Int64) : jn (-(-258)) x y = (if x = y then 0 else 1) := by
  unfold jn
  rw [if_neg (by decide), if_neg (by decide), if_neg (by decide), if_neg (by decide), if_neg (by decide), if_neg (by decide), if_neg (by decide), if_neg (by decide), if_neg (by decide), if_neg (by decide), if_neg (by decide), if_pos (by decide)]
theorem jn_20 (x y : Int64) : jn (-(-20)) x y = (if x = 0 ∨ y = 0 then 0 else 1) := by
  unfold jn
  rw [if_pos (by decide)]
theorem jn_21 (x y : Int64) : jn (-(-21)) x y = (if x = 0 ∧ y = 0 then 0 else 1) := by
  unfold jn
  rw [if_neg (by decide), if_pos (by decide)]
theorem minl_bad : MOSTL < MINL ∨ MINL < -MOSTL := Or.inr (by decide)
theorem c10_works (hM : MK K) {c : Int32} (hc : isJn c = true) {x y : Int64} {r : List Int64} (hp : pileIs (J 123) (y :: x :: r)) (hl : r.length + 2 ≤ 64) (hm : I 102 36 = nI (r.length + 2)) (hx : vB x) (hy : vB y) : Cw l G (d + 1) m10_works [.ref 102, .int (kV c)] (I, J, K) (wkQ I J K (jn (-c) x y) r) := by
  obtain ⟨py, px, pr⟩ := hp
  have py : J 123 (r.length + 1) = y := py
  have fr : ∀ c k, ¬ (c = 102 ∧ k = 36) → u2 I 102 36 (nI (r.length + 1)) c k = I c k := fun c k h => if_neg h
  have tail : ∀ v, v = jn (-c) x y → Gw l G (d + 1) m10_works 407 [.ref 102, .int (kV c), .long y, .null, .long x, .null, .long v, .null] [] (u2 I 102 36 (nI (r.length + 1)), J, K) (wkQ I J K (jn (-c) x y) r) := by
    rintro v rfl
    exact works_tail hM pr (by omega) (u2_at _ _ _ _) fr
  have no : (MOSTL < jn (-c) x y ∨ jn (-c) x y < -MOSTL) → wkQ I J K (jn (-c) x y) r (some (.int (bI false))) (u2 I 102 36 (nI (r.length + 1)), J, K) := by
    intro hb
    refine ⟨_, J, rfl, fr, fun _ _ => rfl, ?_⟩
    rw [if_pos hb]
  refine Cw.of ok10_works rfl (rfl : argL _ _ = [.ref 102, .int (kV c), .null, .null, .null, .null, .null, .null]) ?_
  refine e_aload_n rfl rfl ?_
  refine e_getP rfl f10_75 hM.k rfl hM.p35 ?_
  refine e_aload_n rfl rfl ?_
  refine e_getI rfl f10_310 hM.k rfl ?_
  rw [hm]
  refine e_iconst (v := nI 1) rfl ic_1N ?_
  first | refine e_isubN rfl (by omega) ?_ | refine e_isub rfl ?_
  rw [show r.length + 2 - 1 = r.length + 1 by omega]
  first | refine e_laloadN rfl hM.a35 (by omega) (by omega) ?_ | (refine e_laload rfl hM.a35 ?_ ?_; rotate_left)
  rw [py]
  refine e_lst2 rfl rfl rfl ?_
  refine e_iload_n rfl rfl ?_
  refine e_sipush (v := nI 260) rfl sp_260N ?_
  refine e_icmp_ne (tgt := 46) rfl rfl (fun _ => ?_) (fun z => absurd z (kV_n hc))
  refine e_aload_n rfl rfl ?_
  refine e_getP rfl f10_75 hM.k rfl hM.p35 ?_
  refine e_aload_n rfl rfl ?_
  refine e_getI rfl f10_310 hM.k rfl ?_
  rw [hm]
  refine e_iconst (v := nI 2) rfl ic_2N ?_
  first | refine e_isubN rfl (by omega) ?_ | refine e_isub rfl ?_
  rw [show r.length + 2 - 2 = r.length by omega]
  first | refine e_laloadN rfl hM.a35 (by omega) (by omega) ?_ | (refine e_laload rfl hM.a35 ?_ ?_; rotate_left)
  rw [px]
  refine e_lst4 rfl rfl rfl ?_
  refine e_aload_n rfl rfl ?_
  refine e_dup rfl rfl ?_
  refine e_getI rfl f10_310 hM.k rfl ?_
  rw [hm]
  refine e_iconst (v := nI 1) rfl ic_1N ?_
  first | refine e_isubN rfl (by omega) ?_ | refine e_isub rfl ?_
  rw [show r.length + 2 - 1 = r.length + 1 by omega]
  refine e_putI rfl f10_310 hM.k rfl rfl ?_
  refine e_iload_n rfl rfl ?_
  refine sw10_works_70 (fun z => ?_) (fun z => ?_) (fun z => ?_) (fun z => ?_) (fun z => ?_) (fun z => ?_) (fun z => ?_) (fun z => ?_) (fun z => ?_) (fun z => ?_) (fun z => ?_) (fun z1 z2 z3 z4 z5 z6 z7 z8 z9 z10 z11 => ?_)
  · obtain rfl : c = -42 := jn_inv hc _ (by simp) z
    rw [jn_42] at tail no ⊢
    refine e_lload rfl rfl ?_
    refine e_lconst (v := 0) rfl rfl ?_
    refine e_lcmp rfl ?_
    refine e_if_eqC (tgt := 212) rfl rfl (fun y0 => ?_) (fun y0 => ?_)
    · refine e_lload rfl rfl ?_
      refine e_lload_n rfl rfl ?_
      refine e_lmul rfl ?_
      refine e_lst6 rfl rfl rfl ?_
      refine e_goto (tgt := 407) rfl rfl ?_
      refine tail _ ?_
      rw [if_pos y0, if_neg ?_]
      exact fun q => q.elim (fun q => absurd hy.2 (Int64.not_le.mpr q)) (fun q => absurd hy.1 (Int64.not_le.mpr q))
    · have ab : ¬ (if 0 < x then x else -x) = 0 := by
        split
        · exact y0
        · intro q
          apply y0
          have := neg_int hx
          rw [q] at this
          have z0 : (0 : Int64).toInt = 0 := rfl
          exact Int64.toInt_inj.mp (by omega)
      refine e_lload_n rfl rfl ?_
      refine e_absl rfl v10_317 rfl ?_
      refine e_ldc2 rfl k10_323 ?_
      refine e_lload rfl rfl ?_
      refine e_absl rfl v10_317 rfl ?_
      refine e_ldiv rfl (by first | assumption | decide) ?_
      refine e_lcmp rfl ?_
      have mb := mul_bad hx hy y0
      refine e_if_leC (tgt := 212) rfl rfl (fun y1 => ?_) (fun y1 => ?_)
      · refine e_lload rfl rfl ?_
        refine e_lload_n rfl rfl ?_
        refine e_lmul rfl ?_
        refine e_lst6 rfl rfl rfl ?_
        refine e_goto (tgt := 407) rfl rfl ?_
        refine tail _ ?_
        rw [if_neg y0, if_neg (fun q => absurd (mb.mpr q) (Int64.not_lt.mpr y1))]
      · refine e_iconst (v := nI 0) rfl ic_0N ?_
        refine e_zreturn rfl rfl ?_ ?_
        · exact Or.inl rfl
        · refine no ?_
          rw [if_neg y0, if_pos (mb.mp (Int64.not_le.mp y1))]
          exact minl_bad
  · obtain rfl : c = -43 := jn_inv hc _ (by simp) z
    rw [jn_43] at tail no ⊢
    refine e_lload rfl rfl ?_
    refine e_lload_n rfl rfl ?_
    refine e_ladd rfl ?_
    refine e_lst6 rfl rfl rfl ?_
    refine e_goto (tgt := 407) rfl rfl ?_
    exact tail _ rfl
  · obtain rfl : c = -45 := jn_inv hc _ (by simp) z
    rw [jn_45] at tail no ⊢
    refine e_lload rfl rfl ?_
    refine e_lload_n rfl rfl ?_
    refine e_lsub rfl ?_
    refine e_lst6 rfl rfl rfl ?_
    refine e_goto (tgt := 407) rfl rfl ?_
    exact tail _ rfl
  · obtain rfl : c = -47 := jn_inv hc _ (by simp) z
    rw [jn_47] at tail no ⊢
    refine e_lload_n rfl rfl ?_
    refine e_lconst (v := 0) rfl rfl ?_
    refine e_lcmp rfl ?_
    refine e_if_neC (tgt := 229) rfl rfl (fun y0 => ?_) (fun y0 => ?_)
    · refine e_lload rfl rfl ?_
      refine e_lload_n rfl rfl ?_
      refine e_ldiv rfl (by first | assumption | decide) ?_
      refine e_lst6 rfl rfl rfl ?_
      refine e_goto (tgt := 407) rfl rfl ?_
      exact tail _ (by rw [if_neg y0])
    · refine e_iconst (v := nI 0) rfl ic_0N ?_
      refine e_zreturn rfl rfl ?_ ?_
      · exact Or.inl rfl
      · refine no ?_
        rw [if_pos y0]
        exact minl_bad
  · obtain rfl : c = -60 := jn_inv hc _ (by simp) z
    rw [jn_60] at tail no ⊢
    refine e_lload rfl rfl ?_
    refine e_lload_n rfl rfl ?_
    refine e_lcmp rfl ?_
    refine e_if_geC (tgt := 249) rfl rfl (fun y0 => ?_) (fun y0 => ?_)
    · refine e_iconst (v := nI 0) rfl ic_0N ?_
      refine e_callSp (M2 := m10_is) rfl v10_313 ok10_is (c10_is (d := d) false) rfl rfl rfl ?_
      refine e_lst6 rfl rfl rfl ?_
      refine e_goto (tgt := 407) rfl rfl ?_
      exact tail _ (by rw [if_neg (Int64.not_lt.mpr y0)]; rfl)
    · refine e_iconst (v := nI 1) rfl ic_1N ?_
      refine e_goto (tgt := 250) rfl rfl ?_
      refine e_callSp (M2 := m10_is) rfl v10_313 ok10_is (c10_is (d := d) true) rfl rfl rfl ?_
      refine e_lst6 rfl rfl rfl ?_
      refine e_goto (tgt := 407) rfl rfl ?_
      exact tail _ (by rw [if_pos (Int64.not_le.mp y0)]; rfl)
  · obtain rfl : c = -61 := jn_inv hc _ (by simp) z
    rw [jn_61] at tail no ⊢
    refine e_lload rfl rfl ?_
    refine e_lload_n rfl rfl ?_
    refine e_lcmp rfl ?_
    refine e_if_neC (tgt := 289) rfl rfl (fun y0 => ?_) (fun y0 => ?_)
    · refine e_iconst (v := nI 0) rfl ic_0N ?_
      refine e_callSp (M2 := m10_is) rfl v10_313 ok10_is (c10_is (d := d) false) rfl rfl rfl ?_
      refine e_lst6 rfl rfl rfl ?_
      refine e_goto (tgt := 407) rfl rfl ?_
      exact tail _ (by rw [if_neg y0]; rfl)
    · refine e_iconst (v := nI 1) rfl ic_1N ?_
      refine e_goto (tgt := 290) rfl rfl ?_
      refine e_callSp (M2 := m10_is) rfl v10_313 ok10_is (c10_is (d := d) true) rfl rfl rfl ?_
      refine e_lst6 rfl rfl rfl ?_
      refine e_goto (tgt := 407) rfl rfl ?_
      exact tail _ (by rw [if_pos y0]; rfl)
  · obtain rfl : c = -62 := jn_inv hc _ (by simp) z
    rw [jn_62] at tail no ⊢
    refine e_lload rfl rfl ?_
    refine e_lload_n rfl rfl ?_
    refine e_lcmp rfl ?_
    refine e_if_leC (tgt := 269) rfl rfl (fun y0 => ?_) (fun y0 => ?_)
    · refine e_iconst (v := nI 0) rfl ic_0N ?_
      refine e_callSp (M2 := m10_is) rfl v10_313 ok10_is (c10_is (d := d) false) rfl rfl rfl ?_
      refine e_lst6 rfl rfl rfl ?_
      refine e_goto (tgt := 407) rfl rfl ?_
      exact tail _ (by rw [if_neg (Int64.not_lt.mpr y0)]; rfl)
    · refine e_iconst (v := nI 1) rfl ic_1N ?_
      refine e_goto (tgt := 270) rfl rfl ?_
      refine e_callSp (M2 := m10_is) rfl v10_313 ok10_is (c10_is (d := d) true) rfl rfl rfl ?_
      refine e_lst6 rfl rfl rfl ?_
      refine e_goto (tgt := 407) rfl rfl ?_
      exact tail _ (by rw [if_pos (Int64.not_le.mp y0)]; rfl)
  · obtain rfl : c = -256 := jn_inv hc _ (by simp) z
    rw [jn_256] at tail no ⊢
    refine e_lload rfl rfl ?_
    refine e_lload_n rfl rfl ?_
    refine e_lcmp rfl ?_
    refine e_if_gtC (tgt := 309) rfl rfl (fun y0 => ?_) (fun y0 => ?_)
    · refine e_iconst (v := nI 0) rfl ic_0N ?_
      refine e_callSp (M2 := m10_is) rfl v10_313 ok10_is (c10_is (d := d) false) rfl rfl rfl ?_
      refine e_lst6 rfl rfl rfl ?_
      refine e_goto (tgt := 407) rfl rfl ?_
      exact tail _ (by rw [if_neg (Int64.not_le.mpr y0)]; rfl)
    · refine e_iconst (v := nI 1) rfl ic_1N ?_
      refine e_goto (tgt := 310) rfl rfl ?_
      refine e_callSp (M2 := m10_is) rfl v10_313 ok10_is (c10_is (d := d) true) rfl rfl rfl ?_
      refine e_lst6 rfl rfl rfl ?_
      refine e_goto (tgt := 407) rfl rfl ?_
      exact tail _ (by rw [if_pos (Int64.not_lt.mp y0)]; rfl)
  · obtain rfl : c = -258 := jn_inv hc _ (by simp) z
    rw [jn_258] at tail no ⊢
    refine e_lload rfl rfl ?_
    refine e_lload_n rfl rfl ?_
    refine e_lcmp rfl ?_
    refine e_if_eqC (tgt := 349) rfl rfl (fun y0 => ?_) (fun y0 => ?_)
    · refine e_iconst (v := nI 0) rfl ic_0N ?_
      refine e_callSp (M2 := m10_is) rfl v10_313 ok10_is (c10_is (d := d) false) rfl rfl rfl ?_
      refine e_lst6 rfl rfl rfl ?_
      refine e_goto (tgt := 407) rfl rfl ?_
      exact tail _ (by rw [if_pos y0]; rfl)
    · refine e_iconst (v := nI 1) rfl ic_1N ?_
      refine e_goto (tgt := 350) rfl rfl ?_
      refine e_callSp (M2 := m10_is) rfl v10_313 ok10_is (c10_is (d := d) true) rfl rfl rfl ?_
      refine e_lst6 rfl rfl rfl ?_
      refine e_goto (tgt := 407) rfl rfl ?_
      exact tail _ (by rw [if_neg y0]; rfl)
  · obtain rfl : c = -257 := jn_inv hc _ (by simp) z
    rw [jn_257] at tail no ⊢
    refine e_lload rfl rfl ?_
    refine e_lload_n rfl rfl ?_
    refine e_lcmp rfl ?_
    refine e_if_ltC (tgt := 329) rfl rfl (fun y0 => ?_) (fun y0 => ?_)
    · refine e_iconst (v := nI 0) rfl ic_0N ?_
      refine e_callSp (M2 := m10_is) rfl v10_313 ok10_is (c10_is (d := d) false) rfl rfl rfl ?_
      refine e_lst6 rfl rfl rfl ?_
      refine e_goto (tgt := 407) rfl rfl ?_
      exact tail _ (by rw [if_neg (Int64.not_le.mpr y0)]; rfl)
    · refine e_iconst (v := nI 1) rfl ic_1N ?_
      refine e_goto (tgt := 330) rfl rfl ?_
      refine e_callSp (M2 := m10_is) rfl v10_313 ok10_is (c10_is (d := d) true) rfl rfl rfl ?_
      refine e_lst6 rfl rfl rfl ?_
      refine e_goto (tgt := 407) rfl rfl ?_
      exact tail _ (by rw [if_pos (Int64.not_lt.mp y0)]; rfl)
  · obtain rfl : c = -20 := jn_inv hc _ (by simp) z
    rw [jn_20] at tail no ⊢
    refine e_lload rfl rfl ?_
    refine e_lconst (v := 0) rfl rfl ?_
    refine e_lcmp rfl ?_
    refine e_if_eqC (tgt := 375) rfl rfl (fun y0 => ?_) (fun y0 => ?_)
    · refine e_iconst (v := nI 0) rfl ic_0N ?_
      refine e_callSp (M2 := m10_is) rfl v10_313 ok10_is (c10_is (d := d) false) rfl rfl rfl ?_
      refine e_lst6 rfl rfl rfl ?_
      refine e_goto (tgt := 407) rfl rfl ?_
      exact tail _ (by rw [if_pos (Or.inl y0)]; rfl)
    · refine e_lload_n rfl rfl ?_
      refine e_lconst (v := 0) rfl rfl ?_
      refine e_lcmp rfl ?_
      refine e_if_eqC (tgt := 375) rfl rfl (fun y1 => ?_) (fun y1 => ?_)
      · refine e_iconst (v := nI 0) rfl ic_0N ?_
        refine e_callSp (M2 := m10_is) rfl v10_313 ok10_is (c10_is (d := d) false) rfl rfl rfl ?_
        refine e_lst6 rfl rfl rfl ?_
        refine e_goto (tgt := 407) rfl rfl ?_
        exact tail _ (by rw [if_pos (Or.inr y1)]; rfl)
      · refine e_iconst (v := nI 1) rfl ic_1N ?_
        refine e_goto (tgt := 376) rfl rfl ?_
        refine e_callSp (M2 := m10_is) rfl v10_313 ok10_is (c10_is (d := d) true) rfl rfl rfl ?_
        refine e_lst6 rfl rfl rfl ?_
        refine e_goto (tgt := 407) rfl rfl ?_
        exact tail _ (if_neg (fun q : x = 0 ∨ y = 0 => q.elim y0 y1)).symm
  · obtain rfl : c = -21 := jn_or hc z1 z2 z3 z4 z5 z6 z7 z8 z9 z10 z11
    rw [jn_21] at tail no ⊢
    refine e_lload rfl rfl ?_
    refine e_lconst (v := 0) rfl rfl ?_
    refine e_lcmp rfl ?_
    refine e_if_neC (tgt := 397) rfl rfl (fun y0 => ?_) (fun y0 => ?_)
    · refine e_iconst (v := nI 1) rfl ic_1N ?_
      refine e_goto (tgt := 402) rfl rfl ?_
      refine e_callSp (M2 := m10_is) rfl v10_313 ok10_is (c10_is (d := d) true) rfl rfl rfl ?_
      refine e_lst6 rfl rfl rfl ?_
      exact tail _ (if_neg (fun q : x = 0 ∧ y = 0 => y0 q.1)).symm
    · refine e_lload_n rfl rfl ?_
      refine e_lconst (v := 0) rfl rfl ?_
      refine e_lcmp rfl ?_
      refine e_if_eqC (tgt := 401) rfl rfl (fun y1 => ?_) (fun y1 => ?_)
      · refine e_iconst (v := nI 0) rfl ic_0N ?_
        refine e_callSp (M2 := m10_is) rfl v10_313 ok10_is (c10_is (d := d) false) rfl rfl rfl ?_
        refine e_lst6 rfl rfl rfl ?_
        exact tail _ (if_pos (show x = 0 ∧ y = 0 from ⟨y0, y1⟩)).symm
      · refine e_iconst (v := nI 1) rfl ic_1N ?_
        refine e_goto (tgt := 402) rfl rfl ?_
        refine e_callSp (M2 := m10_is) rfl v10_313 ok10_is (c10_is (d := d) true) rfl rfl rfl ?_
        refine e_lst6 rfl rfl rfl ?_
        exact tail _ (if_neg (fun q : x = 0 ∧ y = 0 => y1 q.2)).symm
theorem c10_worksNot (hM : MK K) {y : Int64} {r : List Int64} (hp : pileIs (J 123) (y :: r)) (hl : r.length + 1 ≤ 64) (hm : I 102 36 = nI (r.length + 1)) : Cw l G (d + 1) m10_works [.ref 102, .int (nI 260)] (I, J, K) (fun ret h' => ret = some (.int (bI true)) ∧ ∃ J', h' = (I, J', K) ∧ (∀ c, c ≠ 123 → J' c = J c) ∧ pileIs (J' 123) ((if y = 0 then 1 else 0) :: r)) := by
  obtain ⟨py, pr⟩ := hp
  have fin : ∀ b : Bool, (if b = true then (1 : Int64) else 0) = (if y = 0 then 1 else 0) → Gw l G (d + 1) m10_works 40 [.ref 102, .int (nI 260), .long y, .null, .null, .null, .null, .null] [.int (bI b), .int (nI r.length), .ref 123] (I, J, K) (fun ret h' => ret = some (.int (bI true)) ∧ ∃ J', h' = (I, J', K) ∧ (∀ c, c ≠ 123 → J' c = J c) ∧ pileIs (J' 123) ((if y = 0 then 1 else 0) :: r)) := by
    intro b hb
    refine e_callSp (M2 := m10_is) rfl v10_313 ok10_is (c10_is (d := d) b) rfl rfl rfl ?_
    first | refine e_lastoreN rfl hM.a35 (by omega) (by omega) ?_ | (refine e_lastore rfl hM.a35 ?_ ?_; rotate_left)
    refine e_iconst (v := nI 1) rfl ic_1N ?_
    refine e_zreturn rfl rfl ?_ ?_
    · exact Or.inr rfl
    · rw [hb]
      exact ⟨rfl, _, rfl, fun c hc => u2_row _ _ hc, u2_at _ _ _ _, pileIs_keep pr (fun j hj => u2_nk _ _ (by omega))⟩
  refine Cw.of ok10_works rfl (rfl : argL _ _ = [.ref 102, .int (nI 260), .null, .null, .null, .null, .null, .null]) ?_
  refine e_aload_n rfl rfl ?_
  refine e_getP rfl f10_75 hM.k rfl hM.p35 ?_
  refine e_aload_n rfl rfl ?_
  refine e_getI rfl f10_310 hM.k rfl ?_
  rw [hm]
  refine e_iconst (v := nI 1) rfl ic_1N ?_
  first | refine e_isubN rfl (by omega) ?_ | refine e_isub rfl ?_
  rw [show r.length + 1 - 1 = r.length by omega]
  first | refine e_laloadN rfl hM.a35 (by omega) (by omega) ?_ | (refine e_laload rfl hM.a35 ?_ ?_; rotate_left)
  rw [py]
  refine e_lst2 rfl rfl rfl ?_
  refine e_iload_n rfl rfl ?_
  refine e_sipush (v := nI 260) rfl sp_260N ?_
  refine e_icmp_ne (tgt := 46) rfl rfl (fun z => absurd rfl z) (fun _ => ?_)
  refine e_aload_n rfl rfl ?_
  refine e_getP rfl f10_75 hM.k rfl hM.p35 ?_
  refine e_aload_n rfl rfl ?_
  refine e_getI rfl f10_310 hM.k rfl ?_
  rw [hm]
  refine e_iconst (v := nI 1) rfl ic_1N ?_
  first | refine e_isubN rfl (by omega) ?_ | refine e_isub rfl ?_
  rw [show r.length + 1 - 1 = r.length by omega]
  refine e_lload_n rfl rfl ?_
  refine e_lconst (v := 0) rfl rfl ?_
  refine e_lcmp rfl ?_
  refine e_if_neC (tgt := 39) rfl rfl (fun z => ?_) (fun z => ?_)
  · refine e_iconst (v := nI 0) rfl ic_0N ?_
    exact fin false (by rw [if_neg z]; rfl)
  · refine e_iconst (v := nI 1) rfl ic_1N ?_
    refine e_goto (tgt := 40) rfl rfl ?_
    exact fin true (by rw [if_pos z]; rfl)
end MEval
