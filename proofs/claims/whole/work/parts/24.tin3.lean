/-! ===== TinNation: put, dent, find, law, undo, keep, back, count ===== -/
theorem CI.mono {I : IM} {J : JM} {P : Pl} {S : SM} {im : Bool} {SI : SM} {m : Nat} {T : SM} {kn : Int32} {u : Nat} {Hs : Nat → SM} {B B' : Nat} (h : CI I J P S im SI m T kn u Hs B) (hB : B ≤ B') : CI I J P S im SI m T kn u Hs B' := by
  obtain ⟨h1, h2, h3, h4, h5, h6, h7, U, h8, h9⟩ := h
  exact ⟨h1, h2, h3, h4.mono hB, h5, fun q => ⟨(h6 q).1, (h6 q).2.mono hB⟩, h7, U, h8, h9.sm (by have := h3.2.1; omega) rfl hB ⟨fun _ _ _ _ _ => rfl, fun _ _ => rfl, fun _ _ _ => rfl⟩⟩
/-- how a call leaves the class: what it stands for then, all else as it was -/
def Pst (I : IM) (J : JM) (K : Kt) (h' : Hp) (P : Pl) (S : SM) (im : Bool) (SI : SM) (m : Nat) (T : SM) (kn : Int32) (u : Nat) (Hs : Nat → SM) (B : Nat) : Prop := ∃ I' J', h' = (I', J', K) ∧ FX I J I' J' ∧ CI I' J' P S im SI m T kn u Hs B
theorem hvF_spec {I : IM} {s n B : Nat} {x : Int32} (hb : ∀ t, t < n → ∃ j, j ≤ B ∧ I (s + 4) t = nI j) (hB : B + 1 < 2 ^ 31) : ∀ k i v, i + k ≤ n → v ≤ B + 1 → ∃ j, j ≤ B + 1 ∧ hvF I s x i k (nI v) = nI j ∧ v ≤ j ∧ ∀ a, i ≤ a → a < i + k → I (s + 3) a = x → I (s + 4) a < nI j
  | 0, i, v, _, hv => ⟨v, hv, rfl, Nat.le_refl v, fun a h1 h2 => absurd h1 (by omega)⟩
  | k + 1, i, v, hi, hv => by
    obtain ⟨q, hq, eq⟩ := hb i (by omega)
    rw [hvF, eq, nI_add]
    by_cases c : I (s + 3) i = x
    · rw [if_pos c]
      by_cases c2 : v < q + 1
      · rw [if_pos ((nI_ltI (by omega) (by omega)).mpr c2)]
        obtain ⟨j, h1, h2, h3, h4⟩ := hvF_spec hb hB k (i + 1) (q + 1) (by omega) (by omega)
        refine ⟨j, h1, h2, by omega, fun a a1 a2 e => ?_⟩
        by_cases ea : a = i
        · subst ea
          rw [eq]
          exact (nI_ltI (by omega) (by omega)).mpr (by omega)
        · exact h4 a (by omega) (by omega) e
      · rw [if_neg (fun z => c2 ((nI_ltI (by omega) (by omega)).mp z))]
        obtain ⟨j, h1, h2, h3, h4⟩ := hvF_spec hb hB k (i + 1) v (by omega) hv
        refine ⟨j, h1, h2, by omega, fun a a1 a2 e => ?_⟩
        by_cases ea : a = i
        · subst ea
          rw [eq]
          exact (nI_ltI (by omega) (by omega)).mpr (by omega)
        · exact h4 a (by omega) (by omega) e
    · rw [if_neg c]
      obtain ⟨j, h1, h2, h3, h4⟩ := hvF_spec hb hB k (i + 1) v (by omega) hv
      refine ⟨j, h1, h2, by omega, fun a a1 a2 e => ?_⟩
      by_cases ea : a = i
      · subst ea
        exact absurd e c
      · exact h4 a (by omega) (by omega) e
/-- a TIN put on another STACK -/
def putS (S : SM) (t : Nat) (x : Int32) : SM := fun k i => if k = 2 ∧ i = t then x else if 100 ≤ k then (if k = 100 + t then 0 else if i = t then bI (decide (x = S 2 (k - 100))) else S k i) else S k i
theorem put_rc {I : IM} {J : JM} {n B t j : Nat} {S : SM} {x : Int32} (hC : RC I J 62 n S) (hH : HC I 62 n B) (ht : t < n) (hx : I 65 t ≠ x) (hj : j ≤ B + 1) (hB : B + 1 < 2 ^ 31) (h4 : ∀ a, a < n → I 65 a = x → I 66 a < nI j) : RC (u2 (u2 I 66 t (nI j)) 65 t x) J 62 n (putS S t x) ∧ HC (u2 (u2 I 66 t (nI j)) 65 t x) 62 n (B + 1) := by
  obtain ⟨h1, h2, h3, hm, h5, ⟨k1, k2, k3, k4, k5, k6⟩, h7⟩ := hC
  refine ⟨⟨?_, h2, fun t' ht' => ?_, fun a ha b hb => ?_, fun w hw => ?_, ⟨?_, ?_, ?_, ?_, ?_, ?_⟩, h7⟩, fun a ha => ?_, fun a ha b hb hab => ?_⟩
  · rw [u2_ne _ _ (by omega), u2_ne _ _ (by omega)]; exact h1
  · obtain ⟨e1, e2, e3, e4, e5⟩ := h3 t' ht'
    refine ⟨?_, ?_, ?_, ?_, ?_⟩
    · rw [u2_ne _ _ (by omega), u2_ne _ _ (by omega), e1]; simp [putS]
    · rw [u2_ne _ _ (by omega), u2_ne _ _ (by omega), e2]; simp [putS]
    · by_cases e : t' = t
      · subst e; rw [u2_at]; simp [putS]
      · rw [u2_nk _ _ e, u2_ne _ _ (by omega), e3]; simp [putS, e]
    · rw [u2_ne _ _ (by omega), u2_ne _ _ (by omega), e4]; simp [putS]
    · rw [u2_ne _ _ (by omega), u2_ne _ _ (by omega), e5]; simp [putS]
  · have e2a : I 65 a = S 2 a := (h3 a ha).2.2.1
    have em := hm a ha b hb
    unfold putS
    rw [if_neg (by omega), if_pos (by omega)]
    by_cases qa : a = t
    · subst qa
      rw [if_pos rfl]
      by_cases qb : b = a
      · subst qb
        rw [decide_eq_false (fun q => absurd q.2 (by rw [u2_ne _ _ (by omega), u2_at]; exact fun z => Int32.lt_irrefl z))]
        rfl
      · rw [decide_eq_false (fun q => ?_)]
        · rfl
        · have q1 := q.1
          have q2 := q.2
          rw [u2_at, u2_nk _ _ qb, u2_ne _ _ (by omega)] at q1
          rw [u2_ne _ _ (by omega), u2_at, u2_ne _ _ (by omega), u2_nk _ _ qb] at q2
          exact Int32.lt_irrefl (Int32.lt_trans q2 (h4 b hb q1))
    · rw [if_neg (by omega)]
      by_cases qb : b = t
      · subst qb
        rw [if_pos rfl, show 100 + a - 100 = a by omega]
        congr 1
        rw [Bool.eq_iff_iff, decide_eq_true_iff, decide_eq_true_iff, u2_at, u2_nk _ _ qa, u2_ne _ _ (by omega), u2_ne _ _ (by omega), u2_nk _ _ qa, u2_ne _ _ (by omega), u2_at, e2a]
        exact ⟨fun q => ⟨q, h4 a ha (e2a.trans q.symm)⟩, fun q => q.1⟩
      · rw [if_neg qb, em, u2_nk _ _ qb, u2_nk _ _ qa, u2_ne _ _ (by omega), u2_ne _ _ (by omega), u2_ne _ _ (by omega), u2_nk _ _ qa, u2_ne _ _ (by omega), u2_nk _ _ qb]
  · rw [u2_ne _ _ (by omega), u2_ne _ _ (by omega), h5 w hw]; simp [putS]
  · rw [u2_ne _ _ (by omega), u2_ne _ _ (by omega), k1]; simp [putS]
  · rw [u2_ne _ _ (by omega), u2_ne _ _ (by omega), k2]; simp [putS]
  · rw [u2_ne _ _ (by omega), u2_ne _ _ (by omega), k3]; simp [putS]
  · rw [u2_ne _ _ (by omega), u2_ne _ _ (by omega), k4]; simp [putS]
  · rw [u2_ne _ _ (by omega), u2_ne _ _ (by omega), k5]; simp [putS]
  · rw [u2_ne _ _ (by omega), u2_ne _ _ (by omega), k6]; simp [putS]
  · by_cases e : a = t
    · subst e; exact ⟨j, hj, by rw [u2_ne _ _ (by omega), u2_at]⟩
    · obtain ⟨q, h1, h2⟩ := hH.1 a ha
      exact ⟨q, by omega, by rw [u2_ne _ _ (by omega), u2_nk _ _ e]; exact h2⟩
  · intro q1 q2
    by_cases qa : a = t
    · subst qa
      have qb : b ≠ a := fun q => hab q.symm
      rw [u2_at, u2_nk _ _ qb, u2_ne _ _ (by omega)] at q1
      rw [u2_ne _ _ (by omega), u2_at, u2_ne _ _ (by omega), u2_nk _ _ qb] at q2
      exact Int32.lt_irrefl (q2 ▸ h4 b hb q1.symm)
    · by_cases qb : b = t
      · subst qb
        rw [u2_nk _ _ qa, u2_at, u2_ne _ _ (by omega)] at q1
        rw [u2_ne _ _ (by omega), u2_nk _ _ qa, u2_ne _ _ (by omega), u2_at] at q2
        exact Int32.lt_irrefl (q2 ▸ h4 a ha q1)
      · rw [u2_nk _ _ qa, u2_nk _ _ qb, u2_ne _ _ (by omega), u2_ne _ _ (by omega)] at q1
        rw [u2_ne _ _ (by omega), u2_nk _ _ qa, u2_ne _ _ (by omega), u2_nk _ _ qb] at q2
        exact hH.2 a ha b hb hab q1 q2
section MTin3
variable {l : Launch} {G : GG} {d : Nat} {I : IM} {J : JM} {K : Kt} {Q : Option Value → Hp → Prop} {P : Pl} {S : SM} {im : Bool} {SI : SM} {m : Nat} {T : SM} {kn : Int32} {u : Nat} {Hs : Nat → SM} {B n : Nat}
theorem c9_openP (hG : GK K) (hI : CI I J P S im SI m T kn u Hs B) (hV : wfS P S) (hn : P.1 1 = n) (t : Int32) : Cw l G (d + 4) m9_open [.ref 0, .int t] (I, J, K) (fun r h' => r = some (.int (a_open P S n t)) ∧ Pst I J K h' P (if isOp S n t = true then unsS P S t.toNatClampNeg else S) im SI m T kn (if isOp S n t = true then u1 u else u) (if isOp S n t = true then H1 u Hs S else Hs) (B + 1)) := by
  refine (c9_open hG hI hV hn t).mono ?_
  rintro r h' ⟨rfl, I', J', rfl, hf, hc⟩
  refine ⟨rfl, I', J', rfl, hf, ?_⟩
  by_cases c : isOp S n t = true
  · rw [if_pos c] at hc
    rw [if_pos c, if_pos c, if_pos c]
    exact hc.mono (by omega)
  · rw [if_neg c] at hc
    obtain ⟨rfl, rfl⟩ := hc
    rw [if_neg c, if_neg c, if_neg c]
    exact hI.mono (by omega)
def isPut (S : SM) (n : Nat) (t x : Int32) : Bool := inN n t && (inN 4 x && (topS S n t.toNatClampNeg && !decide (S 2 t.toNatClampNeg = x)))
theorem c9_put (hG : GK K) (hI : CI I J P S im SI m T kn u Hs B) (hB : B < 2 ^ 30) (hn : P.1 1 = n) (t x : Int32) : Cw l G (d + 3) m9_put [.ref 0, .int t, .int x] (I, J, K) (fun r h' => r = some (.int (bI (isPut S n t x))) ∧ Pst I J K h' P (if isPut S n t x = true then putS S t.toNatClampNeg x else S) im SI m T kn (if isPut S n t x = true then u1 u else u) (if isPut S n t x = true then H1 u Hs S else Hs) (B + 1)) := by
  have hG2 := hG
  obtain ⟨⟨k9, t0, t2, t3, t4, t5, t6, t7, t9, t10, t11, t12⟩, -, -, -, -, hD, hS, -, -, -, hU9⟩ := hG2
  have hI2 := hI
  obtain ⟨hR, hW, hC, hHC, hIm, hImg, hRT, U, hRU, hUB⟩ := hI2
  rw [hn] at hC hHC hUB
  have hS2 := hS
  obtain ⟨h6, p0, p1, p2, p3, p4, p5, p6, a1, a2, a3, a4, a5, a6, a7⟩ := hS2
  have h7 := hU9.1
  have hn7 := hC.1
  have hn8 := hC.2.1
  have no : ∀ pc, lk m9_put pc = some (.iconst 0, pc + 1, 1) → lk m9_put (pc + 1) = some (.ireturn, pc + 2, 1) → isPut S n t x = false → Gw l G (d + 3) m9_put pc [.ref 0, .int t, .int x] [] (I, J, K) (fun r h' => r = some (.int (bI (isPut S n t x))) ∧ Pst I J K h' P (if isPut S n t x = true then putS S t.toNatClampNeg x else S) im SI m T kn (if isPut S n t x = true then u1 u else u) (if isPut S n t x = true then H1 u Hs S else Hs) (B + 1)) := by
    intro pc l1 l2 hno
    rw [hno]
    refine e_iconst (v := 0) l1 (by decide) ?_
    refine e_zreturn l2 rfl (Or.inl rfl) ⟨rfl, I, J, rfl, FX.rf, hI.mono (by omega)⟩
  refine Cw.of ok9_put rfl (rfl : argL _ _ = [.ref 0, .int t, .int x]) ?_
  refine e_aload_n rfl rfl ?_
  refine e_getP rfl f9_41 (by assumption) rfl (by assumption) ?_
  refine e_iload_n rfl rfl ?_
  refine e_callVp (kd := 6) (M2 := m6_has) rfl v9_121 ok6_has (c6_has h6 hn7 t) rfl (by assumption) rfl rfl rfl rfl ?_
  first | refine e_if_eqB (tgt := 20) rfl rfl (fun z => ?_) (fun z => ?_) | refine e_if_eqN (tgt := 20) rfl rfl (by omega) (fun z => ?_) (fun z => ?_) | refine e_if_eq (tgt := 20) rfl rfl (fun z => ?_) (fun z => ?_)
  · exact no 20 rfl rfl (by rw [isPut, z, Bool.false_and])
  · have hin : inN n t = true := by assumption
    refine e_iload_n rfl rfl ?_
    first | refine e_if_ltN (tgt := 20) rfl rfl (by omega) ?_ | refine e_if_lt (tgt := 20) rfl rfl (fun z => ?_) (fun z => ?_)
    · have y : x < 0 := by assumption
      exact no 20 rfl rfl (by rw [isPut, hin, Bool.true_and, show inN 4 x = false from decide_eq_false (fun q => absurd y (Int32.not_lt.mpr q.1)), Bool.false_and])
    · have y0 : ¬ x < 0 := by assumption
      refine e_iload_n rfl rfl ?_
      refine e_iconst (v := nI 4) rfl ic_4N ?_
      first | refine e_icmp_ltN (tgt := 22) rfl rfl (by omega) (by omega) (fun z => ?_) (fun z => ?_) | refine e_icmp_lt (tgt := 22) rfl rfl (fun z => ?_) (fun z => ?_)
      · have y1 : x < nI 4 := by assumption
        have hx4 : inN 4 x = true := decide_eq_true ⟨Int32.not_lt.mp y0, y1⟩
        obtain ⟨j, hj, rfl⟩ := inN_of (by omega) hin
        have e2 : I 65 j = S 2 j := (hC.2.2.1 j hj).2.2.1
        have eP : isPut S n (nI j) x = (topS S n j && !decide (S 2 j = x)) := by rw [isPut, hin, Bool.true_and, hx4, Bool.true_and, nI_clamp (by omega)]
        refine e_aload_n rfl rfl ?_
        refine e_getP rfl f9_41 (by assumption) rfl (by assumption) ?_
        refine e_iload_n rfl rfl ?_
        refine e_callVp (kd := 6) (M2 := m6_isOnTop) rfl v9_167 ok6_isOnTop (c6_isOnTop hS hn7 hn8 (nI j)) rfl (by assumption) rfl rfl rfl rfl ?_
        first | refine e_if_eqB (tgt := 46) rfl rfl (fun z => ?_) (fun z => ?_) | refine e_if_eqN (tgt := 46) rfl rfl (by omega) (fun z => ?_) (fun z => ?_) | refine e_if_eq (tgt := 46) rfl rfl (fun z => ?_) (fun z => ?_)
        · rw [hin, Bool.true_and, nI_clamp (by omega), rc_top hC hj] at z
          exact no 46 rfl rfl (by rw [eP, z, Bool.false_and])
        · rw [hin, Bool.true_and, nI_clamp (by omega), rc_top hC hj] at z
          have ztop := z
          refine e_aload_n rfl rfl ?_
          refine e_getP rfl f9_41 (by assumption) rfl (by assumption) ?_
          refine e_getP rfl f9_139 (by assumption) rfl (by assumption) ?_
          refine e_iload_n rfl rfl ?_
          first | refine e_ialoadN rfl (by assumption) (by omega) (by omega) ?_ | (refine e_iaload rfl (by assumption) ?_ ?_; rotate_left)
          refine e_iload_n rfl rfl ?_
          first | refine e_icmp_neN (tgt := 48) rfl rfl (by omega) (by omega) (fun z => ?_) (fun z => ?_) | refine e_icmp_ne (tgt := 48) rfl rfl (fun z => ?_) (fun z => ?_)
          · have hx : I 65 j ≠ x := by assumption
            have yes : isPut S n (nI j) x = true := by rw [eP, ztop, decide_eq_false (by rw [← e2]; exact hx)]; rfl
            rw [yes, if_pos rfl, if_pos rfl, if_pos rfl, nI_clamp (by omega)]
            refine e_aload_n rfl rfl ?_
            refine e_getP rfl f9_61 (by assumption) rfl (by assumption) ?_
            refine e_iconst (v := nI 1) rfl ic_1N ?_
            refine e_iload_n rfl rfl ?_
            refine e_aload_n rfl rfl ?_
            refine e_getP rfl f9_41 (by assumption) rfl (by assumption) ?_
            refine e_getP rfl f9_139 (by assumption) rfl (by assumption) ?_
            refine e_iload_n rfl rfl ?_
            first | refine e_ialoadN rfl (by assumption) (by omega) (by omega) ?_ | (refine e_iaload rfl (by assumption) ?_ ?_; rotate_left)
            refine e_aload_n rfl rfl ?_
            refine e_getP rfl f9_41 (by assumption) rfl (by assumption) ?_
            refine e_getP rfl f9_197 (by assumption) rfl (by assumption) ?_
            refine e_iload_n rfl rfl ?_
            first | refine e_ialoadN rfl (by assumption) (by omega) (by omega) ?_ | (refine e_iaload rfl (by assumption) ?_ ?_; rotate_left)
            refine e_callV (kd := 7) (M2 := m7_add) rfl v9_193 ok7_add (c7_add hU9 hRU _ _ _ _) rfl (by assumption) rfl rfl rfl rfl (fun r1 h1 q1 => ?_)
            obtain ⟨rfl, I1, rfl, f1, U1'⟩ := q1
            have hn71 : I1 62 7 = nI n := by rw [f1 _ (by omega)]; exact hn7
            obtain ⟨q, hq, eq, -, h4⟩ := hvF_spec (I := I1) (s := 62) (n := n) (x := x) (B := B) (by rw [f1 _ (by omega)]; exact hHC.1) (by omega) n 0 0 (by omega) (by omega)
            refine e_aload_n rfl rfl ?_
            refine e_getP rfl f9_41 (by assumption) rfl (by assumption) ?_
            refine e_getP rfl f9_197 (by assumption) rfl (by assumption) ?_
            refine e_iload_n rfl rfl ?_
            refine e_aload_n rfl rfl ?_
            refine e_getP rfl f9_41 (by assumption) rfl (by assumption) ?_
            refine e_iload_n rfl rfl ?_
            refine e_callVp (kd := 6) (M2 := m6_heightOver) rfl v9_200 ok6_heightOver (c6_heightOver hS hn71 hn8 x) rfl (by assumption) rfl rfl rfl rfl ?_
            rw [eq]
            first | refine e_iastoreN rfl (by assumption) (by omega) (by omega) ?_ | (refine e_iastore rfl (by assumption) ?_ ?_; rotate_left)
            refine e_aload_n rfl rfl ?_
            refine e_getP rfl f9_41 (by assumption) rfl (by assumption) ?_
            refine e_getP rfl f9_139 (by assumption) rfl (by assumption) ?_
            refine e_iload_n rfl rfl ?_
            refine e_iload_n rfl rfl ?_
            first | refine e_iastoreN rfl (by assumption) (by omega) (by omega) ?_ | (refine e_iastore rfl (by assumption) ?_ ?_; rotate_left)
            refine e_iconst (v := nI 1) rfl ic_1N ?_
            refine e_zreturn rfl rfl ?_ ?_
            · exact Or.inr rfl
            have C1 : RC I1 J 62 n S := hC.frame (fun c h1 h2 => f1 c (by omega)) rfl
            have H1' : HC I1 62 n B := hHC.frame (f1 _ (by omega)) (f1 _ (by omega))
            obtain ⟨C2, H2⟩ := put_rc C1 H1' hj (by rw [f1 _ (by omega)]; exact hx) hq (by omega) (fun a ha e => h4 a (by omega) (by omega) e)
            have hfn : FN I J (u2 (u2 I1 66 j (nI q)) 65 j x) J := ⟨fun c b1 b2 b3 b4 => by rw [u2_row _ _ (by omega), u2_row _ _ (by omega), f1 c (by omega)], fun c b1 b2 => rfl⟩
            refine ⟨rfl, _, _, rfl, hfn.fx, ?_⟩
            refine hI.now hfn (by omega) (by rw [hn]; exact C2) (by rw [hn]; exact H2) ?_
            rw [hn]
            refine UV.add (by omega) hRU.2.2.1 hUB hC hHC (by omega) (U1'.frame (fun c h1 h2 => by rw [u2_row _ _ (by omega), u2_row _ _ (by omega)])) ?_ rfl
            have et : tbk (u2 (u2 I1 66 j (nI q)) 65 j x) 62 (nI 1) (nI j) (I 65 j) (I 66 j) n = u2 (u2 (u2 (u2 I1 66 j (nI q)) 65 j x) 65 j (I 65 j)) 66 j (I 66 j) := by
              unfold tbk
              rw [if_neg (by decide), if_pos hin, if_neg (by decide), if_pos rfl, nI_clamp (by omega)]
            rw [et]
            refine ⟨fun r r1 r2 t ht => ?_, fun w hw => ?_, fun k b1 b2 => ?_⟩
            · by_cases q4 : r = 4 ∧ t = j
              · obtain ⟨rfl, rfl⟩ := q4
                rw [u2_at]
              · by_cases q3 : r = 3 ∧ t = j
                · obtain ⟨rfl, rfl⟩ := q3
                  rw [u2_ne _ _ (by omega), u2_at]
                · have e1 : ¬ (62 + r = 66 ∧ t = j) := fun z => q4 ⟨by omega, z.2⟩
                  have e3 : ¬ (62 + r = 65 ∧ t = j) := fun z => q3 ⟨by omega, z.2⟩
                  simp only [u2, if_neg e1, if_neg e3]
                  rw [f1 _ (by omega)]
            · rw [u2_ne _ _ (by omega), u2_ne _ _ (by omega), u2_ne _ _ (by omega), u2_ne _ _ (by omega), f1 _ (by omega)]
            · rw [u2_ne _ _ (by omega), u2_ne _ _ (by omega), u2_ne _ _ (by omega), u2_ne _ _ (by omega), f1 _ (by omega)]
          · have y : I 65 j = x := by assumption
            exact no 46 rfl rfl (by rw [eP, decide_eq_true (e2.symm.trans y), Bool.not_true, Bool.and_false])
      · exact no 20 rfl rfl (by rw [isPut, hin, Bool.true_and, show inN 4 x = false from decide_eq_false (fun q => absurd q.2 (by assumption)), Bool.false_and])
end MTin3
