/-! ===== order ===== -/
theorem wn_in {v : Int64} {a b : Nat} {wo : Int32} (hv : v ≠ MINL) (hab : a ≤ b) (hb : b < 2 ^ 31) : ∃ g, a ≤ g ∧ g ≤ b ∧ wn v (nI a) (nI b) wo = nI g := by
  unfold wn
  rw [if_neg hv, nI_l (by omega), nI_l (by omega)]
  by_cases c : v < lN b
  · rw [if_pos c]
    by_cases c2 : v < lN a
    · rw [if_pos c2, lN_i]
      exact ⟨a, Nat.le_refl a, hab, rfl⟩
    · rw [if_neg c2]
      have h0 : ¬ v < 0 := fun q => c2 (Int64.lt_of_lt_of_le q ((pk_lLE (by omega : (0 : Nat) < 2 ^ 63) (by omega)).mpr (Nat.zero_le a)))
      obtain ⟨k, hk, rfl⟩ := pk_lOf h0
      rw [lN_i]
      exact ⟨k, Nat.not_lt.mp (fun q => c2 ((pk_lLT hk (by omega)).mpr q)), Nat.le_of_lt ((pk_lLT hk (by omega)).mp c), rfl⟩
  · rw [if_neg c]
    by_cases c2 : lN b < lN a
    · rw [if_pos c2, lN_i]
      exact ⟨a, Nat.le_refl a, hab, rfl⟩
    · rw [if_neg c2, lN_i]
      exact ⟨b, hab, Nat.le_refl b, rfl⟩
/-- what else is in order of a plan -/
def wfQ (P : Pl) : Prop := P.1 0 ≤ 6 ∧ P.1 1 ≤ 8 ∧ P.1 2 ≤ 10 ∧ P.1 3 ≤ 8 ∧ (∀ w, w < P.1 3 → ∃ j, j ≤ 99 ∧ P.2 12 w = nI j)
theorem sv1_gain {P : Pl} {n w : Nat} {busy : Int32} {S : SM} (hQ : wfQ P) (hw : w < P.1 3) : ∃ g, g ≤ 999 ∧ (sv1 P n busy S w).2 10 0 = S 10 0 + nI g := by
  unfold sv1
  by_cases c : P.2 11 w = S 8 0
  · rw [if_pos c]
    by_cases c2 : srv P S (P.2 10 w) busy 0 n = -1
    · rw [if_pos c2]
      exact ⟨0, by omega, by dsimp only; rw [u2_ne _ _ (by omega), u2_ne _ _ (by omega)]; exact (Int32.add_zero _).symm⟩
    · rw [if_neg c2]
      dsimp only
      rw [u2_at]
      by_cases cv : lawP P 1 (nmS P S (srv P S (P.2 10 w) busy 0 n).toNatClampNeg (P.2 12 w)) = MINL
      · obtain ⟨j, hj, ej⟩ := hQ.2.2.2.2 w hw
        refine ⟨j, by omega, ?_⟩
        rw [wn, if_pos cv, ej]
      · obtain ⟨g, -, hg, eg⟩ := wn_in (a := 0) (b := 999) (wo := P.2 12 w) cv (by omega) (by omega)
        exact ⟨g, hg, by rw [eg]⟩
  · rw [if_neg c]
    exact ⟨0, by omega, (Int32.add_zero _).symm⟩
theorem svS_gain {P : Pl} {n : Nat} (hQ : wfQ P) : ∀ k w busy S, w + k ≤ P.1 3 → ∃ g, g ≤ 999 * k ∧ svS P n w k busy S 10 0 = S 10 0 + nI g
  | 0, _, _, S, _ => ⟨0, by omega, (Int32.add_zero _).symm⟩
  | k + 1, w, busy, S, h => by
    obtain ⟨g, hg, eg⟩ := sv1_gain (n := n) (busy := busy) (S := S) hQ (by omega : w < P.1 3)
    obtain ⟨g', hg', eg'⟩ := svS_gain hQ k (w + 1) (sv1 P n busy S w).1 (sv1 P n busy S w).2 (by omega)
    refine ⟨g + g', by omega, ?_⟩
    rw [svS, eg', eg, Int32.add_assoc, nI_add]
theorem pa_gain {P : Pl} {dr : Bool} {way sp : Int32} {n : Nat} {S : SM} (hQ : wfQ P) : ∃ g, g ≤ 7992 ∧ paS P dr way sp n S 10 0 = S 10 0 + nI g := by
  obtain ⟨g, hg, eg⟩ := svS_gain (n := n) hQ (P.1 3) 0 0 (otS P way sp n 0 (P.1 2) S) (by omega)
  have h8 := hQ.2.2.2.1
  refine ⟨g, by omega, ?_⟩
  unfold paS
  rw [u2_ne _ _ (by omega), blS_row (by omega)]
  rw [otS_row (by omega)] at eg
  rw [← eg]
  split <;> split <;> simp only [ruS_row (r := 10) (c := 0) (by omega), goS_row (r := 10) (c := 0) (by omega)]
theorem rn_gain {g : Nat → SM → SM} (h : ∀ i S, ∃ q, q ≤ 7992 ∧ g i S 10 0 = S 10 0 + nI q) : ∀ k i S, ∃ q, q ≤ 7992 * k ∧ rnS g i k S 10 0 = S 10 0 + nI q
  | 0, _, S => ⟨0, by omega, (Int32.add_zero _).symm⟩
  | k + 1, i, S => by
    obtain ⟨q, hq, eq⟩ := h i S
    obtain ⟨q', hq', eq'⟩ := rn_gain h k (i + 1) (g i S)
    exact ⟨q + q', by omega, by rw [rnS, eq', eq, Int32.add_assoc, nI_add]⟩
/-- a day of an ORDER -/
def dayO (P : Pl) (n m : Nat) (g : Nat → Nat) (i : Nat) (S : SM) : SM := pa0 P false n (if i < m then unsA P S (g i) else S)
theorem dayO8 {P : Pl} {n m i : Nat} {g : Nat → Nat} {S : SM} : dayO P n m g i S 8 0 = S 8 0 + nI 1 := by
  unfold dayO pa0
  rw [pa_day, ite_app (v := S 8 0) (unsA_row (by omega)) rfl]
theorem dayO10 {P : Pl} (hW : wfP P) {n m i : Nat} {g : Nat → Nat} {S : SM} (h : P.2 20 4 < S 8 0) : dayO P n m g i S 10 0 = S 10 0 := by
  unfold dayO pa0
  rw [pa_glory hW (by rw [ite_app (v := S 8 0) (unsA_row (by omega)) rfl]; exact h), ite_app (v := S 10 0) (unsA_row (by omega)) rfl]
def goF (P : Pl) (n : Nat) (S : SM) (m : Nat) (g : Nat → Nat) : Int32 := rnS (dayO P n m g) 0 20 S 10 0 - S 10 0
theorem goF_in {P : Pl} {n m : Nat} {S : SM} {g : Nat → Nat} (hQ : wfQ P) : ∃ q, q ≤ 159840 ∧ goF P n S m g = nI q := by
  obtain ⟨q, hq, eq⟩ := rn_gain (g := dayO P n m g) (fun i S => by
    obtain ⟨q, hq, eq⟩ := pa_gain (dr := false) (way := nI 0) (sp := nI 0) (n := n) (S := if i < m then unsA P S (g i) else S) hQ
    refine ⟨q, hq, ?_⟩
    unfold dayO pa0
    rw [eq, ite_app (v := S 10 0) (unsA_row (by omega)) rfl]) 20 0 S
  exact ⟨q, by omega, by rw [goF, eq, Int32.add_comm, Int32.add_sub_cancel]⟩
/-- the first four that are CLOSED -/
def fcF (S : SM) : Nat → Nat → Nat → (Nat → Nat) → Nat × (Nat → Nat)
  | 0, _, m, f => (m, f)
  | k + 1, i, m, f => if 4 ≤ m then (m, f) else if S 0 i = 0 then fcF S k (i + 1) (m + 1) (fun j => if j = m then i else f j) else fcF S k (i + 1) m f
theorem fcF_in {S : SM} {n : Nat} : ∀ k i m f, i + k = n → m ≤ 4 → (∀ j, j < m → f j < i) → (∀ a b, a < b → b < m → f a < f b) → (fcF S k i m f).1 ≤ 4 ∧ (∀ j, j < (fcF S k i m f).1 → (fcF S k i m f).2 j < n) ∧ ∀ a b, a < b → b < (fcF S k i m f).1 → (fcF S k i m f).2 a < (fcF S k i m f).2 b
  | 0, i, m, f, hi, hm, h1, h2 => ⟨hm, fun j hj => by have := h1 j hj; show f j < n; omega, h2⟩
  | k + 1, i, m, f, hi, hm, h1, h2 => by
    rw [fcF]
    by_cases c : 4 ≤ m
    · rw [if_pos c]
      exact ⟨hm, fun j hj => by have := h1 j hj; show f j < n; omega, h2⟩
    · rw [if_neg c]
      by_cases c2 : S 0 i = 0
      · rw [if_pos c2]
        refine fcF_in k (i + 1) (m + 1) _ (by omega) (by omega) (fun j hj => ?_) (fun a b hab hb => ?_)
        · by_cases e : j = m
          · rw [if_pos e]; omega
          · rw [if_neg e]; have := h1 j (by omega); omega
        · rw [if_neg (by omega)]
          by_cases e : b = m
          · rw [if_pos e]; exact h1 a (by omega)
          · rw [if_neg e]; exact h2 a b hab (by omega)
      · rw [if_neg c2]
        exact fcF_in k (i + 1) m f (by omega) hm (fun j hj => by have := h1 j hj; omega) h2
def nxA (g : Nat → Nat) : Nat → Nat
  | 0 => 0
  | a + 1 => if g (a + 1) < g a then nxA g a else a + 1
def nxO (g : Nat → Nat) (a : Nat) : Nat → Nat
  | 0 => 0
  | o + 1 => if a < o + 1 ∧ g (o + 1) < g a then nxO g a o else o + 1
def swp (g : Nat → Nat) (a b : Nat) : Nat → Nat := fun j => if j = b then g a else if j = a then g b else g j
def rvF : Nat → Nat → Nat → (Nat → Nat) → Nat → Nat
  | 0, _, _, g => g
  | k + 1, lo, hi, g => if lo < hi then rvF k (lo + 1) (hi - 1) (swp g lo hi) else g
def nxR (m : Nat) (g : Nat → Nat) : Bool × (Nat → Nat) := if nxA g (m - 1) = 0 then (false, g) else (true, rvF 4 (nxA g (m - 1)) (m - 1) (swp g (nxA g (m - 1) - 1) (nxO g (nxA g (m - 1) - 1) (m - 1))))
def orF (P : Pl) (n : Nat) (S : SM) (m : Nat) : Nat → (Nat → Nat) → Int32 → (Nat → Nat) → Int32 × (Nat → Nat)
  | 0, _, mo, b => (mo, b)
  | k + 1, g, mo, b => if (nxR m g).1 = true then orF P n S m k (nxR m g).2 (if mo < goF P n S m g then goF P n S m g else mo) (if mo < goF P n S m g then g else b) else (if mo < goF P n S m g then goF P n S m g else mo, if mo < goF P n S m g then g else b)
theorem nxA_le (g : Nat → Nat) : ∀ a, nxA g a ≤ a
  | 0 => Nat.le_refl 0
  | a + 1 => by
    rw [nxA]
    have := nxA_le g a
    split <;> omega
theorem nxO_le (g : Nat → Nat) (a : Nat) : ∀ o, nxO g a o ≤ o
  | 0 => Nat.le_refl 0
  | o + 1 => by
    rw [nxO]
    have := nxO_le g a o
    split <;> omega
section MOrd
variable {l : Launch} {G : GG} {d : Nat} {I : IM} {J : JM} {K : Kt} {h : Hp} {Q : Option Value → Hp → Prop} {P : Pl} {S : SM} {im : Bool} {SI : SM} {m : Nat} {T : SM} {kn : Int32} {u : Nat} {Hs : Nat → SM} {B n : Nat}
theorem first_loop (hG : GK K) (hn8 : n ≤ 8) : ∀ k i m f I, i + k = n → m ≤ 4 → m ≤ i → RC I J 62 n S → (∀ j, j < m → I 100 j = nI (f j)) → (∀ I', (∀ c, c ≠ 100 → I' c = I c) → (∀ j, j < (fcF S k i m f).1 → I' 100 j = nI ((fcF S k i m f).2 j)) → Q (some (.int (nI (fcF S k i m f).1))) (I', J, K)) → Gw l G (d + 2) m9_firstClosed 4 [.ref 0, .int (nI m), .int (nI i)] [] (I, J, K) Q := by
  have hG2 := hG
  obtain ⟨⟨k9, t0, t2, t3, t4, t5, t6, t7, t9, t10, t11, t12⟩, ⟨-, -, -, -, a100, a101⟩, -, -, hP, hD, hS, hS7, -, hT8, -⟩ := hG2
  have h6 := hS.1
  intro k
  induction k with
  | zero =>
    intro i m f I hi hm hmi hC hf kk
    have hn7 := hC.1
    refine e_iload_n rfl rfl ?_
    refine e_aload_n rfl rfl ?_
    refine e_getP rfl f9_41 (by assumption) rfl (by assumption) ?_
    refine e_getI rfl f9_160 (by assumption) rfl ?_
    rw [hn7]
    first | refine e_icmp_geN (tgt := 47) rfl rfl (by omega) (by omega) (fun z => ?_) (fun z => ?_) | refine e_icmp_ge (tgt := 47) rfl rfl (fun z => ?_) (fun z => ?_)
    · refine e_iload_n rfl rfl ?_
      refine e_ireturn rfl rfl ?_
      exact kk I (fun _ _ => rfl) hf
    · omega
  | succ k ih =>
    intro i m f I hi hm hmi hC hf kk
    have hn7 := hC.1
    have e0 : I (62 + 1) i = S 0 i := (hC.2.2.1 i (by omega)).1
    rw [fcF] at kk
    refine e_iload_n rfl rfl ?_
    refine e_aload_n rfl rfl ?_
    refine e_getP rfl f9_41 (by assumption) rfl (by assumption) ?_
    refine e_getI rfl f9_160 (by assumption) rfl ?_
    rw [hn7]
    first | refine e_icmp_geN (tgt := 47) rfl rfl (by omega) (by omega) (fun z => ?_) (fun z => ?_) | refine e_icmp_ge (tgt := 47) rfl rfl (fun z => ?_) (fun z => ?_)
    · omega
    · refine e_iload_n rfl rfl ?_
      refine e_iconst (v := nI 4) rfl ic_4N ?_
      first | refine e_icmp_geN (tgt := 47) rfl rfl (by omega) (by omega) (fun z => ?_) (fun z => ?_) | refine e_icmp_ge (tgt := 47) rfl rfl (fun z => ?_) (fun z => ?_)
      · rw [if_pos (by omega)] at kk
        refine e_iload_n rfl rfl ?_
        refine e_ireturn rfl rfl ?_
        exact kk I (fun _ _ => rfl) hf
      · rw [if_neg (by omega)] at kk
        refine e_aload_n rfl rfl ?_
        refine e_getP rfl f9_41 (by assumption) rfl (by assumption) ?_
        refine e_iload_n rfl rfl ?_
        refine e_callVp (kd := 6) (M2 := m6_isClosed) rfl v9_203 ok6_isClosed (c6_isClosed hS hn7 hn8 (nI i)) rfl (by assumption) rfl rfl rfl rfl ?_
        first | refine e_if_eqB (tgt := 41) rfl rfl (fun z => ?_) (fun z => ?_) | refine e_if_eqN (tgt := 41) rfl rfl (by omega) (fun z => ?_) (fun z => ?_) | refine e_if_eq (tgt := 41) rfl rfl (fun z => ?_) (fun z => ?_)
        · rw [inN_nI (by omega) (by omega), decide_eq_true (by omega), Bool.true_and, nI_clamp (by omega), e0] at z
          rw [if_neg (of_decide_eq_false z)] at kk
          first | refine e_inc2 rfl rfl rfl (incN1 _) ?_ | refine e_inc2 rfl rfl rfl rfl ?_
          refine e_goto (tgt := 4) rfl rfl ?_
          exact ih (i + 1) m f I (by omega) hm (by omega) hC hf kk
        · rw [inN_nI (by omega) (by omega), decide_eq_true (by omega), Bool.true_and, nI_clamp (by omega), e0] at z
          rw [if_pos (of_decide_eq_true z)] at kk
          refine e_aload_n rfl rfl ?_
          refine e_getP rfl f9_65 (by assumption) rfl (by assumption) ?_
          refine e_iload_n rfl rfl ?_
          refine e_iload_n rfl rfl ?_
          first | refine e_iastoreN rfl (by assumption) (by omega) (by omega) ?_ | (refine e_iastore rfl (by assumption) ?_ ?_; rotate_left)
          first | refine e_inc1 rfl rfl rfl (incN1 _) ?_ | refine e_inc1 rfl rfl rfl rfl ?_
          first | refine e_inc2 rfl rfl rfl (incN1 _) ?_ | refine e_inc2 rfl rfl rfl rfl ?_
          refine e_goto (tgt := 4) rfl rfl ?_
          refine ih (i + 1) (m + 1) _ _ (by omega) (by omega) (by omega) (hC.frame (fun c a b => u2_row _ _ (by omega)) rfl) (fun j hj => ?_) (fun I' f' r' => kk I' (fun c hc => by rw [f' c hc, u2_row _ _ hc]) r')
          by_cases e : j = m
          · subst e; rw [u2_at, if_pos rfl]
          · rw [u2_nk _ _ e, if_neg e]; exact hf j (by omega)
theorem c9_firstClosed (hG : GK K) (hC : RC I J 62 n S) : Cw l G (d + 2) m9_firstClosed [.ref 0] (I, J, K) (fun r h' => r = some (.int (nI (fcF S n 0 0 (fun _ => 0)).1)) ∧ ∃ I', h' = (I', J, K) ∧ (∀ c, c ≠ 100 → I' c = I c) ∧ ∀ j, j < (fcF S n 0 0 (fun _ => 0)).1 → I' 100 j = nI ((fcF S n 0 0 (fun _ => 0)).2 j)) := by
  refine Cw.of ok9_firstClosed rfl (rfl : argL _ _ = [.ref 0, .null, .null]) ?_
  refine e_iconst (v := nI 0) rfl ic_0N ?_
  refine e_ist1 rfl rfl rfl ?_
  refine e_iconst (v := nI 0) rfl ic_0N ?_
  refine e_ist2 rfl rfl rfl ?_
  exact first_loop hG hC.2.1 n 0 0 _ I (by omega) (by omega) (by omega) hC (fun j hj => absurd hj (by omega)) (fun I' f r => ⟨rfl, I', rfl, f, r⟩)
theorem gir_loop (hG : GK K) (hW : wfP P) (hn : P.1 1 = n) {g : Nat → Nat} (hm : m ≤ 4) (hg : ∀ j, j < m → g j < n) : ∀ k i I J S D, i + k = 20 → RP I 33 P → (∀ j, j < m → I 100 j = nI (g j)) → S 8 0 = nI D → D + k < 2 ^ 31 → RC I J 70 n S → I 60 2 = bI false → I 60 3 = nI 0 → (∀ I' J', FQ I J I' J' → I' 60 = I 60 → I' 100 = I 100 → I' 101 = I 101 → I' 70 10 = rnS (dayO P n m g) i k S 10 0 → ∀ v, Gw l G (d + 6) m9_gainedInRow 77 [.ref 0, .int (nI m), v] [] (I', J', K) Q) → Gw l G (d + 6) m9_gainedInRow 13 [.ref 0, .int (nI m), .int (nI i)] [] (I, J, K) Q := by
  have hG2 := hG
  obtain ⟨⟨k9, t0, t2, t3, t4, t5, t6, t7, t9, t10, t11, t12⟩, ⟨-, -, -, -, a100, a101⟩, -, -, hP, hD, hS6, hS, -⟩ := hG2
  have h0 := hD.1
  have d0 := hD.2.1
  have h3 := hP.1
  have h6 := hS.1
  intro k
  induction k with
  | zero =>
    intro i I J S D hi hR hr eD hDk hC d2 d3 kk
    obtain rfl : i = 20 := by omega
    refine e_iload_n rfl rfl ?_
    refine e_bipush (v := nI 20) rfl bp_20N ?_
    first | refine e_icmp_geN (tgt := 77) rfl rfl (by omega) (by omega) (fun z => ?_) (fun z => ?_) | refine e_icmp_ge (tgt := 77) rfl rfl (fun z => ?_) (fun z => ?_)
    · exact kk I J FQ.rf rfl rfl rfl hC.2.2.2.2.2.1.2.2.1 _
    · omega
  | succ k ih =>
    intro i I J S D hi hR hr eD hDk hC d2 d3 kk
    have e8 : I 70 8 = S 8 0 := hC.2.2.2.2.2.1.1
    have o9 : I 33 9 = P.2 20 4 := hR.2.2.2.2.2.2.2.2.2.2.2.2.2.2.2.2
    have tail : ∀ I1 J1 S1, FQ I J I1 J1 → I1 60 = I 60 → I1 100 = I 100 → I1 101 = I 101 → RC I1 J1 70 n S1 → S1 = (if i < m then unsA P S (g i) else S) → Gw l G (d + 6) m9_gainedInRow 60 [.ref 0, .int (nI m), .int (nI i)] [] (I1, J1, K) Q := by
      intro I1 J1 S1 q1 e1 e100 e101 C1 eS
      have d2' : I1 60 2 = bI false := by rw [e1]; exact d2
      have d3' : I1 60 3 = nI 0 := by rw [e1]; exact d3
      refine e_aload_n rfl rfl ?_
      refine e_getP rfl f9_34 (by assumption) rfl (by assumption) ?_
      refine e_aload_n rfl rfl ?_
      refine e_getP rfl f9_45 (by assumption) rfl (by assumption) ?_
      refine e_callV (kd := 0) (M2 := m0_pass) rfl v9_212 ok0_pass (c0_pass hG.hd70 (q1.rp hR) hW C1 hn d2' d3' rfl) rfl (by assumption) rfl rfl rfl rfl (fun r1 h1 q1 => ?_)
      obtain ⟨rfl, I2, J2, rfl, f2, C2⟩ := q1
      first | refine e_inc2 rfl rfl rfl (incN1 _) ?_ | refine e_inc2 rfl rfl rfl rfl ?_
      refine e_goto (tgt := 13) rfl rfl ?_
      rw [pa_sp (sp' := nI 0) (by decide)] at C2
      have e60 := f2.c60 (by omega)
      have e2 : I2 100 = I1 100 := f2.1 100 (by omega) (by omega)
      have e3 : I2 101 = I1 101 := f2.1 101 (by omega) (by omega)
      have C2' : RC I2 J2 70 n (dayO P n m g i S) := by unfold dayO; rw [← eS]; exact C2
      refine ih (i + 1) I2 J2 _ (D + 1) (by omega) ((q1.tr f2.fq).rp hR) (by rw [e2, e100]; exact hr) (by rw [dayO8, eD, nI_add]) (by omega) C2' (by rw [e60, e1]; exact d2) (by rw [e60, e1]; exact d3) (fun I3 J3 f3 e4 e5 e6 e => ?_)
      exact kk I3 J3 ((q1.tr f2.fq).tr f3) (by rw [e4, e60, e1]) (by rw [e5, e2, e100]) (by rw [e6, e3, e101]) e
    refine e_iload_n rfl rfl ?_
    refine e_bipush (v := nI 20) rfl bp_20N ?_
    first | refine e_icmp_geN (tgt := 77) rfl rfl (by omega) (by omega) (fun z => ?_) (fun z => ?_) | refine e_icmp_ge (tgt := 77) rfl rfl (fun z => ?_) (fun z => ?_)
    · omega
    · refine e_aload_n rfl rfl ?_
      refine e_getP rfl f9_34 (by assumption) rfl (by assumption) ?_
      refine e_aload_n rfl rfl ?_
      refine e_getP rfl f9_45 (by assumption) rfl (by assumption) ?_
      refine e_callVp (kd := 0) (M2 := m0_mayBringGlory) rfl v9_252 ok0_mayBringGlory (c0_mayBringGlory h0 d0 h3 h6) rfl (by assumption) rfl rfl rfl rfl ?_
      first | refine e_if_eqB (tgt := 77) rfl rfl (fun z => ?_) (fun z => ?_) | refine e_if_eqN (tgt := 77) rfl rfl (by omega) (fun z => ?_) (fun z => ?_) | refine e_if_eq (tgt := 77) rfl rfl (fun z => ?_) (fun z => ?_)
      · rw [e8, o9] at z
        have z0 := Int32.not_le.mp (of_decide_eq_false z)
        refine kk I J FQ.rf rfl rfl rfl ?_ _
        rw [rn_late (L := P.2 20 4) (fun _ _ => dayO8) (fun _ _ h => dayO10 hW h) (k + 1) i S D eD hDk z0]
        exact hC.2.2.2.2.2.1.2.2.1
      · refine e_iload_n rfl rfl ?_
        refine e_iload_n rfl rfl ?_
        first | refine e_icmp_geN (tgt := 60) rfl rfl (by omega) (by omega) (fun z => ?_) (fun z => ?_) | refine e_icmp_ge (tgt := 60) rfl rfl (fun z => ?_) (fun z => ?_)
        · have y : m ≤ i := by assumption
          exact tail I J S FQ.rf rfl rfl rfl hC (by rw [if_neg (by omega)])
        · have y : i < m := by assumption
          refine e_iload_n rfl rfl ?_
          refine e_iconst (v := nI 4) rfl ic_4N ?_
          first | refine e_icmp_geN (tgt := 60) rfl rfl (by omega) (by omega) (fun z => ?_) (fun z => ?_) | refine e_icmp_ge (tgt := 60) rfl rfl (fun z => ?_) (fun z => ?_)
          · omega
          · have er := hr i y
            refine e_aload_n rfl rfl ?_
            refine e_getP rfl f9_34 (by assumption) rfl (by assumption) ?_
            refine e_aload_n rfl rfl ?_
            refine e_getP rfl f9_45 (by assumption) rfl (by assumption) ?_
            refine e_aload_n rfl rfl ?_
            refine e_getP rfl f9_65 (by assumption) rfl (by assumption) ?_
            refine e_iload_n rfl rfl ?_
            first | refine e_ialoadN rfl (by assumption) (by omega) (by omega) ?_ | (refine e_iaload rfl (by assumption) ?_ ?_; rotate_left)
            rw [er]
            refine e_callV (kd := 0) (M2 := m0_unsealAnyway) rfl v9_256 ok0_unsealAnyway (c0_unsealAnyway hG.hd70 hR hW hC hn (hg i y)) rfl (by assumption) rfl rfl rfl rfl (fun r1 h1 q1 => ?_)
            obtain ⟨rfl, I1, J1, rfl, f1, C1⟩ := q1
            exact tail I1 J1 _ f1.fq (f1.c60 (by omega)) (f1.1 100 (by omega) (by omega)) (f1.1 101 (by omega) (by omega)) C1 (by rw [if_pos y]; rfl)
theorem c9_gainedInRow (hG : GK K) (hR : RP I 33 P) (hW : wfP P) (hC : RC I J 62 n S) {D : Nat} (eD : S 8 0 = nI D) (hD2 : D ≤ 20000) (hn : P.1 1 = n) {g : Nat → Nat} (hm : m ≤ 4) (hg : ∀ j, j < m → g j < n) (hr : ∀ j, j < m → I 100 j = nI (g j)) (d2 : I 60 2 = bI false) (d3 : I 60 3 = nI 0) : Cw l G (d + 6) m9_gainedInRow [.ref 0, .int (nI m)] (I, J, K) (fun r h' => r = some (.int (goF P n S m g)) ∧ ∃ I' J', h' = (I', J', K) ∧ FQ I J I' J' ∧ I' 60 = I 60 ∧ I' 100 = I 100 ∧ I' 101 = I 101) := by
  have hG2 := hG
  obtain ⟨⟨k9, t0, t2, t3, t4, t5, t6, t7, t9, t10, t11, t12⟩, -, -, -, hP, hD, hS, hS7, -⟩ := hG2
  have h6 := hS.1
  have h67 := hS7.1
  refine Cw.of ok9_gainedInRow rfl (rfl : argL _ _ = [.ref 0, .int (nI m), .null]) ?_
  refine e_aload_n rfl rfl ?_
  refine e_getP rfl f9_45 (by assumption) rfl (by assumption) ?_
  refine e_aload_n rfl rfl ?_
  refine e_getP rfl f9_41 (by assumption) rfl (by assumption) ?_
  refine e_callV (kd := 6) (M2 := m6_take) rfl v9_219 ok6_take (c6_take hS7 hS (by omega)) rfl (by assumption) rfl rfl rfl rfl (fun r1 h1 q1 => ?_)
  obtain ⟨rfl, I1, J1, rfl, tk⟩ := q1
  refine e_iconst (v := nI 0) rfl ic_0N ?_
  refine e_ist2 rfl rfl rfl ?_
  have q1 : FQ I J I1 J1 := FQ.took tk
  have C1 : RC I1 J1 70 n S := took_rc tk hC
  refine gir_loop hG hW hn hm hg 20 0 _ _ S D (by omega) (q1.rp hR) (by rw [tk.1 100 (by omega)]; exact hr) eD (by omega) C1 (by rw [tk.1 60 (by omega)]; exact d2) (by rw [tk.1 60 (by omega)]; exact d3) (fun I2 J2 f2 e60 e100 e101 e v => ?_)
  have q2 := q1.tr f2
  refine e_aload_n rfl rfl ?_
  refine e_getP rfl f9_45 (by assumption) rfl (by assumption) ?_
  refine e_getI rfl f9_221 (by assumption) rfl ?_
  refine e_aload_n rfl rfl ?_
  refine e_getP rfl f9_41 (by assumption) rfl (by assumption) ?_
  refine e_getI rfl f9_221 (by assumption) rfl ?_
  rw [e, (q2.now hC).2.2.2.2.2.1.2.2.1]
  refine e_isub rfl ?_
  exact e_ireturn rfl rfl ⟨rfl, I2, J2, rfl, q2, by rw [e60, tk.1 60 (by omega)], by rw [e100, tk.1 100 (by omega)], by rw [e101, tk.1 101 (by omega)]⟩
theorem c9_swapInRow (hG : GK K) {g : Nat → Nat} {a b : Nat} (hm : m ≤ 4) (ha : a < m) (hb : b < m) (hr : ∀ j, j < m → I 100 j = nI (g j)) : Cw l G d m9_swapInRow [.ref 0, .int (nI a), .int (nI b)] (I, J, K) (fun r h' => r = none ∧ ∃ I', h' = (I', J, K) ∧ (∀ c, c ≠ 100 → I' c = I c) ∧ ∀ j, j < m → I' 100 j = nI (swp g a b j)) := by
  have hG2 := hG
  obtain ⟨⟨k9, t0, t2, t3, t4, t5, t6, t7, t9, t10, t11, t12⟩, ⟨-, -, -, -, a100, a101⟩, -⟩ := hG2
  refine Cw.of ok9_swapInRow rfl (rfl : argL _ _ = [.ref 0, .int (nI a), .int (nI b), .null]) ?_
  refine e_aload_n rfl rfl ?_
  refine e_getP rfl f9_65 (by assumption) rfl (by assumption) ?_
  refine e_iload_n rfl rfl ?_
  first | refine e_ialoadN rfl (by assumption) (by omega) (by omega) ?_ | (refine e_iaload rfl (by assumption) ?_ ?_; rotate_left)
  refine e_ist3 rfl rfl rfl ?_
  refine e_aload_n rfl rfl ?_
  refine e_getP rfl f9_65 (by assumption) rfl (by assumption) ?_
  refine e_iload_n rfl rfl ?_
  refine e_aload_n rfl rfl ?_
  refine e_getP rfl f9_65 (by assumption) rfl (by assumption) ?_
  refine e_iload_n rfl rfl ?_
  first | refine e_ialoadN rfl (by assumption) (by omega) (by omega) ?_ | (refine e_iaload rfl (by assumption) ?_ ?_; rotate_left)
  first | refine e_iastoreN rfl (by assumption) (by omega) (by omega) ?_ | (refine e_iastore rfl (by assumption) ?_ ?_; rotate_left)
  refine e_aload_n rfl rfl ?_
  refine e_getP rfl f9_65 (by assumption) rfl (by assumption) ?_
  refine e_iload_n rfl rfl ?_
  refine e_iload_n rfl rfl ?_
  first | refine e_iastoreN rfl (by assumption) (by omega) (by omega) ?_ | (refine e_iastore rfl (by assumption) ?_ ?_; rotate_left)
  refine e_return rfl rfl ?_
  refine ⟨rfl, _, rfl, fun c hc => by rw [u2_row _ _ hc, u2_row _ _ hc], fun j hj => ?_⟩
  unfold swp
  by_cases e1 : j = b
  · subst e1
    rw [u2_at, if_pos rfl, hr a ha]
  · rw [u2_nk _ _ e1, if_neg e1]
    by_cases e2 : j = a
    · subst e2
      rw [u2_at, if_pos rfl, hr b hb]
    · rw [u2_nk _ _ e2, if_neg e2, hr j hj]
end MOrd
