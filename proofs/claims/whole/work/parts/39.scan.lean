/-! ===== Scanner ===== -/
/-- a byte of a TEXT, as the class has it -/
def sg (t : Nat) : Int32 := if t < 128 then nI t else nI t - nI 256
theorem sg_neg : ∀ t, t < 256 → 128 ≤ t → sg t < 0 := by decide +kernel
theorem sg_eq {t c : Nat} (ht : t < 256) (hc : c < 128) : sg t = nI c ↔ t = c := by
  by_cases h : t < 128
  · rw [sg, if_pos h]; exact nI_eq (by omega) (by omega)
  · constructor
    · intro q
      have := sg_neg t ht (by omega)
      rw [q] at this
      exact absurd this (nI_pos (by omega))
    · intro q; omega
theorem sg_lt {t c : Nat} (ht : t < 256) (hc : c < 128) (h : ¬ sg t < nI c) : c ≤ t ∧ t < 128 := by
  by_cases h8 : t < 128
  · rw [sg, if_pos h8] at h
    exact ⟨Nat.not_lt.mp (fun q => h ((nI_ltI (by omega) (by omega)).mpr q)), h8⟩
  · exact absurd (Int32.lt_of_lt_of_le (sg_neg t ht (by omega)) (nI_pos' (by omega))) h
theorem sg_lt' {t c : Nat} (ht : t < 256) (hc : c < 128) (h : sg t < nI c) : t < c ∨ 128 ≤ t := by
  by_cases h8 : t < 128
  · rw [sg, if_pos h8] at h
    exact Or.inl ((nI_ltI (by omega) (by omega)).mp h)
  · exact Or.inr (by omega)
theorem sg_sm {t : Nat} (h : t < 128) : sg t = nI t := if_pos h
def isL (t : Nat) : Bool := decide (97 ≤ t ∧ t ≤ 122)
def isD (t : Nat) : Bool := decide (48 ≤ t ∧ t ≤ 57)
def isB (t : Nat) : Bool := decide (t = 10 ∨ t = 32)
/-- on from i while it is so -/
def enF (b : Nat → Bool) (f : Nat → Nat) : Nat → Nat → Nat
  | 0, i => i
  | k + 1, i => if b (f i) = true then enF b f k (i + 1) else i
theorem enF_in {b : Nat → Bool} {f : Nat → Nat} : ∀ k i, i ≤ enF b f k i ∧ enF b f k i ≤ i + k
  | 0, i => ⟨Nat.le_refl i, Nat.le_refl i⟩
  | k + 1, i => by
    rw [enF]
    split
    · have := enF_in (b := b) (f := f) k (i + 1); omega
    · omega
def wdL : List Nat := [378998784, 680984576, 520271872, 773279744, 375180288, 626642944, 642945024, 404455424, 220384512, 247974688, 80206848, 139940448, 374522464, 777297172, 653965440, 788091136, 408113152, 136085504, 486146048, 48365568, 522190848]
def wd (k : Nat) : Nat := wdL.getD k 0
/-- letters of a word, six at most, five bits each -/
def pkV (f : Nat → Nat) (p : Nat) : Nat → Nat
  | 0 => 0
  | l + 1 => pkV f p l + (f (p + l) - 96) * 2 ^ (25 - 5 * l)
/-- the word it is, or a NAME -/
def wdT (v : Nat) : Nat → Nat → Int32
  | 0, _ => nI 22
  | k + 1, i => if wd i = v then nI (i + 1) else wdT v k (i + 1)
def nmF (f : Nat → Nat) : Nat → Nat → Nat → Nat
  | 0, _, v => v
  | k + 1, i, v => if isD (f i) = true then nmF f k (i + 1) (min 1000000 (v * 10 + (f i - 48))) else v
def sgL : List Nat := [40, 41, 42, 43, 45, 47, 59, 60, 61, 62]
def sgT (c nx : Nat) : Int32 := if c = 60 ∧ nx = 61 then nI 256 else if c = 62 ∧ nx = 61 then nI 257 else if c = 60 ∧ nx = 62 then nI 258 else if sgL.contains c = true then nI c else -1
/-- the next token: where it ends, what it is, its value, its place -/
def tokA (f : Nat → Nat) (n p : Nat) (va : Int32) : Nat × Int32 × Int32 × Nat :=
  if n ≤ p then (p, nI 0, va, p)
  else if isL (f p) = true then (enF isL f (n - p) p, if 6 < enF isL f (n - p) p - p then -1 else wdT (pkV f p (min 6 (enF isL f (n - p) p - p))) 21 0, nI (pkV f p (min 6 (enF isL f (n - p) p - p))), p)
  else if isD (f p) = true then (enF isD f (n - p) p, nI 23, nI (nmF f (n - p) p 0), p)
  else (if nI 256 ≤ sgT (f p) (if p + 1 < n then f (p + 1) else 0) then p + 2 else p + 1, sgT (f p) (if p + 1 < n then f (p + 1) else 0), va, p)
def advA (f : Nat → Nat) (n at_ : Nat) (va : Int32) : Nat × Int32 × Int32 × Nat := tokA f n (enF isB f (n - at_) at_) va
/-- the scanner's cells -/
def SK (K : Kt) : Prop := (K.2.1 30).1 = 5 ∧ K.1 30 0 = some 31 ∧ K.2.1 31 = (20, 21) ∧ K.1 30 1 = some 1 ∧ K.2.1 1 = (21, 700)
def SC (I : IM) (f : Nat → Nat) (n at_ : Nat) (tk va : Int32) (pl : Nat) : Prop := (∀ j, j < n → I 1 j = sg (f j)) ∧ I 30 2 = nI n ∧ I 30 3 = nI at_ ∧ I 30 4 = tk ∧ I 30 5 = nI pl ∧ I 30 6 = va ∧ n ≤ 700 ∧ at_ ≤ n ∧ (∀ j, f j < 256) ∧ ∀ k, k < 21 → I 31 k = nI (wd k)
theorem SC.up3 {I : IM} {f : Nat → Nat} {n a pl : Nat} {tk va : Int32} (h : SC I f n a tk va pl) {a' : Nat} (ha : a' ≤ n) : SC (u2 I 30 3 (nI a')) f n a' tk va pl := by
  obtain ⟨h1, h2, h3, h4, h5, h6, h7, h8, h9, h10⟩ := h
  exact ⟨fun j hj => by rw [u2_ne _ _ (by omega)]; exact h1 j hj, by rw [u2_nk _ _ (by omega)]; exact h2, by rw [u2_at], by rw [u2_nk _ _ (by omega)]; exact h4, by rw [u2_nk _ _ (by omega)]; exact h5, by rw [u2_nk _ _ (by omega)]; exact h6, h7, ha, h9, fun k hk => by rw [u2_ne _ _ (by omega)]; exact h10 k hk⟩
theorem SC.up4 {I : IM} {f : Nat → Nat} {n a pl : Nat} {tk va : Int32} (h : SC I f n a tk va pl) (tk' : Int32) : SC (u2 I 30 4 tk') f n a tk' va pl := by
  obtain ⟨h1, h2, h3, h4, h5, h6, h7, h8, h9, h10⟩ := h
  exact ⟨fun j hj => by rw [u2_ne _ _ (by omega)]; exact h1 j hj, by rw [u2_nk _ _ (by omega)]; exact h2, by rw [u2_nk _ _ (by omega)]; exact h3, by rw [u2_at], by rw [u2_nk _ _ (by omega)]; exact h5, by rw [u2_nk _ _ (by omega)]; exact h6, h7, h8, h9, fun k hk => by rw [u2_ne _ _ (by omega)]; exact h10 k hk⟩
theorem SC.up5 {I : IM} {f : Nat → Nat} {n a pl : Nat} {tk va : Int32} (h : SC I f n a tk va pl) (pl' : Nat) : SC (u2 I 30 5 (nI pl')) f n a tk va pl' := by
  obtain ⟨h1, h2, h3, h4, h5, h6, h7, h8, h9, h10⟩ := h
  exact ⟨fun j hj => by rw [u2_ne _ _ (by omega)]; exact h1 j hj, by rw [u2_nk _ _ (by omega)]; exact h2, by rw [u2_nk _ _ (by omega)]; exact h3, by rw [u2_nk _ _ (by omega)]; exact h4, by rw [u2_at], by rw [u2_nk _ _ (by omega)]; exact h6, h7, h8, h9, fun k hk => by rw [u2_ne _ _ (by omega)]; exact h10 k hk⟩
theorem SC.up6 {I : IM} {f : Nat → Nat} {n a pl : Nat} {tk va : Int32} (h : SC I f n a tk va pl) (va' : Int32) : SC (u2 I 30 6 va') f n a tk va' pl := by
  obtain ⟨h1, h2, h3, h4, h5, h6, h7, h8, h9, h10⟩ := h
  exact ⟨fun j hj => by rw [u2_ne _ _ (by omega)]; exact h1 j hj, by rw [u2_nk _ _ (by omega)]; exact h2, by rw [u2_nk _ _ (by omega)]; exact h3, by rw [u2_nk _ _ (by omega)]; exact h4, by rw [u2_nk _ _ (by omega)]; exact h5, by rw [u2_at], h7, h8, h9, fun k hk => by rw [u2_ne _ _ (by omega)]; exact h10 k hk⟩
theorem nI_or (a b : Nat) : nI a ||| nI b = nI (a ||| b) := by
  rw [← Int32.toBitVec_inj, Int32.toBitVec_or]
  show BitVec.ofNat 32 a ||| BitVec.ofNat 32 b = BitVec.ofNat 32 (a ||| b)
  rw [BitVec.ofNat_or]
theorem pk_or {v x l : Nat} (hv : 2 ^ (30 - 5 * l) ∣ v) (hx : x < 32) (hl : l < 6) : nI v ||| nI (x * 2 ^ (25 - 5 * l)) = nI (v + x * 2 ^ (25 - 5 * l)) := by
  rw [nI_or]
  obtain ⟨q, rfl⟩ := hv
  congr 1
  rw [Nat.two_pow_add_eq_or_of_lt]
  have e : (2 : Nat) ^ (30 - 5 * l) = 32 * 2 ^ (25 - 5 * l) := by
    rw [show 30 - 5 * l = 5 + (25 - 5 * l) by omega, Nat.pow_add]
  rw [e]
  exact Nat.mul_lt_mul_of_pos_right hx (Nat.pow_pos (by omega))
theorem pkV_dvd {f : Nat → Nat} {p : Nat} : ∀ l, l ≤ 6 → 2 ^ (30 - 5 * l) ∣ pkV f p l
  | 0, _ => Nat.dvd_zero _
  | l + 1, h => by
    rw [pkV]
    refine Nat.dvd_add ?_ ?_
    · exact Nat.dvd_trans (Nat.pow_dvd_pow 2 (by omega)) (pkV_dvd l (by omega))
    · rw [show 30 - 5 * (l + 1) = 25 - 5 * l by omega]
      exact Nat.dvd_mul_left _ _
theorem wd_lt : ∀ k, k < 21 → wd k < 2 ^ 31 := by decide
theorem enF_all {b : Nat → Bool} {f : Nat → Nat} : ∀ k i j, i ≤ j → j < enF b f k i → b (f j) = true
  | 0, i, j, h1, h2 => absurd h2 (by rw [enF]; omega)
  | k + 1, i, j, h1, h2 => by
    rw [enF] at h2
    by_cases c : b (f i) = true
    · rw [if_pos c] at h2
      by_cases e : j = i
      · rw [e]; exact c
      · exact enF_all k (i + 1) j (by omega) h2
    · rw [if_neg c] at h2; omega
theorem pkV_lt {f : Nat → Nat} {p : Nat} : ∀ q, q ≤ 6 → (∀ j, j < q → f (p + j) - 96 < 32) → pkV f p q + 2 ^ (30 - 5 * q) ≤ 2 ^ 30
  | 0, _, _ => by rw [pkV]; decide
  | q + 1, hq, h => by
    have h1 := pkV_lt q (by omega) (fun j hj => h j (by omega))
    have h2 := h q (by omega)
    have e : (2 : Nat) ^ (30 - 5 * q) = 32 * 2 ^ (25 - 5 * q) := by
      rw [show 30 - 5 * q = 5 + (25 - 5 * q) by omega, Nat.pow_add]
    rw [pkV, show 30 - 5 * (q + 1) = 25 - 5 * q by omega]
    have h3 : (f (p + q) - 96) * 2 ^ (25 - 5 * q) ≤ 31 * 2 ^ (25 - 5 * q) := Nat.mul_le_mul_right _ (by omega)
    rw [e] at h1
    omega
theorem pkV_sm {f : Nat → Nat} {p k : Nat} : pkV f p (min 6 (enF isL f k p - p)) < 2 ^ 31 := by
  have h := pkV_lt (f := f) (p := p) (min 6 (enF isL f k p - p)) (Nat.min_le_left _ _) (fun j hj => by
    have h1 := enF_all (b := isL) (f := f) k p (p + j) (by omega) (by omega)
    have h2 := of_decide_eq_true h1
    omega)
  have h3 := Nat.le_trans (Nat.le_add_right _ _) h
  omega
section MScan
variable {l : Launch} {G : GG} {d : Nat} {I : IM} {J : JM} {K : Kt} {Q : Option Value → Hp → Prop} {f : Nat → Nat} {n at_ pl : Nat} {tk va : Int32}
theorem num_loop (hK : SK K) : ∀ k i v I, i + k = n → SC I f n i tk (nI v) pl → v ≤ 1000000 → (∀ I', (∀ c, c ≠ 30 → I' c = I c) → SC I' f n (enF isD f k i) tk (nI (nmF f k i v)) pl → Gw l G (d + 1) m5_takeNumber 86 [.ref 30] [] (I', J, K) Q) → Gw l G (d + 1) m5_takeNumber 5 [.ref 30] [] (I, J, K) Q := by
  obtain ⟨h5, p0, a31, p1, a1⟩ := hK
  intro k
  induction k with
  | zero =>
    intro i v I hi hS hv kk
    obtain ⟨s1, s2, s3, s4, s5, s6, s7, s8, s9, s10⟩ := hS
    refine e_aload_n rfl rfl ?_
    refine e_getI rfl f5_37 (by assumption) rfl ?_
    refine e_aload_n rfl rfl ?_
    refine e_getI rfl f5_33 (by assumption) rfl ?_
    rw [s2, s3]
    first | refine e_icmp_geN (tgt := 86) rfl rfl (by omega) (by omega) (fun z => ?_) (fun z => ?_) | refine e_icmp_ge (tgt := 86) rfl rfl (fun z => ?_) (fun z => ?_)
    · exact kk I (fun _ _ => rfl) ⟨s1, s2, s3, s4, s5, s6, s7, s8, s9, s10⟩
    · omega
  | succ k ih =>
    intro i v I hi hS hv kk
    have hS2 := hS
    obtain ⟨s1, s2, s3, s4, s5, s6, s7, s8, s9, s10⟩ := hS2
    have eb := s1 i (by omega)
    have hb := s9 i
    rw [enF, nmF] at kk
    have out : isD (f i) = false → Gw l G (d + 1) m5_takeNumber 86 [.ref 30] [] (I, J, K) Q := by
      intro hno
      rw [if_neg (by rw [hno]; decide), if_neg (by rw [hno]; decide)] at kk
      exact kk I (fun _ _ => rfl) hS
    refine e_aload_n rfl rfl ?_
    refine e_getI rfl f5_37 (by assumption) rfl ?_
    refine e_aload_n rfl rfl ?_
    refine e_getI rfl f5_33 (by assumption) rfl ?_
    rw [s2, s3]
    first | refine e_icmp_geN (tgt := 86) rfl rfl (by omega) (by omega) (fun z => ?_) (fun z => ?_) | refine e_icmp_ge (tgt := 86) rfl rfl (fun z => ?_) (fun z => ?_)
    · omega
    · refine e_aload_n rfl rfl ?_
      refine e_getP rfl f5_15 (by assumption) rfl (by assumption) ?_
      refine e_aload_n rfl rfl ?_
      refine e_getI rfl f5_37 (by assumption) rfl ?_
      rw [s3]
      first | refine e_baloadN rfl (by assumption) (by omega) (by omega) ?_ | refine e_zaloadN rfl (by assumption) (by omega) (by omega) ?_ | (refine e_baload rfl (by assumption) ?_ ?_; rotate_left) | (refine e_zaload rfl (by assumption) ?_ ?_; rotate_left)
      rw [eb]
      refine e_bipush (v := nI 48) rfl bp_48N ?_
      first | refine e_icmp_ltN (tgt := 86) rfl rfl (by omega) (by omega) (fun z => ?_) (fun z => ?_) | refine e_icmp_lt (tgt := 86) rfl rfl (fun z => ?_) (fun z => ?_)
      · have y := sg_lt' hb (by omega) z
        exact out (decide_eq_false (by omega))
      · have y1 := sg_lt hb (by omega) z
        refine e_aload_n rfl rfl ?_
        refine e_getP rfl f5_15 (by assumption) rfl (by assumption) ?_
        refine e_aload_n rfl rfl ?_
        refine e_getI rfl f5_37 (by assumption) rfl ?_
        rw [s3]
        first | refine e_baloadN rfl (by assumption) (by omega) (by omega) ?_ | refine e_zaloadN rfl (by assumption) (by omega) (by omega) ?_ | (refine e_baload rfl (by assumption) ?_ ?_; rotate_left) | (refine e_zaload rfl (by assumption) ?_ ?_; rotate_left)
        rw [eb, sg_sm y1.2]
        refine e_bipush (v := nI 57) rfl bp_57N ?_
        first | refine e_icmp_gtN (tgt := 86) rfl rfl (by omega) (by omega) (fun z => ?_) (fun z => ?_) | refine e_icmp_gt (tgt := 86) rfl rfl (fun z => ?_) (fun z => ?_)
        · exact out (decide_eq_false (by omega))
        · have y2 := z
          have yes : isD (f i) = true := decide_eq_true (by omega)
          rw [if_pos yes, if_pos yes] at kk
          refine e_aload_n rfl rfl ?_
          refine e_ldc rfl k5_58 ?_
          refine e_aload_n rfl rfl ?_
          refine e_getI rfl f5_55 (by assumption) rfl ?_
          rw [s6]
          refine e_bipush (v := nI 10) rfl bp_10N ?_
          first | refine e_imulN rfl ?_ | refine e_imul rfl ?_
          refine e_aload_n rfl rfl ?_
          refine e_getP rfl f5_15 (by assumption) rfl (by assumption) ?_
          refine e_aload_n rfl rfl ?_
          refine e_getI rfl f5_37 (by assumption) rfl ?_
          rw [s3]
          first | refine e_baloadN rfl (by assumption) (by omega) (by omega) ?_ | refine e_zaloadN rfl (by assumption) (by omega) (by omega) ?_ | (refine e_baload rfl (by assumption) ?_ ?_; rotate_left) | (refine e_zaload rfl (by assumption) ?_ ?_; rotate_left)
          rw [eb, sg_sm y1.2]
          first | refine e_iaddN rfl ?_ | refine e_iadd rfl ?_
          refine e_bipush (v := nI 48) rfl bp_48N ?_
          first | refine e_isubN rfl (by omega) ?_ | refine e_isub rfl ?_
          refine e_min rfl v5_27 rfl ?_
          have em : (if nI (v * 10 + f i - 48) < (1000000 : Int32) then nI (v * 10 + f i - 48) else (1000000 : Int32)) = nI (min 1000000 (v * 10 + (f i - 48))) := by
            rw [show (1000000 : Int32) = nI 1000000 by decide, show v * 10 + f i - 48 = v * 10 + (f i - 48) by omega]
            by_cases c : v * 10 + (f i - 48) < 1000000
            · rw [if_pos ((nI_ltI (by omega) (by omega)).mpr c), Nat.min_eq_right (by omega)]
            · rw [if_neg (fun q => c ((nI_ltI (by omega) (by omega)).mp q)), Nat.min_eq_left (by omega)]
          rw [em]
          refine e_putI rfl f5_55 (by assumption) rfl rfl ?_
          refine e_aload_n rfl rfl ?_
          refine e_dup rfl rfl ?_
          refine e_getI rfl f5_37 (by assumption) rfl ?_
          rw [u2_nk _ _ (by omega), s3]
          refine e_iconst (v := nI 1) rfl ic_1N ?_
          first | refine e_iaddN rfl ?_ | refine e_iadd rfl ?_
          refine e_putI rfl f5_37 (by assumption) rfl rfl ?_
          refine e_goto (tgt := 5) rfl rfl ?_
          refine ih (i + 1) _ _ (by omega) ((hS.up6 _).up3 (by omega)) (by omega) (fun I' f' S' => kk I' (fun c hc => by rw [f' c hc, u2_row _ _ hc, u2_row _ _ hc]) S')
theorem c5_takeNumber (hK : SK K) (hS : SC I f n at_ tk va pl) : Cw l G (d + 1) m5_takeNumber [.ref 30] (I, J, K) (fun r h' => r = none ∧ ∃ I', h' = (I', J, K) ∧ (∀ c, c ≠ 30 → I' c = I c) ∧ SC I' f n (enF isD f (n - at_) at_) (nI 23) (nI (nmF f (n - at_) at_ 0)) pl) := by
  have h5 := hK.1
  have hle := hS.2.2.2.2.2.2.2.1
  refine Cw.of ok5_takeNumber rfl (rfl : argL _ _ = [.ref 30]) ?_
  refine e_aload_n rfl rfl ?_
  refine e_iconst (v := nI 0) rfl ic_0N ?_
  refine e_putI rfl f5_55 (by assumption) rfl rfl ?_
  refine num_loop hK (n - at_) at_ 0 _ (by omega) (hS.up6 _) (by omega) (fun I' f' S' => ?_)
  refine e_aload_n rfl rfl ?_
  refine e_bipush (v := nI 23) rfl bp_23N ?_
  refine e_putI rfl f5_40 (by assumption) rfl rfl ?_
  refine e_return rfl rfl ?_
  exact ⟨rfl, _, rfl, fun c hc => by rw [u2_row _ _ hc, f' c hc, u2_row _ _ hc], S'.up4 _⟩
theorem word_in (hK : SK K) {p : Nat} : ∀ k i lt I, i + k = n → lt = i - p → p ≤ i → SC I f n i tk (nI (pkV f p (min 6 lt))) pl → (∀ I' lt', (∀ c, c ≠ 30 → I' c = I c) → lt' = enF isL f k i - p → SC I' f n (enF isL f k i) tk (nI (pkV f p (min 6 lt'))) pl → ∀ v, Gw l G d m5_takeWord 98 [.ref 30, .int (nI lt'), v] [] (I', J, K) Q) → ∀ v, Gw l G d m5_takeWord 7 [.ref 30, .int (nI lt), v] [] (I, J, K) Q := by
  obtain ⟨h5, p0, a31, p1, a1⟩ := hK
  intro k
  induction k with
  | zero =>
    intro i lt I hi hlt hpi hS kk v
    have hS2 := hS
    obtain ⟨s1, s2, s3, s4, s5, s6, s7, s8, s9, s10⟩ := hS2
    refine e_aload_n rfl rfl ?_
    refine e_getI rfl f5_37 (by assumption) rfl ?_
    refine e_aload_n rfl rfl ?_
    refine e_getI rfl f5_33 (by assumption) rfl ?_
    rw [s2, s3]
    first | refine e_icmp_geN (tgt := 98) rfl rfl (by omega) (by omega) (fun z => ?_) (fun z => ?_) | refine e_icmp_ge (tgt := 98) rfl rfl (fun z => ?_) (fun z => ?_)
    · exact kk I lt (fun _ _ => rfl) hlt hS _
    · omega
  | succ k ih =>
    intro i lt I hi hlt hpi hS kk v
    have hS2 := hS
    obtain ⟨s1, s2, s3, s4, s5, s6, s7, s8, s9, s10⟩ := hS2
    have eb := s1 i (by omega)
    have hb := s9 i
    rw [enF] at kk
    have out : isL (f i) = false → ∀ v, Gw l G d m5_takeWord 98 [.ref 30, .int (nI lt), v] [] (I, J, K) Q := by
      intro hno v
      rw [if_neg (by rw [hno]; decide)] at kk
      exact kk I lt (fun _ _ => rfl) hlt hS v
    refine e_aload_n rfl rfl ?_
    refine e_getI rfl f5_37 (by assumption) rfl ?_
    refine e_aload_n rfl rfl ?_
    refine e_getI rfl f5_33 (by assumption) rfl ?_
    rw [s2, s3]
    first | refine e_icmp_geN (tgt := 98) rfl rfl (by omega) (by omega) (fun z => ?_) (fun z => ?_) | refine e_icmp_ge (tgt := 98) rfl rfl (fun z => ?_) (fun z => ?_)
    · omega
    · refine e_aload_n rfl rfl ?_
      refine e_getP rfl f5_15 (by assumption) rfl (by assumption) ?_
      refine e_aload_n rfl rfl ?_
      refine e_getI rfl f5_37 (by assumption) rfl ?_
      rw [s3]
      first | refine e_baloadN rfl (by assumption) (by omega) (by omega) ?_ | refine e_zaloadN rfl (by assumption) (by omega) (by omega) ?_ | (refine e_baload rfl (by assumption) ?_ ?_; rotate_left) | (refine e_zaload rfl (by assumption) ?_ ?_; rotate_left)
      rw [eb]
      refine e_bipush (v := nI 97) rfl bp_97N ?_
      first | refine e_icmp_ltN (tgt := 98) rfl rfl (by omega) (by omega) (fun z => ?_) (fun z => ?_) | refine e_icmp_lt (tgt := 98) rfl rfl (fun z => ?_) (fun z => ?_)
      · have y := sg_lt' hb (by omega) z
        exact out (decide_eq_false (by omega)) _
      · have y1 := sg_lt hb (by omega) z
        refine e_aload_n rfl rfl ?_
        refine e_getP rfl f5_15 (by assumption) rfl (by assumption) ?_
        refine e_aload_n rfl rfl ?_
        refine e_getI rfl f5_37 (by assumption) rfl ?_
        rw [s3]
        first | refine e_baloadN rfl (by assumption) (by omega) (by omega) ?_ | refine e_zaloadN rfl (by assumption) (by omega) (by omega) ?_ | (refine e_baload rfl (by assumption) ?_ ?_; rotate_left) | (refine e_zaload rfl (by assumption) ?_ ?_; rotate_left)
        rw [eb, sg_sm y1.2]
        refine e_bipush (v := nI 122) rfl bp_122N ?_
        first | refine e_icmp_gtN (tgt := 98) rfl rfl (by omega) (by omega) (fun z => ?_) (fun z => ?_) | refine e_icmp_gt (tgt := 98) rfl rfl (fun z => ?_) (fun z => ?_)
        · exact out (decide_eq_false (by omega)) _
        · have y2 := z
          have yes : isL (f i) = true := decide_eq_true (by omega)
          rw [if_pos yes] at kk
          refine e_iload_n rfl rfl ?_
          refine e_bipush (v := nI 6) rfl bp_6N ?_
          first | refine e_icmp_geN (tgt := 82) rfl rfl (by omega) (by omega) (fun z => ?_) (fun z => ?_) | refine e_icmp_ge (tgt := 82) rfl rfl (fun z => ?_) (fun z => ?_)
          · have y3 := z
            rw [Nat.min_eq_left (by omega)] at hS
            first | refine e_inc1 rfl rfl rfl (incN1 _) ?_ | refine e_inc1 rfl rfl rfl rfl ?_
            refine e_aload_n rfl rfl ?_
            refine e_dup rfl rfl ?_
            refine e_getI rfl f5_37 (by assumption) rfl ?_
            rw [s3]
            refine e_iconst (v := nI 1) rfl ic_1N ?_
            first | refine e_iaddN rfl ?_ | refine e_iadd rfl ?_
            refine e_putI rfl f5_37 (by assumption) rfl rfl ?_
            refine e_goto (tgt := 7) rfl rfl ?_
            refine ih (i + 1) (lt + 1) _ (by omega) (by omega) (by omega) (by rw [Nat.min_eq_left (by omega)]; exact hS.up3 (by omega)) (fun I' lt' f' e' S' => kk I' lt' (fun c hc => by rw [f' c hc, u2_row _ _ hc]) e' S') _
          · have y3 := z
            rw [Nat.min_eq_right (by omega)] at hS s6
            refine e_aload_n rfl rfl ?_
            refine e_dup rfl rfl ?_
            refine e_getI rfl f5_55 (by assumption) rfl ?_
            rw [s6]
            refine e_aload_n rfl rfl ?_
            refine e_getP rfl f5_15 (by assumption) rfl (by assumption) ?_
            refine e_aload_n rfl rfl ?_
            refine e_getI rfl f5_37 (by assumption) rfl ?_
            rw [s3]
            first | refine e_baloadN rfl (by assumption) (by omega) (by omega) ?_ | refine e_zaloadN rfl (by assumption) (by omega) (by omega) ?_ | (refine e_baload rfl (by assumption) ?_ ?_; rotate_left) | (refine e_zaload rfl (by assumption) ?_ ?_; rotate_left)
            rw [eb, sg_sm y1.2]
            refine e_bipush (v := nI 97) rfl bp_97N ?_
            first | refine e_isubN rfl (by omega) ?_ | refine e_isub rfl ?_
            refine e_iconst (v := nI 1) rfl ic_1N ?_
            first | refine e_iaddN rfl ?_ | refine e_iadd rfl ?_
            refine e_bipush (v := nI 25) rfl bp_25N ?_
            refine e_iconst (v := nI 5) rfl ic_5N ?_
            refine e_iload_n rfl rfl ?_
            first | refine e_imulN rfl ?_ | refine e_imul rfl ?_
            first | refine e_isubN rfl (by omega) ?_ | refine e_isub rfl ?_
            refine e_ishl rfl ?_
            have esh : nI (f i - 97 + 1) <<< (nI (25 - 5 * lt) &&& 31) = nI ((f (p + lt) - 96) * 2 ^ (25 - 5 * lt)) := by
              rw [show f i - 97 + 1 = f (p + lt) - 96 by rw [show p + lt = i by omega]; omega]
              refine pk_shlN _ (25 - 5 * lt) (sh_l _ (by omega)) ?_
              have b1 : f (p + lt) - 96 < 32 := by rw [show p + lt = i by omega]; omega
              have b2 : (2 : Nat) ^ (25 - 5 * lt) ≤ 2 ^ 25 := Nat.pow_le_pow_right (by omega) (by omega)
              have b3 : (f (p + lt) - 96) * 2 ^ (25 - 5 * lt) ≤ 32 * 2 ^ 25 := Nat.mul_le_mul (by omega) b2
              have b4 : (32 : Nat) * 2 ^ 25 < 2 ^ 32 := by decide
              omega
            rw [esh]
            refine e_ior rfl ?_
            rw [pk_or (pkV_dvd lt (by omega)) (by rw [show p + lt = i by omega]; omega) (by omega), show pkV f p lt + (f (p + lt) - 96) * 2 ^ (25 - 5 * lt) = pkV f p (lt + 1) from rfl]
            refine e_putI rfl f5_55 (by assumption) rfl rfl ?_
            first | refine e_inc1 rfl rfl rfl (incN1 _) ?_ | refine e_inc1 rfl rfl rfl rfl ?_
            refine e_aload_n rfl rfl ?_
            refine e_dup rfl rfl ?_
            refine e_getI rfl f5_37 (by assumption) rfl ?_
            rw [u2_nk _ _ (by omega), s3]
            refine e_iconst (v := nI 1) rfl ic_1N ?_
            first | refine e_iaddN rfl ?_ | refine e_iadd rfl ?_
            refine e_putI rfl f5_37 (by assumption) rfl rfl ?_
            refine e_goto (tgt := 7) rfl rfl ?_
            refine ih (i + 1) (lt + 1) _ (by omega) (by omega) (by omega) (by rw [Nat.min_eq_right (by omega)]; exact (hS.up6 _).up3 (by omega)) (fun I' lt' f' e' S' => kk I' lt' (fun c hc => by rw [f' c hc, u2_row _ _ hc, u2_row _ _ hc]) e' S') _
theorem word_look (hK : SK K) {v : Nat} (hv : v < 2 ^ 31) (hwd : ∀ k, k < 21 → wd k < 2 ^ 31) {lt : Int32} : ∀ k i I, i + k = 21 → SC I f n at_ (nI 22) (nI v) pl → (∀ I', (∀ c, c ≠ 30 → I' c = I c) → SC I' f n at_ (wdT v k i) (nI v) pl → Q none (I', J, K)) → Gw l G d m5_takeWord 116 [.ref 30, .int lt, .int (nI i)] [] (I, J, K) Q := by
  obtain ⟨h5, p0, a31, p1, a1⟩ := hK
  intro k
  induction k with
  | zero =>
    intro i I hi hS kk
    obtain rfl : i = 21 := by omega
    refine e_iload_n rfl rfl ?_
    refine e_bipush (v := nI 21) rfl bp_21N ?_
    first | refine e_icmp_geN (tgt := 157) rfl rfl (by omega) (by omega) (fun z => ?_) (fun z => ?_) | refine e_icmp_ge (tgt := 157) rfl rfl (fun z => ?_) (fun z => ?_)
    · refine e_return rfl rfl ?_
      exact kk I (fun _ _ => rfl) hS
    · omega
  | succ k ih =>
    intro i I hi hS kk
    have hS2 := hS
    obtain ⟨s1, s2, s3, s4, s5, s6, s7, s8, s9, s10⟩ := hS2
    have ew := s10 i (by omega)
    have bw := hwd i (by omega)
    rw [wdT] at kk
    refine e_iload_n rfl rfl ?_
    refine e_bipush (v := nI 21) rfl bp_21N ?_
    first | refine e_icmp_geN (tgt := 157) rfl rfl (by omega) (by omega) (fun z => ?_) (fun z => ?_) | refine e_icmp_ge (tgt := 157) rfl rfl (fun z => ?_) (fun z => ?_)
    · omega
    · refine e_aload_n rfl rfl ?_
      refine e_getI rfl f5_40 (by assumption) rfl ?_
      rw [s4]
      refine e_bipush (v := nI 22) rfl bp_22N ?_
      first | refine e_icmp_neN (tgt := 157) rfl rfl (by omega) (by omega) (fun z => ?_) (fun z => ?_) | refine e_icmp_ne (tgt := 157) rfl rfl (fun z => ?_) (fun z => ?_)
      · omega
      · refine e_aload_n rfl rfl ?_
        refine e_getP rfl f5_11 (by assumption) rfl (by assumption) ?_
        refine e_iload_n rfl rfl ?_
        first | refine e_ialoadN rfl (by assumption) (by omega) (by omega) ?_ | (refine e_iaload rfl (by assumption) ?_ ?_; rotate_left)
        refine e_aload_n rfl rfl ?_
        refine e_getI rfl f5_55 (by assumption) rfl ?_
        rw [ew, s6]
        first | refine e_icmp_neN (tgt := 151) rfl rfl (by omega) (by omega) (fun z => ?_) (fun z => ?_) | refine e_icmp_ne (tgt := 151) rfl rfl (fun z => ?_) (fun z => ?_)
        · have y := z
          rw [if_neg y] at kk
          first | refine e_inc2 rfl rfl rfl (incN1 _) ?_ | refine e_inc2 rfl rfl rfl rfl ?_
          refine e_goto (tgt := 116) rfl rfl ?_
          exact ih (i + 1) I (by omega) hS kk
        · have y := z
          rw [if_pos y] at kk
          refine e_aload_n rfl rfl ?_
          refine e_iload_n rfl rfl ?_
          refine e_iconst (v := nI 1) rfl ic_1N ?_
          first | refine e_iaddN rfl ?_ | refine e_iadd rfl ?_
          refine e_putI rfl f5_40 (by assumption) rfl rfl ?_
          first | refine e_inc2 rfl rfl rfl (incN1 _) ?_ | refine e_inc2 rfl rfl rfl rfl ?_
          refine e_goto (tgt := 116) rfl rfl ?_
          have S' := hS.up4 (nI (i + 1))
          -- it is found: the loop ends
          by_cases e : i + 1 = 21
          · refine e_iload_n rfl rfl ?_
            refine e_bipush (v := nI 21) rfl bp_21N ?_
            first | refine e_icmp_geN (tgt := 157) rfl rfl (by omega) (by omega) (fun z => ?_) (fun z => ?_) | refine e_icmp_ge (tgt := 157) rfl rfl (fun z => ?_) (fun z => ?_)
            · refine e_return rfl rfl ?_
              exact kk _ (fun c hc => u2_row _ _ hc) S'
            · omega
          · refine e_iload_n rfl rfl ?_
            refine e_bipush (v := nI 21) rfl bp_21N ?_
            first | refine e_icmp_geN (tgt := 157) rfl rfl (by omega) (by omega) (fun z => ?_) (fun z => ?_) | refine e_icmp_ge (tgt := 157) rfl rfl (fun z => ?_) (fun z => ?_)
            · omega
            · refine e_aload_n rfl rfl ?_
              refine e_getI rfl f5_40 (by assumption) rfl ?_
              rw [u2_at]
              refine e_bipush (v := nI 22) rfl bp_22N ?_
              first | refine e_icmp_neN (tgt := 157) rfl rfl (by omega) (by omega) (fun z => ?_) (fun z => ?_) | refine e_icmp_ne (tgt := 157) rfl rfl (fun z => ?_) (fun z => ?_)
              · refine e_return rfl rfl ?_
                exact kk _ (fun c hc => u2_row _ _ hc) S'
              · omega
theorem c5_takeWord (hK : SK K) (hS : SC I f n at_ tk va pl) : Cw l G d m5_takeWord [.ref 30] (I, J, K) (fun r h' => r = none ∧ ∃ I', h' = (I', J, K) ∧ (∀ c, c ≠ 30 → I' c = I c) ∧ SC I' f n (enF isL f (n - at_) at_) (if 6 < enF isL f (n - at_) at_ - at_ then -1 else wdT (pkV f at_ (min 6 (enF isL f (n - at_) at_ - at_))) 21 0) (nI (pkV f at_ (min 6 (enF isL f (n - at_) at_ - at_)))) pl) := by
  have h5 := hK.1
  have hle := hS.2.2.2.2.2.2.2.1
  have h700 := hS.2.2.2.2.2.2.1
  have hen := enF_in (b := isL) (f := f) (n - at_) at_
  refine Cw.of ok5_takeWord rfl (rfl : argL _ _ = [.ref 30, .null, .null]) ?_
  refine e_aload_n rfl rfl ?_
  refine e_iconst (v := nI 0) rfl ic_0N ?_
  refine e_putI rfl f5_55 (by assumption) rfl rfl ?_
  refine e_iconst (v := nI 0) rfl ic_0N ?_
  refine e_ist1 rfl rfl rfl ?_
  refine word_in hK (p := at_) (n - at_) at_ 0 _ (by omega) (by omega) (by omega) (hS.up6 _) (fun I' lt' f' e' S' v => ?_) _
  have hl' : lt' ≤ 700 := by omega
  have fr : ∀ c, c ≠ 30 → I' c = I c := fun c hc => by rw [f' c hc, u2_row _ _ hc]
  rw [← e']
  refine e_aload_n rfl rfl ?_
  refine e_iload_n rfl rfl ?_
  refine e_bipush (v := nI 6) rfl bp_6N ?_
  first | refine e_icmp_leN (tgt := 109) rfl rfl (by omega) (by omega) (fun z => ?_) (fun z => ?_) | refine e_icmp_le (tgt := 109) rfl rfl (fun z => ?_) (fun z => ?_)
  · have y := z
    rw [if_neg (by omega)]
    refine e_bipush (v := nI 22) rfl bp_22N ?_
    refine e_putI rfl f5_40 (by assumption) rfl rfl ?_
    refine e_iconst (v := nI 0) rfl ic_0N ?_
    refine e_ist2 rfl rfl rfl ?_
    refine word_look hK (by rw [e']; exact pkV_sm) wd_lt 21 0 _ (by omega) (S'.up4 _) (fun I2 f2 S2 => ?_)
    exact ⟨rfl, I2, rfl, fun c hc => by rw [f2 c hc, u2_row _ _ hc, fr c hc], S2⟩
  · have y := z
    rw [if_pos (by omega)]
    refine e_iconst rfl ic_m1 ?_
    refine e_goto (tgt := 111) rfl rfl ?_
    refine e_putI rfl f5_40 (by assumption) rfl rfl ?_
    refine e_iconst (v := nI 0) rfl ic_0N ?_
    refine e_ist2 rfl rfl rfl ?_
    refine e_iload_n rfl rfl ?_
    refine e_bipush (v := nI 21) rfl bp_21N ?_
    refine e_icmp_geN (tgt := 157) rfl rfl (by omega) (by omega) (fun z => absurd z (by omega)) (fun _ => ?_)
    refine e_aload_n rfl rfl ?_
    refine e_getI rfl f5_40 (by assumption) rfl ?_
    rw [u2_at]
    refine e_bipush (v := nI 22) rfl bp_22N ?_
    refine e_icmp_ne (tgt := 157) rfl rfl (fun _ => ?_) (fun z => absurd z (by decide))
    refine e_return rfl rfl ?_
    exact ⟨rfl, _, rfl, fun c hc => by rw [u2_row _ _ hc, fr c hc], S'.up4 _⟩
end MScan
