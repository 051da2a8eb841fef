/-! ===== the reference: tidy; sets of TINS as numbers ===== -/
theorem cF_add2 {f g h : Nat → Bool} (e : ∀ j, f j = (g j || h j)) (e2 : ∀ j, (g j && h j) = false) : ∀ k i, cF f i k = cF g i k + cF h i k
  | 0, _ => rfl
  | k + 1, i => by
    rw [cF, cF, cF, cF_add2 e e2 k (i + 1), e i]
    have hx := e2 i
    have e' : (if (g i || h i) = true then 1 else 0 : Nat) = (if g i = true then 1 else 0) + (if h i = true then 1 else 0) := by
      revert hx
      cases g i <;> cases h i <;> decide
    rw [e']
    omega
theorem sh_p : ∀ i, i < 8 → nI 1 <<< (nI i &&& 31) = nI (2 ^ i) := by decide
theorem bitF_nat {f : Nat → Bool} : ∀ k i v, v < 2 ^ i → i + k ≤ 8 → ∃ q, bitF f i k (nI v) = nI q ∧ q < 2 ^ (i + k) ∧ ∀ j, q.testBit j = (v.testBit j || (decide (i ≤ j ∧ j < i + k) && f j))
  | 0, i, v, hv, _ => ⟨v, rfl, hv, fun j => by rw [decide_eq_false (by omega), Bool.false_and, Bool.or_false]⟩
  | k + 1, i, v, hv, hi => by
    rw [bitF]
    by_cases c : f i = true
    · have hlt : v ||| 2 ^ i < 2 ^ (i + 1) := Nat.or_lt_two_pow (Nat.lt_of_lt_of_le hv (Nat.pow_le_pow_right (by omega) (by omega))) (Nat.pow_lt_pow_right (by omega) (by omega))
      obtain ⟨q, h1, h2, h3⟩ := bitF_nat (f := f) k (i + 1) (v ||| 2 ^ i) hlt (by omega)
      refine ⟨q, by rw [if_pos c, sh_p i (by omega), nI_or, h1], by rw [show i + (k + 1) = i + 1 + k by omega]; exact h2, fun j => ?_⟩
      rw [h3, Nat.testBit_or, Nat.testBit_two_pow]
      by_cases e : i = j
      · subst e
        rw [c, decide_eq_true (p := i = i) rfl, decide_eq_true (p := i ≤ i ∧ _) (by omega)]
        simp
      · rw [decide_eq_false e, Bool.or_false]
        have : decide (i + 1 ≤ j ∧ j < i + 1 + k) = decide (i ≤ j ∧ j < i + (k + 1)) := decide_eq_decide.mpr (by omega)
        rw [this]
    · obtain ⟨q, h1, h2, h3⟩ := bitF_nat (f := f) k (i + 1) v (Nat.lt_of_lt_of_le hv (Nat.pow_le_pow_right (by omega) (by omega))) (by omega)
      refine ⟨q, by rw [if_neg c, h1], by rw [show i + (k + 1) = i + 1 + k by omega]; exact h2, fun j => ?_⟩
      rw [h3]
      by_cases e : i = j
      · subst e
        rw [Bool.eq_false_iff.mpr c, Bool.and_false, Bool.and_false]
      · have : decide (i + 1 ≤ j ∧ j < i + 1 + k) = decide (i ≤ j ∧ j < i + (k + 1)) := decide_eq_decide.mpr (by omega)
        rw [this]
/-- a set as a number -/
theorem set_nat {f : Nat → Bool} {n : Nat} (hn : n ≤ 8) : ∃ q, bitF f 0 n (nI 0) = nI q ∧ q < 2 ^ n ∧ ∀ j, q.testBit j = (decide (j < n) && f j) := by
  obtain ⟨q, h1, h2, h3⟩ := bitF_nat (f := f) n 0 0 (by decide) (by omega)
  refine ⟨q, h1, by rw [Nat.zero_add] at h2; exact h2, fun j => ?_⟩
  rw [h3, Nat.zero_testBit, Bool.false_or]
  congr 1
  exact decide_eq_decide.mpr (by omega)
theorem bit_nat {q j : Nat} (hq : q < 2 ^ 31) (hj : j < 32) : bitOf (nI q) (nI j) = q.testBit j := by
  rw [bitOf_eq _ hj]
  show (BitVec.ofNat 32 q).getLsbD j = q.testBit j
  rw [BitVec.getLsbD_ofNat, decide_eq_true hj, Bool.true_and]
theorem sub_nat {q a : Nat} (hq : q < 256) (ha : a < 256) : nI q &&& (nI a ^^^ -1) = 0 ↔ ∀ j, q.testBit j = true → a.testBit j = true := by
  rw [← Int32.toBitVec_inj]
  show BitVec.ofNat 32 q &&& (BitVec.ofNat 32 a ^^^ BitVec.allOnes 32) = 0#32 ↔ _
  constructor
  · intro h j hj
    have h8 : j < 8 := by
      refine Decidable.byContradiction (fun c => ?_)
      have := Nat.testBit_lt_two_pow (x := q) (i := j) (Nat.lt_of_lt_of_le hq (by have := Nat.pow_le_pow_right (n := 2) (by omega) (by omega : 8 ≤ j); omega))
      rw [this] at hj
      exact absurd hj (by decide)
    have := congrArg (fun v => BitVec.getLsbD v j) h
    simp only [BitVec.getLsbD_and, BitVec.getLsbD_xor, BitVec.getLsbD_ofNat, BitVec.getLsbD_allOnes] at this
    rw [hj, decide_eq_true (by omega : j < 32)] at this
    revert this
    cases a.testBit j <;> simp
  · intro h
    apply BitVec.eq_of_getLsbD_eq
    intro j hj
    simp only [BitVec.getLsbD_and, BitVec.getLsbD_xor, BitVec.getLsbD_ofNat, BitVec.getLsbD_allOnes]
    rw [decide_eq_true hj]
    have := h j
    cases hq : q.testBit j <;> simp_all
theorem sub_le {q a : Nat} (h : ∀ j, q.testBit j = true → a.testBit j = true) : q ≤ a := by
  have e : q &&& a = q := Nat.eq_of_testBit_eq (fun j => by
    rw [Nat.testBit_and]
    cases hq : q.testBit j with
    | false => rfl
    | true => rw [h j hq]; rfl)
  rw [← e]
  exact Nat.and_le_right
section Tidy
variable {P : Pl} {S : SM} {n : Nat} {x : Int32}
/-- those that stay, if the least that stays keeps so long -/
def stF (P : Pl) (S : SM) (n : Nat) (x le : Int32) (j : Nat) : Bool := inS S x j && (!decide (P.2 6 j < le) && !blw P S n j)
def ouF (P : Pl) (S : SM) (n : Nat) (x le : Int32) (j : Nat) : Bool := inS S x j && (decide (P.2 6 j < le) || blw P S n j)
theorem in_su (le : Int32) (i k : Nat) : cF (inS S x) i k = cF (stF P S n x le) i k + cF (ouF P S n x le) i k := by
  refine cF_add2 (fun j => ?_) (fun j => ?_) k i
  · unfold stF ouF
    cases inS S x j <;> cases decide (P.2 6 j < le) <;> cases blw P S n j <;> rfl
  · unfold stF ouF
    cases inS S x j <;> cases decide (P.2 6 j < le) <;> cases blw P S n j <;> rfl
theorem toF_at {le : Int32} : ∀ k i c, (toF P S n x le k i c = 8 ∧ ∃ j, i ≤ j ∧ j < i + k ∧ inS S x j = true ∧ le < P.2 6 j ∧ blw P S n j = true) ∨ (toF P S n x le k i c = c + cF (ouF P S n x le) i k ∧ ∀ j, i ≤ j → j < i + k → inS S x j = true → ¬ (le < P.2 6 j ∧ blw P S n j = true))
  | 0, i, c => Or.inr ⟨rfl, fun j a b => absurd b (by omega)⟩
  | k + 1, i, c => by
    rw [toF, cF]
    by_cases h1 : inS S x i = true
    · rw [if_pos h1]
      by_cases h2 : le < P.2 6 i ∧ blw P S n i = true
      · rw [if_pos h2]
        exact Or.inl ⟨rfl, i, by omega, by omega, h1, h2.1, h2.2⟩
      · rw [if_neg h2]
        by_cases h3 : P.2 6 i < le ∨ blw P S n i = true
        · have eo : ouF P S n x le i = true := by
            unfold ouF
            rw [h1, Bool.true_and]
            rcases h3 with h | h
            · rw [decide_eq_true h]; rfl
            · rw [h, Bool.or_true]
          rw [if_pos h3, if_pos eo]
          rcases toF_at (le := le) k (i + 1) (c + 1) with ⟨a, j, b1, b2, b3⟩ | ⟨a, b⟩
          · exact Or.inl ⟨a, j, by omega, by omega, b3⟩
          · exact Or.inr ⟨a.trans (by omega), fun j c1 c2 c3 => if e : j = i then by rw [e]; exact h2 else b j (by omega) (by omega) c3⟩
        · have eo : ouF P S n x le i = false := by
            unfold ouF
            rw [h1, Bool.true_and, decide_eq_false (fun q => h3 (Or.inl q)), Bool.eq_false_iff.mpr (fun q => h3 (Or.inr q))]; rfl
          rw [if_neg h3, if_neg (by rw [eo]; decide), Nat.zero_add]
          rcases toF_at (le := le) k (i + 1) c with ⟨a, j, b1, b2, b3⟩ | ⟨a, b⟩
          · exact Or.inl ⟨a, j, by omega, by omega, b3⟩
          · exact Or.inr ⟨a, fun j c1 c2 c3 => if e : j = i then by rw [e]; exact h2 else b j (by omega) (by omega) c3⟩
    · have eo : ouF P S n x le i = false := by
        unfold ouF
        rw [Bool.eq_false_iff.mpr h1]; rfl
      rw [if_neg h1, if_neg (by rw [eo]; decide), Nat.zero_add]
      rcases toF_at (le := le) k (i + 1) c with ⟨a, j, b1, b2, b3⟩ | ⟨a, b⟩
      · exact Or.inl ⟨a, j, by omega, by omega, b3⟩
      · exact Or.inr ⟨a, fun j c1 c2 c3 => if e : j = i then absurd (e ▸ c3) h1 else b j (by omega) (by omega) c3⟩
theorem tdF_le : ∀ k i f m, tdF P S n x k i f m ≤ f ∧ tdF P S n x k i f m ≤ m + cF (inS S x) i k ∧ ∀ j, i ≤ j → j < i + k → inS S x j = true → tdF P S n x k i f m ≤ toF P S n x (P.2 6 j) n 0 0
  | 0, i, f, m => by
    rw [tdF, cF]
    refine ⟨by split <;> omega, by split <;> omega, fun j a b => absurd b (by omega)⟩
  | k + 1, i, f, m => by
    rw [tdF, cF]
    by_cases h1 : inS S x i = true
    · rw [if_pos h1, if_pos h1]
      obtain ⟨a, b, c⟩ := tdF_le k (i + 1) (if toF P S n x (P.2 6 i) n 0 0 < f then toF P S n x (P.2 6 i) n 0 0 else f) (m + 1)
      have hmin : (if toF P S n x (P.2 6 i) n 0 0 < f then toF P S n x (P.2 6 i) n 0 0 else f) ≤ f ∧ (if toF P S n x (P.2 6 i) n 0 0 < f then toF P S n x (P.2 6 i) n 0 0 else f) ≤ toF P S n x (P.2 6 i) n 0 0 := by split <;> omega
      refine ⟨by omega, by omega, fun j a1 a2 a3 => ?_⟩
      by_cases e : j = i
      · subst e; omega
      · exact c j (by omega) (by omega) a3
    · rw [if_neg h1, if_neg h1]
      obtain ⟨a, b, c⟩ := tdF_le k (i + 1) f m
      exact ⟨a, by omega, fun j a1 a2 a3 => if e : j = i then absurd (e ▸ a3) h1 else c j (by omega) (by omega) a3⟩
theorem tdF_is : ∀ k i f m, tdF P S n x k i f m = f ∨ tdF P S n x k i f m = m + cF (inS S x) i k ∨ ∃ j, i ≤ j ∧ j < i + k ∧ inS S x j = true ∧ tdF P S n x k i f m = toF P S n x (P.2 6 j) n 0 0
  | 0, i, f, m => by
    rw [tdF, cF]
    split
    · exact Or.inr (Or.inl rfl)
    · exact Or.inl rfl
  | k + 1, i, f, m => by
    rw [tdF, cF]
    by_cases h1 : inS S x i = true
    · rw [if_pos h1, if_pos h1]
      rcases tdF_is k (i + 1) (if toF P S n x (P.2 6 i) n 0 0 < f then toF P S n x (P.2 6 i) n 0 0 else f) (m + 1) with h | h | ⟨j, a, b, c, e⟩
      · by_cases q : toF P S n x (P.2 6 i) n 0 0 < f
        · rw [if_pos q] at h ⊢
          exact Or.inr (Or.inr ⟨i, by omega, by omega, h1, h⟩)
        · rw [if_neg q] at h ⊢
          exact Or.inl h
      · exact Or.inr (Or.inl (by omega))
      · exact Or.inr (Or.inr ⟨j, by omega, by omega, c, e⟩)
    · rw [if_neg h1, if_neg h1]
      rcases tdF_is k (i + 1) f m with h | h | ⟨j, a, b, c, e⟩
      · exact Or.inl h
      · exact Or.inr (Or.inl (by omega))
      · exact Or.inr (Or.inr ⟨j, by omega, by omega, c, e⟩)
/-- the least that stays -/
def lwF (P : Pl) (q : Nat) : Nat → Nat → Int32 → Int32
  | 0, _, v => v
  | k + 1, i, v => lwF P q k (i + 1) (if q.testBit i = true then (if P.2 6 i < v then P.2 6 i else v) else v)
theorem lwF_at {q : Nat} : ∀ k i v, lwF P q k i v ≤ v ∧ (∀ j, i ≤ j → j < i + k → q.testBit j = true → lwF P q k i v ≤ P.2 6 j) ∧ (lwF P q k i v = v ∨ ∃ j, i ≤ j ∧ j < i + k ∧ q.testBit j = true ∧ lwF P q k i v = P.2 6 j)
  | 0, i, v => ⟨Int32.le_refl _, fun j a b => absurd b (by omega), Or.inl rfl⟩
  | k + 1, i, v => by
    rw [lwF]
    by_cases h1 : q.testBit i = true
    · rw [if_pos h1]
      have hm : (if P.2 6 i < v then P.2 6 i else v) ≤ v ∧ (if P.2 6 i < v then P.2 6 i else v) ≤ P.2 6 i ∧ ((if P.2 6 i < v then P.2 6 i else v) = v ∨ (if P.2 6 i < v then P.2 6 i else v) = P.2 6 i) := by
        by_cases c : P.2 6 i < v
        · rw [if_pos c]; exact ⟨Int32.le_of_lt c, Int32.le_refl _, Or.inr rfl⟩
        · rw [if_neg c]; exact ⟨Int32.le_refl _, Int32.not_lt.mp c, Or.inl rfl⟩
      generalize (if P.2 6 i < v then P.2 6 i else v) = v' at hm
      obtain ⟨a, b, c⟩ := lwF_at (q := q) k (i + 1) v'
      refine ⟨Int32.le_trans a hm.1, fun j a1 a2 a3 => ?_, ?_⟩
      · by_cases e : j = i
        · subst e; exact Int32.le_trans a hm.2.1
        · exact b j (by omega) (by omega) a3
      · rcases c with c | ⟨j, c1, c2, c3⟩
        · rcases hm.2.2 with e | e
          · exact Or.inl (c.trans e)
          · exact Or.inr ⟨i, by omega, by omega, h1, c.trans e⟩
        · exact Or.inr ⟨j, by omega, by omega, c3⟩
    · rw [if_neg h1]
      obtain ⟨a, b, c⟩ := lwF_at (q := q) k (i + 1) v
      refine ⟨a, fun j a1 a2 a3 => if e : j = i then absurd (e ▸ a3) h1 else b j (by omega) (by omega) a3, ?_⟩
      rcases c with c | ⟨j, c1, c2, c3⟩
      · exact Or.inl c
      · exact Or.inr ⟨j, by omega, by omega, c3⟩
/-- may these stay alone -/
def TDq (P : Pl) (S : SM) (n : Nat) (x : Int32) (q : Nat) : Prop := ∀ t, t < n → inS S x t = true → (¬ q.testBit t = true → ¬ lwF P q n 0 (nI 100) < P.2 6 t) ∧ (q.testBit t = true → ∀ o, o < n → q.testBit o = true → abS S t o = true → ¬ P.2 6 t < P.2 6 o)
theorem anF_ex {f : Nat → Bool} : ∀ k i, anF f k i = true ↔ ∃ j, i ≤ j ∧ j < i + k ∧ f j = true
  | 0, i => ⟨fun h => by rw [anF] at h; exact absurd h (by decide), fun ⟨j, a, b, _⟩ => absurd b (by omega)⟩
  | k + 1, i => by
    rw [anF]
    by_cases c : f i = true
    · rw [if_pos c]; exact ⟨fun _ => ⟨i, by omega, by omega, c⟩, fun _ => rfl⟩
    · rw [if_neg c, anF_ex k (i + 1)]
      exact ⟨fun ⟨j, a, b, e⟩ => ⟨j, by omega, by omega, e⟩, fun ⟨j, a, b, e⟩ => ⟨j, Nat.lt_of_le_of_ne a (fun q => c (q ▸ e)), by omega, e⟩⟩
theorem blw_ex {t : Nat} : blw P S n t = true ↔ ∃ o, o < n ∧ abS S t o = true ∧ P.2 6 t < P.2 6 o := by
  unfold blw
  rw [anF_ex]
  exact ⟨fun ⟨j, _, b, e⟩ => ⟨j, by omega, ((Bool.and_eq_true _ _).mp e).1, of_decide_eq_true ((Bool.and_eq_true _ _).mp e).2⟩, fun ⟨j, b, e1, e2⟩ => ⟨j, by omega, by omega, by rw [e1, decide_eq_true e2]; rfl⟩⟩
theorem cF_sub {f g : Nat → Bool} : ∀ k i, (∀ j, i ≤ j → j < i + k → f j = true → g j = true) → cF f i k ≤ cF g i k
  | 0, _, _ => Nat.le_refl 0
  | k + 1, i, h => by
    have := cF_sub k (i + 1) (fun j a b => h j (by omega) (by omega))
    rw [cF, cF]
    by_cases c : f i = true
    · rw [if_pos c, if_pos (h i (by omega) (by omega) c)]; omega
    · rw [if_neg c]
      split <;> omega
/-- above lies on the same stack -/
def ABx (S : SM) (n : Nat) (x : Int32) : Prop := ∀ t, t < n → ∀ o, o < n → inS S x t = true → abS S t o = true → inS S x o = true
theorem td_up {q : Nat} (hx : ABx S n x) (h8 : cnt (inS S x) n ≤ 8) (hs : ∀ j, q.testBit j = true → j < n ∧ inS S x j = true) (hk : ∀ j, j < n → P.2 6 j < nI 100) (ht : TDq P S n x q) : cnt (fun j => q.testBit j) n + tdF P S n x n 0 8 0 ≤ cnt (inS S x) n := by
  obtain ⟨l1, l2, l3⟩ := lwF_at (P := P) (q := q) n 0 (nI 100)
  obtain ⟨d1, d2, d3⟩ := tdF_le (P := P) (S := S) (n := n) (x := x) n 0 8 0
  rw [Nat.zero_add] at d2
  have d2' : tdF P S n x n 0 8 0 ≤ cnt (inS S x) n := d2
  rcases l3 with e | ⟨i, -, i2, i3, i4⟩
  · have : cnt (fun j => q.testBit j) n = 0 := by
      refine cF_nil (n := 0) (fun j _ => ?_) n 0 (by omega)
      refine Bool.eq_false_iff.mpr (fun z => ?_)
      have := l2 j (by omega) (by have := (hs j z).1; omega) z
      rw [e] at this
      exact absurd (hk j (hs j z).1) (Int32.not_lt.mpr this)
    omega
  · have i2 : i < n := by omega
    have hi := (hs i i3).2
    rw [i4] at l2
    -- those that keep longer stay
    have long : ∀ t, t < n → inS S x t = true → P.2 6 i < P.2 6 t → q.testBit t = true := fun t a b c => Decidable.byContradiction (fun z => (ht t a b).1 z (by rw [i4]; exact c))
    have stay : ∀ j, j < n → q.testBit j = true → stF P S n x (P.2 6 i) j = true := by
      intro j hj z
      have z1 : ¬ P.2 6 j < P.2 6 i := Int32.not_lt.mpr (l2 j (by omega) (by omega) z)
      have z2 : ¬ blw P S n j = true := by
        intro b
        obtain ⟨o, o1, o2, o3⟩ := blw_ex.mp b
        have oi : q.testBit o = true := long o o1 (hx j hj o o1 (hs j z).2 o2) (Int32.lt_of_le_of_lt (l2 j (by omega) (by omega) z) o3)
        exact (ht j hj (hs j z).2).2 z o o1 oi o2 o3
      unfold stF
      rw [(hs j z).2, decide_eq_false z1, Bool.eq_false_iff.mpr z2]
      rfl
    have c1 : cnt (fun j => q.testBit j) n ≤ cnt (stF P S n x (P.2 6 i)) n := cF_sub n 0 (fun j _ b z => stay j (by omega) z)
    have c2 := d3 i (by omega) (by omega) hi
    have c3 : cnt (inS S x) n = cnt (stF P S n x (P.2 6 i)) n + cnt (ouF P S n x (P.2 6 i)) n := in_su _ 0 n
    rcases toF_at (P := P) (S := S) (n := n) (x := x) (le := P.2 6 i) n 0 0 with ⟨-, j, b1, b2, b3, b4, b5⟩ | ⟨a, -⟩
    · obtain ⟨o, o1, o2, o3⟩ := blw_ex.mp b5
      have j2 : j < n := by omega
      have jt := long j j2 b3 b4
      have ot := long o o1 (hx j j2 o o1 b3 o2) (Int32.lt_trans b4 o3)
      exact absurd o3 ((ht j j2 b3).2 jt o o1 ot o2)
    · rw [Nat.zero_add] at a
      have a' : toF P S n x (P.2 6 i) n 0 0 = cnt (ouF P S n x (P.2 6 i)) n := a
      omega
theorem td_ex {a : Nat} (hn : n ≤ 8) (hx : ABx S n x) (h8 : cnt (inS S x) n ≤ 8) (ha : ∀ j, a.testBit j = (decide (j < n) && inS S x j)) (hk : ∀ j, j < n → P.2 6 j < nI 100) : ∃ q, (∀ j, q.testBit j = true → a.testBit j = true) ∧ TDq P S n x q ∧ cnt (fun j => q.testBit j) n + tdF P S n x n 0 8 0 = cnt (inS S x) n := by
  have nil : tdF P S n x n 0 8 0 = cnt (inS S x) n → ∃ q, (∀ j, q.testBit j = true → a.testBit j = true) ∧ TDq P S n x q ∧ cnt (fun j => q.testBit j) n + tdF P S n x n 0 8 0 = cnt (inS S x) n := by
    intro e
    refine ⟨0, fun j z => absurd z (by rw [Nat.zero_testBit]; decide), fun t h1 h2 => ⟨fun _ z => ?_, fun z => absurd z (by rw [Nat.zero_testBit]; decide)⟩, ?_⟩
    · have el : lwF P 0 n 0 (nI 100) = nI 100 := by
        rcases (lwF_at (P := P) (q := 0) n 0 (nI 100)).2.2 with e | ⟨i, -, -, i3, -⟩
        · exact e
        · exact absurd i3 (by rw [Nat.zero_testBit]; decide)
      rw [el] at z
      exact Int32.lt_irrefl (Int32.lt_trans z (hk t h1))
    · have : cnt (fun j => Nat.testBit 0 j) n = 0 := cF_nil (n := 0) (fun j _ => Nat.zero_testBit j) n 0 (by omega)
      omega
  obtain ⟨d1, d2, d3⟩ := tdF_le (P := P) (S := S) (n := n) (x := x) n 0 8 0
  rw [Nat.zero_add] at d2
  have d2' : tdF P S n x n 0 8 0 ≤ cnt (inS S x) n := d2
  rcases tdF_is (P := P) (S := S) (n := n) (x := x) n 0 8 0 with e | e | ⟨i, -, i2, i3, e⟩
  · exact nil (by omega)
  · rw [Nat.zero_add] at e
    exact nil e
  · rcases toF_at (P := P) (S := S) (n := n) (x := x) (le := P.2 6 i) n 0 0 with ⟨b, -⟩ | ⟨b, fe⟩
    · exact nil (by omega)
    · rw [Nat.zero_add] at b
      have b' : toF P S n x (P.2 6 i) n 0 0 = cnt (ouF P S n x (P.2 6 i)) n := b
      have c3 : cnt (inS S x) n = cnt (stF P S n x (P.2 6 i)) n + cnt (ouF P S n x (P.2 6 i)) n := in_su _ 0 n
      obtain ⟨q, -, -, hq⟩ := set_nat (f := stF P S n x (P.2 6 i)) hn
      have hq2 : ∀ j, q.testBit j = true ↔ j < n ∧ stF P S n x (P.2 6 i) j = true := fun j => by rw [hq, Bool.and_eq_true, decide_eq_true_eq]
      have st : ∀ j, stF P S n x (P.2 6 i) j = true ↔ inS S x j = true ∧ ¬ P.2 6 j < P.2 6 i ∧ ¬ blw P S n j = true := fun j => by
        unfold stF
        cases inS S x j <;> cases blw P S n j <;> by_cases c : P.2 6 j < P.2 6 i <;> simp [c]
      have ec : cnt (fun j => q.testBit j) n = cnt (stF P S n x (P.2 6 i)) n := cF_congr _ _ (fun j _ hj => by rw [hq, decide_eq_true (by omega), Bool.true_and])
      obtain ⟨l1, l2, l3⟩ := lwF_at (P := P) (q := q) n 0 (nI 100)
      have lo : P.2 6 i ≤ lwF P q n 0 (nI 100) := by
        rcases l3 with e | ⟨j, -, j2, j3, j4⟩
        · rw [e]; exact Int32.le_of_lt (hk i (by omega))
        · rw [j4]; exact Int32.not_lt.mp ((st j).mp ((hq2 j).mp j3).2).2.1
      refine ⟨q, fun j z => ?_, fun t h1 h2 => ⟨fun z y => ?_, fun z o o1 o2 o3 o4 => ?_⟩, by omega⟩
      · obtain ⟨z1, z2⟩ := (hq2 j).mp z
        rw [ha, decide_eq_true z1, ((st j).mp z2).1]; rfl
      · have lt : P.2 6 i < P.2 6 t := Int32.lt_of_le_of_lt lo y
        refine z ((hq2 t).mpr ⟨h1, (st t).mpr ⟨h2, fun w => Int32.lt_irrefl (Int32.lt_trans w lt), fun w => fe t (by omega) (by omega) h2 ⟨lt, w⟩⟩⟩)
      · exact ((st t).mp ((hq2 t).mp z).2).2.2 (blw_ex.mpr ⟨o, o1, o3, o4⟩)
end Tidy
