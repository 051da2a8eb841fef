/-! ===== TinNation: its cells, what it stands for ===== -/
def isScan (K : Kt) : Prop := (K.2.1 30).1 = 5 ∧ K.1 30 0 = some 31 ∧ K.2.1 31 = (20, 21)
/-- the class's cells and how they hang together -/
def GK (K : Kt) : Prop := ((K.2.1 0).1 = 9 ∧ K.1 0 0 = some 1 ∧ K.1 0 2 = some 2 ∧ K.1 0 3 = some 33 ∧ K.1 0 4 = some 60 ∧ K.1 0 5 = some 62 ∧ K.1 0 6 = some 70 ∧ K.1 0 7 = some 78 ∧ K.1 0 9 = some 86 ∧ K.1 0 10 = some 93 ∧ K.1 0 11 = some 100 ∧ K.1 0 12 = some 101) ∧
  (K.2.1 1 = (21, 700) ∧ (K.2.1 2).1 = 2 ∧ K.1 2 0 = some 3 ∧ K.1 2 1 = some 30 ∧ K.2.1 100 = (20, 4) ∧ K.2.1 101 = (20, 4)) ∧ isScan K ∧ isPlan K 3 ∧ isPlan K 33 ∧ isDays K 60 33 ∧ isState K 62 ∧ isState K 70 ∧ isState K 78 ∧ isTold K 86 ∧ isSteps K 93
theorem GK.hd62 {K : Kt} (h : GK K) : HD K 60 33 62 := ⟨h.2.2.2.2.2.1, h.2.2.2.2.1, h.2.2.2.2.2.2.1, by omega, by omega⟩
theorem GK.hd70 {K : Kt} (h : GK K) : HD K 60 33 70 := ⟨h.2.2.2.2.2.1, h.2.2.2.2.1, h.2.2.2.2.2.2.2.1, by omega, by omega⟩
/-- alike on all that a state is made of -/
def Sm (I I' : IM) (n : Nat) : Prop := (∀ r, 1 ≤ r → r ≤ 6 → ∀ t, t < n → I' (62 + r) t = I (62 + r) t) ∧ (∀ w, w < 8 → I' 69 w = I 69 w) ∧ ∀ k, 7 ≤ k → k ≤ 13 → I' 62 k = I 62 k
theorem RC.sm {I I' : IM} {J J' : JM} {n : Nat} {S : SM} (h : RC I J 62 n S) (hs : Sm I I' n) (hj : J' 62 14 = J 62 14) : RC I' J' 62 n S := by
  obtain ⟨h1, h2, h3, h4, h5, ⟨k1, k2, k3, k4, k5, k6⟩, h7⟩ := h
  obtain ⟨a, b, c⟩ := hs
  refine ⟨(c 7 (by omega) (by omega)).trans h1, h2, fun t ht => ?_, fun t ht u hu => ?_, fun w hw => (b w hw).trans (h5 w hw), ⟨(c 8 (by omega) (by omega)).trans k1, (c 9 (by omega) (by omega)).trans k2, (c 10 (by omega) (by omega)).trans k3, (c 11 (by omega) (by omega)).trans k4, (c 12 (by omega) (by omega)).trans k5, (c 13 (by omega) (by omega)).trans k6⟩, hj.trans h7⟩
  · obtain ⟨e1, e2, e3, e4, e5⟩ := h3 t ht
    exact ⟨(a 1 (by omega) (by omega) t ht).trans e1, (a 2 (by omega) (by omega) t ht).trans e2, (a 3 (by omega) (by omega) t ht).trans e3, (a 5 (by omega) (by omega) t ht).trans e4, (a 6 (by omega) (by omega) t ht).trans e5⟩
  · rw [h4 t ht u hu, a 3 (by omega) (by omega) t ht, a 3 (by omega) (by omega) u hu, a 4 (by omega) (by omega) t ht, a 4 (by omega) (by omega) u hu]
theorem HC.sm {I I' : IM} {n B : Nat} (h : HC I 62 n B) (hs : Sm I I' n) : HC I' 62 n B := by
  refine ⟨fun t ht => ?_, fun t ht u hu htu => ?_⟩
  · obtain ⟨j, h1, h2⟩ := h.1 t ht
    exact ⟨j, h1, (hs.1 4 (by omega) (by omega) t ht).trans h2⟩
  · rw [hs.1 3 (by omega) (by omega) t ht, hs.1 3 (by omega) (by omega) u hu, hs.1 4 (by omega) (by omega) t ht, hs.1 4 (by omega) (by omega) u hu]
    exact h.2 t ht u hu htu
theorem Sm.ofRC {I I' : IM} {J J' : JM} {n : Nat} {S : SM} (h : RC I J 62 n S) (h' : RC I' J' 62 n S) (hh : ∀ t, t < n → I' 66 t = I 66 t) : Sm I I' n := by
  obtain ⟨h1, h2, h3, h4, h5, ⟨k1, k2, k3, k4, k5, k6⟩, h7⟩ := h
  obtain ⟨h1', -, h3', -, h5', ⟨k1', k2', k3', k4', k5', k6'⟩, -⟩ := h'
  refine ⟨fun r r1 r2 t ht => ?_, fun w hw => (h5' w hw).trans (h5 w hw).symm, fun k a b => ?_⟩
  · obtain ⟨e1, e2, e3, e4, e5⟩ := h3 t ht
    obtain ⟨e1', e2', e3', e4', e5'⟩ := h3' t ht
    rcases (by omega : r = 1 ∨ r = 2 ∨ r = 3 ∨ r = 4 ∨ r = 5 ∨ r = 6) with q | q | q | q | q | q <;> subst q
    · exact e1'.trans e1.symm
    · exact e2'.trans e2.symm
    · exact e3'.trans e3.symm
    · exact hh t ht
    · exact e4'.trans e4.symm
    · exact e5'.trans e5.symm
  · rcases (by omega : k = 7 ∨ k = 8 ∨ k = 9 ∨ k = 10 ∨ k = 11 ∨ k = 12 ∨ k = 13) with q | q | q | q | q | q | q <;> subst q
    · exact h1'.trans h1.symm
    · exact k1'.trans k1.symm
    · exact k2'.trans k2.symm
    · exact k3'.trans k3.symm
    · exact k4'.trans k4.symm
    · exact k5'.trans k5.symm
    · exact k6'.trans k6.symm
theorem Sm.u62 {I I' : IM} {n : Nat} (h : Sm I I' n) (k : Nat) {v v' : Int32} (hv : v' = v) : Sm (u2 I 62 k v) (u2 I' 62 k v') n := by
  subst hv
  refine ⟨fun r r1 r2 t ht => ?_, fun w hw => ?_, fun k' a b => ?_⟩
  · rw [u2_ne _ _ (by omega), u2_ne _ _ (by omega)]; exact h.1 r r1 r2 t ht
  · rw [u2_ne _ _ (by omega), u2_ne _ _ (by omega)]; exact h.2.1 w hw
  · by_cases e : k' = k
    · subst e; rw [u2_at, u2_at]
    · rw [u2_nk _ _ e, u2_nk _ _ e]; exact h.2.2 k' a b
theorem Sm.ur {I I' : IM} {n : Nat} (h : Sm I I' n) {r : Nat} (hr : 1 ≤ r) (hr6 : r ≤ 6) (k : Nat) {v v' : Int32} (hv : v' = v) : Sm (u2 I (62 + r) k v) (u2 I' (62 + r) k v') n := by
  subst hv
  refine ⟨fun r' r1 r2 t ht => ?_, fun w hw => ?_, fun k' a b => ?_⟩
  · by_cases e : r' = r
    · subst e
      by_cases f : t = k
      · subst f; rw [u2_at, u2_at]
      · rw [u2_nk _ _ f, u2_nk _ _ f]; exact h.1 r' r1 r2 t ht
    · rw [u2_ne _ _ (by omega), u2_ne _ _ (by omega)]; exact h.1 r' r1 r2 t ht
  · rw [u2_ne _ _ (by omega), u2_ne _ _ (by omega)]; exact h.2.1 w hw
  · rw [u2_ne _ _ (by omega), u2_ne _ _ (by omega)]; exact h.2.2 k' a b
theorem tbk_sm {I I' : IM} {n : Nat} (h : Sm I I' n) (hn : n < 2 ^ 31) (so wh sk hg : Int32) : Sm (tbk I 62 so wh sk hg n) (tbk I' 62 so wh sk hg n) n := by
  unfold tbk
  have e9 := h.2.2 9 (by omega) (by omega)
  split
  · exact h.u62 9 (by rw [e9])
  · split
    · next c =>
      obtain ⟨j, hj, rfl⟩ := inN_of hn c
      rw [nI_clamp (by omega)]
      split
      · exact ((h.ur (r := 1) (by omega) (by omega) j rfl).ur (r := 5) (by omega) (by omega) j rfl).u62 9 (by rw [e9])
      · split
        · exact (h.ur (r := 3) (by omega) (by omega) j rfl).ur (r := 4) (by omega) (by omega) j rfl
        · exact h.ur (r := 2) (by omega) (by omega) j (by rw [h.1 2 (by omega) (by omega) j hj])
    · exact h
/-- k steps U, taken back one by one, lead through the states Hs -/
def UB (J : JM) (n B : Nat) (U : SM) (Hs : Nat → SM) : Nat → IM → Prop
  | 0, _ => True
  | k + 1, I => RC (tbk I 62 (U 0 k) (U 1 k) (U 2 k) (U 3 k) n) J 62 n (Hs k) ∧ HC (tbk I 62 (U 0 k) (U 1 k) (U 2 k) (U 3 k) n) 62 n B ∧ UB J n B U Hs k (tbk I 62 (U 0 k) (U 1 k) (U 2 k) (U 3 k) n)
theorem UB.sm {J J' : JM} {n B B' : Nat} {U : SM} {Hs : Nat → SM} (hn : n < 2 ^ 31) (hj : J' 62 14 = J 62 14) (hB : B ≤ B') : ∀ {k : Nat} {I I' : IM}, UB J n B U Hs k I → Sm I I' n → UB J' n B' U Hs k I'
  | 0, _, _, _, _ => trivial
  | k + 1, _, _, h, hs => by
    have t := tbk_sm hs hn (U 0 k) (U 1 k) (U 2 k) (U 3 k)
    have q := h.2.1.sm t
    exact ⟨h.1.sm t hj, ⟨fun t ht => by obtain ⟨j, h1, h2⟩ := q.1 t ht; exact ⟨j, by omega, h2⟩, q.2⟩, UB.sm hn hj hB h.2.2 t⟩
theorem UB.congr {J : JM} {n B : Nat} {U U' : SM} {Hs Hs' : Nat → SM} : ∀ {k : Nat} {I : IM}, (∀ j i, i < k → U' j i = U j i) → (∀ i, i < k → Hs' i = Hs i) → UB J n B U Hs k I → UB J n B U' Hs' k I
  | 0, _, _, _, _ => trivial
  | k + 1, I, hu, hh, h => by
    rw [UB, hu 0 k (by omega), hu 1 k (by omega), hu 2 k (by omega), hu 3 k (by omega), hh k (by omega)]
    exact ⟨h.1, h.2.1, UB.congr (fun j i hi => hu j i (by omega)) (fun i hi => hh i (by omega)) h.2.2⟩
theorem UB.shift {J : JM} {n B : Nat} {U : SM} {Hs : Nat → SM} : ∀ {k : Nat} {I : IM}, UB J n B U Hs (k + 1) I → UB J n B (fun j i => U j (i + 1)) (fun i => Hs (i + 1)) k I
  | 0, _, _ => trivial
  | k + 1, I, h => ⟨h.1, h.2.1, UB.shift h.2.2⟩
/-- u steps that can be undone, and what they lead back to -/
def UV (I : IM) (J : JM) (n B u : Nat) (Hs : Nat → SM) : Prop := ∃ U, RU I 93 u U ∧ UB J n B U Hs u I
/-- one step more -/
def U1 (u : Nat) (U : SM) (so wh sk hg : Int32) : SM := fun j i => if i = (if u = 20 then 19 else u) then (if j = 0 then so else if j = 1 then wh else if j = 2 then sk else hg) else if u = 20 then U j (i + 1) else U j i
def H1 (u : Nat) (Hs : Nat → SM) (S : SM) : Nat → SM := fun i => if i = (if u = 20 then 19 else u) then S else if u = 20 then Hs (i + 1) else Hs i
def u1 (u : Nat) : Nat := if u = 20 then 20 else u + 1
theorem UV.add {I I2 : IM} {J J2 : JM} {n B B2 u : Nat} {Hs : Nat → SM} {U S : SM} {so wh sk hg : Int32} (hn : n < 2 ^ 31) (hu : u ≤ 20) (hUB : UB J n B U Hs u I) (hC : RC I J 62 n S) (hH : HC I 62 n B) (hB : B ≤ B2) (hU : RU I2 93 (u1 u) (U1 u U so wh sk hg)) (hs : Sm I (tbk I2 62 so wh sk hg n) n) (hj : J2 62 14 = J 62 14) : UV I2 J2 n B2 (u1 u) (H1 u Hs S) := by
  refine ⟨_, hU, ?_⟩
  have hH2 := hH.sm hs
  have hH3 : HC (tbk I2 62 so wh sk hg n) 62 n B2 := ⟨fun t ht => by obtain ⟨j, h1, h2⟩ := hH2.1 t ht; exact ⟨j, by omega, h2⟩, hH2.2⟩
  by_cases e : u = 20
  · subst e
    show UB J2 n B2 _ _ (19 + 1) I2
    refine ⟨hC.sm hs hj, hH3, ?_⟩
    exact (hUB.sm hn hj hB hs).shift.congr (fun j i hi => by have q : ¬ i = 19 := Nat.ne_of_lt hi; simp [U1, q]) (fun i hi => by have q : ¬ i = 19 := Nat.ne_of_lt hi; simp [H1, q])
  · have eu : u1 u = u + 1 := if_neg e
    rw [eu]
    have x0 : U1 u U so wh sk hg 0 u = so := by simp [U1, e]
    have x1 : U1 u U so wh sk hg 1 u = wh := by simp [U1, e]
    have x2 : U1 u U so wh sk hg 2 u = sk := by simp [U1, e]
    have x3 : U1 u U so wh sk hg 3 u = hg := by simp [U1, e]
    have xh : H1 u Hs S u = S := by simp [H1, e]
    rw [UB, x0, x1, x2, x3, xh]
    refine ⟨hC.sm hs hj, hH3, ?_⟩
    exact (hUB.sm hn hj hB hs).congr (fun j i hi => by unfold U1; rw [if_neg (by rw [if_neg e]; omega), if_neg e]) (fun i hi => by unfold H1; rw [if_neg (by rw [if_neg e]; omega), if_neg e])
/-- the class stands for: plan P, state S, image SI (where there is one), m told T known by kn, u states Hs to go back to; heights up to B -/
def CI (I : IM) (J : JM) (P : Pl) (S : SM) (im : Bool) (SI : SM) (m : Nat) (T : SM) (kn : Int32) (u : Nat) (Hs : Nat → SM) (B : Nat) : Prop :=
  RP I 33 P ∧ wfP P ∧ RC I J 62 (P.1 1) S ∧ HC I 62 (P.1 1) B ∧ I 0 8 = bI im ∧ (im = true → RC I J 78 (P.1 1) SI ∧ HC I 78 (P.1 1) B) ∧ RT I 86 m T kn ∧ UV I J (P.1 1) B u Hs
/-- of what a question may change: days' own, names, the pile, the trial, the rows -/
def FQ (I : IM) (J : JM) (I' : IM) (J' : JM) : Prop := (∀ c, c ≠ 60 → c ≠ 61 → (c < 70 ∨ 77 < c) → c ≠ 100 → c ≠ 101 → I' c = I c) ∧ ∀ c, c ≠ 59 → c ≠ 70 → J' c = J c
theorem RT.frame {I I' : IM} {b m : Nat} {T : SM} {kn : Int32} (h : RT I b m T kn) (hf : ∀ c, b ≤ c → c ≤ b + 6 → I' c = I c) : RT I' b m T kn := by
  obtain ⟨h1, h2, h3, h4, h5⟩ := h
  refine ⟨?_, ?_, h3, fun j hj i hi => ?_, ?_⟩
  · rw [hf _ (by omega) (by omega)]; exact h1
  · rw [hf _ (by omega) (by omega)]; exact h2
  · rw [hf _ (by omega) (by omega)]; exact h4 j hj i hi
  · rw [hf _ (by omega) (by omega)]; exact h5
theorem RU.frame {I I' : IM} {b m : Nat} {U : SM} (h : RU I b m U) (hf : ∀ c, b ≤ c → c ≤ b + 6 → I' c = I c) : RU I' b m U := by
  obtain ⟨h1, h2, h3, h4⟩ := h
  refine ⟨?_, ?_, h3, fun j hj i hi => ?_⟩
  · rw [hf _ (by omega) (by omega)]; exact h1
  · rw [hf _ (by omega) (by omega)]; exact h2
  · rw [hf _ (by omega) (by omega)]; exact h4 j hj i hi
theorem HC.frame {I I' : IM} {s n B : Nat} (h : HC I s n B) (h3 : I' (s + 3) = I (s + 3)) (h4 : I' (s + 4) = I (s + 4)) : HC I' s n B := by
  unfold HC
  rw [h3, h4]
  exact h
theorem CI.frame {I : IM} {J : JM} {P : Pl} {S : SM} {im : Bool} {SI : SM} {m : Nat} {T : SM} {kn : Int32} {u : Nat} {Hs : Nat → SM} {B : Nat} {I' : IM} {J' : JM} (h : CI I J P S im SI m T kn u Hs B) (hf : FQ I J I' J') : CI I' J' P S im SI m T kn u Hs B := by
  obtain ⟨h1, h2, h3, h4, h5, h6, h7, h8⟩ := h
  obtain ⟨f, g⟩ := hf
  refine ⟨h1.frame (fun c a b => f c (by omega) (by omega) (by omega) (by omega) (by omega)), h2, h3.frame (fun c a b => f c (by omega) (by omega) (by omega) (by omega) (by omega)) (by rw [g 62 (by omega) (by omega)]), h4.frame (f _ (by omega) (by omega) (by omega) (by omega) (by omega)) (f _ (by omega) (by omega) (by omega) (by omega) (by omega)), by rw [f 0 (by omega) (by omega) (by omega) (by omega) (by omega)]; exact h5, fun hi => ?_, h7.frame (fun c a b => f c (by omega) (by omega) (by omega) (by omega) (by omega)), (by
    obtain ⟨U, u1, u2⟩ := h8
    refine ⟨U, u1.frame (fun c a b => f c (by omega) (by omega) (by omega) (by omega) (by omega)), u2.sm (by have := h3.2.1; omega) (by rw [g 62 (by omega) (by omega)]) (Nat.le_refl _) ⟨fun r r1 r2 t ht => ?_, fun w hw => ?_, fun k a b => ?_⟩⟩ <;> rw [f _ (by omega) (by omega) (by omega) (by omega) (by omega)])⟩
  obtain ⟨a1, a2⟩ := h6 hi
  exact ⟨a1.frame (fun c a b => f c (by omega) (by omega) (by omega) (by omega) (by omega)) (by rw [g 78 (by omega) (by omega)]), a2.frame (f _ (by omega) (by omega) (by omega) (by omega) (by omega)) (f _ (by omega) (by omega) (by omega) (by omega) (by omega))⟩
/-- bits of those of k from i on that are so -/
def bitF (f : Nat → Bool) : Nat → Nat → Int32 → Int32
  | _, 0, v => v
  | i, k + 1, v => bitF f (i + 1) k (if f i = true then v ||| nI 1 <<< (nI i &&& 31) else v)
section MTin1
variable {l : Launch} {G : GG} {d : Nat} {I : IM} {J : JM} {K : Kt} {Q : Option Value → Hp → Prop} {P : Pl} {S : SM} {im : Bool} {SI : SM} {m : Nat} {T : SM} {kn : Int32} {u : Nat} {Hs : Nat → SM} {B n : Nat}
theorem rAt_P {a s j : Nat} {t : Int32} {f : Nat → Int32} (hs : s < 2 ^ 31) (h : ∀ i, i < s → I (a + 2 + j) i = f i) : rAt I a s j t = if inN s t = true then f t.toNatClampNeg else 0 := by
  unfold rAt
  by_cases c : inN s t = true
  · obtain ⟨i, hi, rfl⟩ := inN_of hs c
    rw [if_pos c, if_pos (of_decide_eq_true c), nI_clamp (by omega), h i hi]
  · rw [if_neg c, if_neg (fun q => c (decide_eq_true q))]
theorem c9_named (hG : GK K) (hR : RP I 33 P) (w x : Int32) : Cp l G (d + 2) m9_named [.ref 0, .int w, .int x] (I, J, K) (.int (if w = nI 0 then fnd (I 36) x (P.1 0) 0 else if w = nI 1 then fnd (I 41) x (P.1 1) 0 else -1)) := by
  obtain ⟨⟨k9, t0, t2, t3, t4, t5, t6, t7, t9, t10, t11, t12⟩, -, -, -, hP, -⟩ := hG
  obtain ⟨h3, q0, q1, q2, q3, q4, r1, r2, r3, r4, r5⟩ := hP
  have g1 := r1.1
  have g2 := r2.1
  refine Cp.of ok9_named rfl (rfl : argL _ _ = [.ref 0, .int w, .int x]) ?_
  refine e_iload_n rfl rfl ?_
  refine sw9_named_1 (fun z => ?_) (fun z => ?_) (fun z0 z1 => ?_)
  · refine e_aload_n rfl rfl ?_
    refine e_getP rfl f9_25 (by assumption) rfl (by assumption) ?_
    refine e_getP rfl f9_108 (by assumption) rfl (by assumption) ?_
    refine e_iload_n rfl rfl ?_
    refine e_callVp (kd := 4) (M2 := m4_rowOf) rfl v9_112 ok4_rowOf (c4_rowOf r1 hR.2.1.1 hR.2.1.2 x) rfl (by assumption) rfl rfl rfl rfl ?_
    refine e_ireturn rfl rfl ?_
    rw [if_pos z]
    exact ⟨rfl, rfl⟩
  · refine e_aload_n rfl rfl ?_
    refine e_getP rfl f9_25 (by assumption) rfl (by assumption) ?_
    refine e_getP rfl f9_118 (by assumption) rfl (by assumption) ?_
    refine e_iload_n rfl rfl ?_
    refine e_callVp (kd := 4) (M2 := m4_rowOf) rfl v9_112 ok4_rowOf (c4_rowOf r2 hR.2.2.1.1 hR.2.2.1.2 x) rfl (by assumption) rfl rfl rfl rfl ?_
    refine e_ireturn rfl rfl ?_
    rw [if_neg (by rw [z]; decide), if_pos z]
    exact ⟨rfl, rfl⟩
  · refine e_iconst rfl ic_m1 ?_
    refine e_ireturn rfl rfl ?_
    rw [if_neg z0, if_neg z1]
    exact ⟨rfl, rfl⟩
theorem c9_fault (hG : GK K) (w : Int32) : Cp l G d m9_fault [.ref 0, .int w] (I, J, K) (.int (if w = nI 0 then I 2 3 else if w = nI 1 then I 2 4 else -1)) := by
  obtain ⟨⟨k9, t0, t2, t3, t4, t5, t6, t7, t9, t10, t11, t12⟩, ⟨-, k2, -⟩, -⟩ := hG
  refine Cp.of ok9_fault rfl (rfl : argL _ _ = [.ref 0, .int w]) ?_
  refine e_iload_n rfl rfl ?_
  refine sw9_fault_1 (fun z => ?_) (fun z => ?_) (fun z0 z1 => ?_)
  · refine e_aload_n rfl rfl ?_
    refine e_getP rfl f9_18 (by assumption) rfl (by assumption) ?_
    refine e_getI rfl f9_87 (by assumption) rfl ?_
    refine e_ireturn rfl rfl ?_
    rw [if_pos z]
    exact ⟨rfl, rfl⟩
  · refine e_aload_n rfl rfl ?_
    refine e_getP rfl f9_18 (by assumption) rfl (by assumption) ?_
    refine e_getI rfl f9_105 (by assumption) rfl ?_
    refine e_ireturn rfl rfl ?_
    rw [if_neg (by rw [z]; decide), if_pos z]
    exact ⟨rfl, rfl⟩
  · refine e_iconst rfl ic_m1 ?_
    refine e_ireturn rfl rfl ?_
    rw [if_neg z0, if_neg z1]
    exact ⟨rfl, rfl⟩
theorem tinsOf_loop (hG : GK K) (hR : RP I 33 P) (hC : RC I J 62 n S) (hn : P.1 1 = n) (kd st : Int32) : ∀ k i v, i + k = n → Q (some (.int (bitF (fun t => decide (S 0 t = st) && decide (P.2 4 t = kd)) i k v))) (I, J, K) → Gw l G (d + 2) m9_tinsOf 5 [.ref 0, .int kd, .int st, .int v, .int (nI i)] [] (I, J, K) Q := by
  obtain ⟨⟨k9, t0, t2, t3, t4, t5, t6, t7, t9, t10, t11, t12⟩, -, -, -, hP, -, hS, -⟩ := hG
  obtain ⟨h3, q0, q1, q2, q3, q4, r1, r2, r3, r4, r5⟩ := hP
  have g2 := r2.1
  obtain ⟨h6, p0, p1, p2, p3, p4, p5, p6, a1, a2, a3, a4, a5, a6, a7⟩ := hS
  have hn7 := hC.1
  have hn8 := hC.2.1
  have z2 : I (33 + 6) 2 = nI n := by rw [← hn]; exact hR.2.2.1.1
  intro k
  induction k with
  | zero =>
    intro i v hi hq
    refine e_iload rfl rfl ?_
    refine e_aload_n rfl rfl ?_
    refine e_getP rfl f9_41 (by assumption) rfl (by assumption) ?_
    refine e_getI rfl f9_160 (by assumption) rfl ?_
    rw [hn7]
    first | refine e_icmp_geN (tgt := 61) rfl rfl (by omega) (by omega) (fun z => ?_) (fun z => ?_) | refine e_icmp_ge (tgt := 61) rfl rfl (fun z => ?_) (fun z => ?_)
    · refine e_iload_n rfl rfl ?_
      refine e_ireturn rfl rfl ?_
      exact hq
    · omega
  | succ k ih =>
    intro i v hi hq
    have e0 : I (62 + 1) i = S 0 i := (hC.2.2.1 i (by omega)).1
    have e4 : I (33 + 6 + 2 + 1) i = P.2 4 i := hR.2.2.2.2.2.2.1 1 (by omega) i (by omega)
    rw [bitF] at hq
    refine e_iload rfl rfl ?_
    refine e_aload_n rfl rfl ?_
    refine e_getP rfl f9_41 (by assumption) rfl (by assumption) ?_
    refine e_getI rfl f9_160 (by assumption) rfl ?_
    rw [hn7]
    first | refine e_icmp_geN (tgt := 61) rfl rfl (by omega) (by omega) (fun z => ?_) (fun z => ?_) | refine e_icmp_ge (tgt := 61) rfl rfl (fun z => ?_) (fun z => ?_)
    · omega
    · refine e_aload_n rfl rfl ?_
      refine e_getP rfl f9_41 (by assumption) rfl (by assumption) ?_
      refine e_getP rfl f9_142 (by assumption) rfl (by assumption) ?_
      refine e_iload rfl rfl ?_
      first | refine e_ialoadN rfl (by assumption) (by omega) (by omega) ?_ | (refine e_iaload rfl (by assumption) ?_ ?_; rotate_left)
      rw [e0]
      refine e_iload_n rfl rfl ?_
      first | refine e_icmp_neN (tgt := 55) rfl rfl (by omega) (by omega) (fun z => ?_) (fun z => ?_) | refine e_icmp_ne (tgt := 55) rfl rfl (fun z => ?_) (fun z => ?_)
      · rw [decide_eq_false (p := S 0 i = st) (by assumption), Bool.false_and] at hq
        first | refine e_inc4 rfl rfl rfl (incN1 _) ?_ | refine e_inc4 rfl rfl rfl rfl ?_
        refine e_goto (tgt := 5) rfl rfl ?_
        exact ih (i + 1) v (by omega) hq
      · rw [decide_eq_true (p := S 0 i = st) (by assumption), Bool.true_and] at hq
        refine e_aload_n rfl rfl ?_
        refine e_getP rfl f9_25 (by assumption) rfl (by assumption) ?_
        refine e_getP rfl f9_118 (by assumption) rfl (by assumption) ?_
        refine e_iload rfl rfl ?_
        refine e_iconst (v := nI 1) rfl ic_1N ?_
        refine e_callVp (kd := 4) (M2 := m4_at) rfl v9_132 ok4_at (c4_at r2 z2 hn8 (by omega) _) rfl (by assumption) rfl rfl rfl rfl ?_
        rw [rAt_nI (by omega) (by omega), e4]
        refine e_iload_n rfl rfl ?_
        first | refine e_icmp_neN (tgt := 55) rfl rfl (by omega) (by omega) (fun z => ?_) (fun z => ?_) | refine e_icmp_ne (tgt := 55) rfl rfl (fun z => ?_) (fun z => ?_)
        · rw [decide_eq_false (by assumption)] at hq
          first | refine e_inc4 rfl rfl rfl (incN1 _) ?_ | refine e_inc4 rfl rfl rfl rfl ?_
          refine e_goto (tgt := 5) rfl rfl ?_
          exact ih (i + 1) v (by omega) hq
        · rw [decide_eq_true (by assumption)] at hq
          refine e_iload_n rfl rfl ?_
          refine e_iconst (v := nI 1) rfl ic_1N ?_
          refine e_iload rfl rfl ?_
          refine e_ishl rfl ?_
          refine e_ior rfl ?_
          refine e_ist3 rfl rfl rfl ?_
          first | refine e_inc4 rfl rfl rfl (incN1 _) ?_ | refine e_inc4 rfl rfl rfl rfl ?_
          refine e_goto (tgt := 5) rfl rfl ?_
          exact ih (i + 1) _ (by omega) hq
/-- TINS (bits) of a KIND that are so -/
def tinsB (P : Pl) (S : SM) (n : Nat) (kd st : Int32) : Int32 := bitF (fun t => decide (S 0 t = st) && decide (P.2 4 t = kd)) 0 n (nI 0)
theorem c9_tinsOf (hG : GK K) (hR : RP I 33 P) (hC : RC I J 62 n S) (hn : P.1 1 = n) (kd st : Int32) : Cp l G (d + 2) m9_tinsOf [.ref 0, .int kd, .int st] (I, J, K) (.int (tinsB P S n kd st)) := by
  refine Cp.of ok9_tinsOf rfl (rfl : argL _ _ = [.ref 0, .int kd, .int st, .null, .null]) ?_
  refine e_iconst (v := nI 0) rfl ic_0N ?_
  refine e_ist3 rfl rfl rfl ?_
  refine e_iconst (v := nI 0) rfl ic_0N ?_
  refine e_ist4 rfl rfl rfl ?_
  exact tinsOf_loop hG hR hC hn kd st n 0 _ (by omega) ⟨rfl, rfl⟩
/-- the answer of kind() -/
def a_kind (P : Pl) (S : SM) (n : Nat) (k w : Int32) : Int32 := if inN (P.1 0) k = true then (if w = nI 0 then P.2 1 k.toNatClampNeg else if w = nI 1 then P.2 2 k.toNatClampNeg else if w = nI 2 then tinsB P S n k 0 else if w = nI 3 then tinsB P S n k (nI 1) else -1) else -1
theorem c4_hasN {a s : Nat} (h4 : (K.2.1 a).1 = 4) (hz : I a 2 = nI s) (t : Int32) : Cp l G d m4_has [.ref a, .int t] (I, J, K) (.int (bI (inN s t))) := by
  have h := c4_has (l := l) (G := G) (d := d) (I := I) (J := J) h4 t
  rw [hz] at h
  exact h
theorem c9_kind (hG : GK K) (hR : RP I 33 P) (hC : RC I J 62 n S) (hn : P.1 1 = n) (k w : Int32) : Cp l G (d + 3) m9_kind [.ref 0, .int k, .int w] (I, J, K) (.int (a_kind P S n k w)) := by
  have hG2 := hG
  obtain ⟨⟨k9, t0, t2, t3, t4, t5, t6, t7, t9, t10, t11, t12⟩, -, -, -, hP, -, hS, -⟩ := hG2
  obtain ⟨h3, q0, q1, q2, q3, q4, r1, r2, r3, r4, r5⟩ := hP
  have g1 := r1.1
  have b1 := hR.2.1.2
  refine Cp.of ok9_kind rfl (rfl : argL _ _ = [.ref 0, .int k, .int w]) ?_
  refine e_aload_n rfl rfl ?_
  refine e_getP rfl f9_25 (by assumption) rfl (by assumption) ?_
  refine e_getP rfl f9_108 (by assumption) rfl (by assumption) ?_
  refine e_iload_n rfl rfl ?_
  refine e_callVp (kd := 4) (M2 := m4_has) rfl v9_156 ok4_has (c4_hasN g1 hR.2.1.1 k) rfl (by assumption) rfl rfl rfl rfl ?_
  first | refine e_if_neB (tgt := 16) rfl rfl (fun z => ?_) (fun z => ?_) | refine e_if_neN (tgt := 16) rfl rfl (by omega) (fun z => ?_) (fun z => ?_) | refine e_if_ne (tgt := 16) rfl rfl (fun z => ?_) (fun z => ?_)
  · have hin : inN (P.1 0) k = true := by assumption
    rw [a_kind, if_pos hin]
    refine e_iload_n rfl rfl ?_
    refine sw9_kind_17 (fun z => ?_) (fun z => ?_) (fun z => ?_) (fun z => ?_) (fun z0 z1 z2 z3 => ?_)
    · refine e_aload_n rfl rfl ?_
      refine e_getP rfl f9_25 (by assumption) rfl (by assumption) ?_
      refine e_getP rfl f9_108 (by assumption) rfl (by assumption) ?_
      refine e_iload_n rfl rfl ?_
      refine e_iconst (v := nI 1) rfl ic_1N ?_
      refine e_callVp (kd := 4) (M2 := m4_at) rfl v9_132 ok4_at (c4_at r1 hR.2.1.1 b1 (by omega) _) rfl (by assumption) rfl rfl rfl rfl ?_
      refine e_ireturn rfl rfl ?_
      rw [rAt_P (f := P.2 1) (by omega) (fun i hi => hR.2.2.2.2.2.1 1 (by omega) i hi), if_pos hin, if_pos z]
      exact ⟨rfl, rfl⟩
    · refine e_aload_n rfl rfl ?_
      refine e_getP rfl f9_25 (by assumption) rfl (by assumption) ?_
      refine e_getP rfl f9_108 (by assumption) rfl (by assumption) ?_
      refine e_iload_n rfl rfl ?_
      refine e_iconst (v := nI 2) rfl ic_2N ?_
      refine e_callVp (kd := 4) (M2 := m4_at) rfl v9_132 ok4_at (c4_at r1 hR.2.1.1 b1 (by omega) _) rfl (by assumption) rfl rfl rfl rfl ?_
      refine e_ireturn rfl rfl ?_
      rw [rAt_P (f := P.2 2) (by omega) (fun i hi => hR.2.2.2.2.2.1 2 (by omega) i hi), if_pos hin, if_neg (by rw [z]; decide), if_pos z]
      exact ⟨rfl, rfl⟩
    · refine e_aload_n rfl rfl ?_
      refine e_iload_n rfl rfl ?_
      refine e_iconst (v := nI 0) rfl ic_0N ?_
      refine e_callVp (kd := 9) (M2 := m9_tinsOf) rfl v9_157 ok9_tinsOf (c9_tinsOf hG hR hC hn _ _) rfl (by assumption) rfl rfl rfl rfl ?_
      refine e_ireturn rfl rfl ?_
      rw [if_neg (by rw [z]; decide), if_neg (by rw [z]; decide), if_pos z]
      exact ⟨rfl, rfl⟩
    · refine e_aload_n rfl rfl ?_
      refine e_iload_n rfl rfl ?_
      refine e_iconst (v := nI 1) rfl ic_1N ?_
      refine e_callVp (kd := 9) (M2 := m9_tinsOf) rfl v9_157 ok9_tinsOf (c9_tinsOf hG hR hC hn _ _) rfl (by assumption) rfl rfl rfl rfl ?_
      refine e_ireturn rfl rfl ?_
      rw [if_neg (by rw [z]; decide), if_neg (by rw [z]; decide), if_neg (by rw [z]; decide), if_pos z]
      exact ⟨rfl, rfl⟩
    · refine e_iconst rfl ic_m1 ?_
      refine e_ireturn rfl rfl ?_
      rw [if_neg z0, if_neg z1, if_neg z2, if_neg z3]
      exact ⟨rfl, rfl⟩
  · refine e_iconst rfl ic_m1 ?_
    refine e_ireturn rfl rfl ?_
    rw [a_kind, if_neg (by rw [z]; decide)]
    exact ⟨rfl, rfl⟩
/-- the answer of want() -/
def a_want (P : Pl) (S : SM) (k w : Int32) : Int32 := if inN (P.1 3) k = true then (if w = nI 0 then P.2 10 k.toNatClampNeg else if w = nI 1 then P.2 11 k.toNatClampNeg else if w = nI 2 then P.2 12 k.toNatClampNeg else if w = nI 3 then S 6 k.toNatClampNeg else -1) else -1
theorem c9_want (hG : GK K) (hR : RP I 33 P) (hC : RC I J 62 n S) (k w : Int32) : Cp l G (d + 3) m9_want [.ref 0, .int k, .int w] (I, J, K) (.int (a_want P S k w)) := by
  have hG2 := hG
  obtain ⟨⟨k9, t0, t2, t3, t4, t5, t6, t7, t9, t10, t11, t12⟩, -, -, -, hP, -, hS, -⟩ := hG2
  obtain ⟨h3, q0, q1, q2, q3, q4, r1, r2, r3, r4, r5⟩ := hP
  obtain ⟨h6, p0, p1, p2, p3, p4, p5, p6, a1, a2, a3, a4, a5, a6, a7⟩ := hS
  have g4 := r4.1
  have z4 := hR.2.2.2.2.1.1
  have b4 := hR.2.2.2.2.1.2
  refine Cp.of ok9_want rfl (rfl : argL _ _ = [.ref 0, .int k, .int w]) ?_
  refine e_aload_n rfl rfl ?_
  refine e_getP rfl f9_25 (by assumption) rfl (by assumption) ?_
  refine e_getP rfl f9_162 (by assumption) rfl (by assumption) ?_
  refine e_iload_n rfl rfl ?_
  refine e_callVp (kd := 4) (M2 := m4_has) rfl v9_156 ok4_has (c4_hasN g4 z4 k) rfl (by assumption) rfl rfl rfl rfl ?_
  first | refine e_if_neB (tgt := 16) rfl rfl (fun z => ?_) (fun z => ?_) | refine e_if_neN (tgt := 16) rfl rfl (by omega) (fun z => ?_) (fun z => ?_) | refine e_if_ne (tgt := 16) rfl rfl (fun z => ?_) (fun z => ?_)
  · have hin : inN (P.1 3) k = true := by assumption
    rw [a_want, if_pos hin]
    refine e_iload_n rfl rfl ?_
    refine sw9_want_17 (fun z => ?_) (fun z => ?_) (fun z => ?_) (fun z => ?_) (fun z0 z1 z2 z3 => ?_)
    · refine e_aload_n rfl rfl ?_
      refine e_getP rfl f9_25 (by assumption) rfl (by assumption) ?_
      refine e_getP rfl f9_162 (by assumption) rfl (by assumption) ?_
      refine e_iload_n rfl rfl ?_
      refine e_iconst (v := nI 0) rfl ic_0N ?_
      refine e_callVp (kd := 4) (M2 := m4_at) rfl v9_132 ok4_at (c4_at r4 z4 b4 (by omega) _) rfl (by assumption) rfl rfl rfl rfl ?_
      refine e_ireturn rfl rfl ?_
      rw [rAt_P (f := P.2 10) (by omega) (fun i hi => hR.2.2.2.2.2.2.2.2.1 0 (by omega) i hi), if_pos hin, if_pos z]
      exact ⟨rfl, rfl⟩
    · refine e_aload_n rfl rfl ?_
      refine e_getP rfl f9_25 (by assumption) rfl (by assumption) ?_
      refine e_getP rfl f9_162 (by assumption) rfl (by assumption) ?_
      refine e_iload_n rfl rfl ?_
      refine e_iconst (v := nI 1) rfl ic_1N ?_
      refine e_callVp (kd := 4) (M2 := m4_at) rfl v9_132 ok4_at (c4_at r4 z4 b4 (by omega) _) rfl (by assumption) rfl rfl rfl rfl ?_
      refine e_ireturn rfl rfl ?_
      rw [rAt_P (f := P.2 11) (by omega) (fun i hi => hR.2.2.2.2.2.2.2.2.1 1 (by omega) i hi), if_pos hin, if_neg (by rw [z]; decide), if_pos z]
      exact ⟨rfl, rfl⟩
    · refine e_aload_n rfl rfl ?_
      refine e_getP rfl f9_25 (by assumption) rfl (by assumption) ?_
      refine e_getP rfl f9_162 (by assumption) rfl (by assumption) ?_
      refine e_iload_n rfl rfl ?_
      refine e_iconst (v := nI 2) rfl ic_2N ?_
      refine e_callVp (kd := 4) (M2 := m4_at) rfl v9_132 ok4_at (c4_at r4 z4 b4 (by omega) _) rfl (by assumption) rfl rfl rfl rfl ?_
      refine e_ireturn rfl rfl ?_
      rw [rAt_P (f := P.2 12) (by omega) (fun i hi => hR.2.2.2.2.2.2.2.2.1 2 (by omega) i hi), if_pos hin, if_neg (by rw [z]; decide), if_neg (by rw [z]; decide), if_pos z]
      exact ⟨rfl, rfl⟩
    · have zw := z
      obtain ⟨j, hj, rfl⟩ := inN_of (by omega) hin
      have e6 : I (62 + 7) j = S 6 j := hC.2.2.2.2.1 j (by omega)
      refine e_aload_n rfl rfl ?_
      refine e_getP rfl f9_41 (by assumption) rfl (by assumption) ?_
      refine e_getP rfl f9_165 (by assumption) rfl (by assumption) ?_
      refine e_iload_n rfl rfl ?_
      first | refine e_ialoadN rfl (by assumption) (by omega) (by omega) ?_ | (refine e_iaload rfl (by assumption) ?_ ?_; rotate_left)
      refine e_ireturn rfl rfl ?_
      rw [e6, if_neg (by rw [zw]; decide), if_neg (by rw [zw]; decide), if_neg (by rw [zw]; decide), if_pos zw, nI_clamp (by omega)]
      exact ⟨rfl, rfl⟩
    · refine e_iconst rfl ic_m1 ?_
      refine e_ireturn rfl rfl ?_
      rw [if_neg z0, if_neg z1, if_neg z2, if_neg z3]
      exact ⟨rfl, rfl⟩
  · refine e_iconst rfl ic_m1 ?_
    refine e_ireturn rfl rfl ?_
    rw [a_want, if_neg (by rw [z]; decide)]
    exact ⟨rfl, rfl⟩
end MTin1
