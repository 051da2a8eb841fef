/-! ===== Parser: LINES ===== -/
theorem fnd_congr {f g : Nat → Int32} {x : Int32} : ∀ n i, (∀ j, i ≤ j → j < i + n → f j = g j) → fnd f x n i = fnd g x n i
  | 0, _, _ => rfl
  | n + 1, i, h => by rw [fnd, fnd, h i (by omega) (by omega), fnd_congr n (i + 1) (fun j a b => h j (by omega) (by omega))]
theorem fnd_in {f : Nat → Int32} {x : Int32} : ∀ n i, ¬ fnd f x n i = -1 → ∃ j, i ≤ j ∧ j < i + n ∧ fnd f x n i = nI j
  | 0, _, h => absurd rfl h
  | n + 1, i, h => by
    rw [fnd] at h ⊢
    by_cases c : f i = x
    · rw [if_pos c]; exact ⟨i, by omega, by omega, rfl⟩
    · rw [if_neg c] at h ⊢
      obtain ⟨j, h1, h2, h3⟩ := fnd_in n (i + 1) h
      exact ⟨j, by omega, by omega, h3⟩
theorem Lz.n0 {I : IM} {f : Nat → Nat} {n : Nat} {s : PSt} (h : Lz I f n (.inr s)) (x : Int32) : fnd (I (3 + 1 + 2)) x ((pP s).1 0) 0 = fnd ((pP s).2 0) x ((pP s).1 0) 0 := fnd_congr _ _ (fun j _ hj => h.2.2.2.1.2.2.2.2.2.1 0 (by omega) j (by omega))
theorem Lz.n1 {I : IM} {f : Nat → Nat} {n : Nat} {s : PSt} (h : Lz I f n (.inr s)) (x : Int32) : fnd (I (3 + 6 + 2)) x ((pP s).1 1) 0 = fnd ((pP s).2 3) x ((pP s).1 1) 0 := fnd_congr _ _ (fun j _ hj => h.2.2.2.1.2.2.2.2.2.2.1 0 (by omega) j (by omega))
theorem mx_fnd {f : Nat → Int32} {x : Int32} {n : Nat} (hn : n ≤ 8) (h : ¬ fnd f x n 0 = -1) : (if fnd f x n 0 < nI 0 then nI 0 else fnd f x n 0) = fnd f x n 0 := by
  obtain ⟨j, h1, h2, h3⟩ := fnd_in n 0 h
  rw [h3]
  exact if_neg (fun q => absurd q (nI_pos (by omega)))
/-- a row written: place k of the w columns of rows a -/
def rwI (I : IM) (a k w : Nat) (v : Nat → Int32) : IM := fun c i => if a + 2 ≤ c ∧ c < a + 2 + w ∧ i = k then v (c - (a + 2)) else I c i
theorem rwI_ne {I : IM} {a k w : Nat} {v : Nat → Int32} {c : Nat} (h : c < a + 2 ∨ a + 2 + w ≤ c) : rwI I a k w v c = I c := by
  funext i
  exact if_neg (by omega)
theorem rwI_nk {I : IM} {a k w : Nat} {v : Nat → Int32} {c i : Nat} (h : i ≠ k) : rwI I a k w v c i = I c i := if_neg (fun q => h q.2.2)
theorem rwI_at {I : IM} {a k w : Nat} {v : Nat → Int32} {c : Nat} (h : c < w) : rwI I a k w v (a + 2 + c) k = v c := by
  unfold rwI
  rw [if_pos ⟨by omega, by omega, rfl⟩]
  congr 1
  omega
theorem rwI_1 {I : IM} {a k w : Nat} {v : Nat → Int32} {x : Int32} (h : v w = x) : u2 (rwI I a k w v) (a + 2 + w) k x = rwI I a k (w + 1) v := by
  funext c i
  by_cases e : c = a + 2 + w ∧ i = k
  · obtain ⟨rfl, rfl⟩ := e
    rw [u2_at, rwI_at (by omega)]
    exact h.symm
  · unfold u2 rwI
    rw [if_neg e]
    by_cases g : a + 2 ≤ c ∧ c < a + 2 + w ∧ i = k
    · rw [if_pos g, if_pos ⟨g.1, by omega, g.2.2⟩]
    · rw [if_neg g, if_neg (by omega)]
theorem rwI_0 {I : IM} {a k : Nat} (v : Nat → Int32) : I = rwI I a k 0 v := by
  funext c i
  exact (if_neg (by omega)).symm
/-- a new row: its count, its numbers -/
def adI (I : IM) (a q m w : Nat) (v : Nat → Int32) : IM := rwI (if m ≤ q then I else u2 I a 2 (nI (q + 1))) a ((if m ≤ q then q else q + 1) - 1) w v
theorem adI_fr {I : IM} {a q m w : Nat} {v : Nat → Int32} {c : Nat} (h : c ≠ a) (h2 : c < a + 2 ∨ a + 2 + w ≤ c) : adI I a q m w v c = I c := by
  unfold adI
  rw [rwI_ne h2]
  split
  · rfl
  · exact u2_row _ _ h
theorem adI_a {I : IM} {a q m w : Nat} {v : Nat → Int32} (hz : I a 2 = nI q) (hq : q ≤ m) : ∃ q2, q2 ≤ m ∧ adI I a q m w v a 2 = nI q2 := by
  unfold adI
  rw [rwI_ne (by omega)]
  by_cases c : m ≤ q
  · rw [if_pos c]; exact ⟨q, hq, hz⟩
  · rw [if_neg c, u2_at]; exact ⟨q + 1, by omega, rfl⟩
theorem adI_0 {I : IM} {a q m w : Nat} {v : Nat → Int32} : adI I a q m w v a 0 = I a 0 := by
  unfold adI
  rw [rwI_ne (by omega)]
  split
  · rfl
  · exact u2_nk _ _ (by omega)
section MLine
variable {l : Launch} {G : GG} {d : Nat} {I : IM} {J : JM} {K : Kt} {Q : Option Value → Hp → Prop} {f : Nat → Nat} {n : Nat} {zz : PR}
theorem Lz.ad0 (hz : Lz I f n zz) {q : Nat} (hs : I (3 + 1) 2 = nI q) (hq : q ≤ 6) (hj : ∀ s, zz = .inr s → q = (pP s).1 0 ∧ q < 6) (v : Nat → Int32) : Lz (adI I (3 + 1) q 6 3 v) f n (bnd zz (fun s => .inr (stP s (adP (pP s) 0 0 3 v)))) := by
  cases zz with
  | inl e =>
    obtain ⟨h1, h2, h3, h4, ⟨a, va, pl, h5⟩, h6⟩ := hz
    obtain ⟨m, t1, t2, t3, t4, t5, t6⟩ := h6
    exact ⟨h1, h2, by rw [adI_fr (by omega) (by omega)]; exact h3, by rw [adI_fr (by omega) (by omega)]; exact h4, ⟨a, va, pl, h5.frame (adI_fr (by omega) (by omega)) (adI_fr (by omega) (by omega)) (adI_fr (by omega) (by omega))⟩, ⟨adI_0.trans m.1, by rw [adI_fr (by omega) (by omega)]; exact m.2.1, by rw [adI_fr (by omega) (by omega)]; exact m.2.2.1, by rw [adI_fr (by omega) (by omega)]; exact m.2.2.2⟩, adI_a hs hq, by rw [adI_fr (by omega) (by omega)]; exact t2, by rw [adI_fr (by omega) (by omega)]; exact t3, by rw [adI_fr (by omega) (by omega)]; exact t4, by rw [adI_fr (by omega) (by omega)]; exact t5, by rw [adI_fr (by omega) (by omega)]; exact t6⟩
  | inr s =>
    obtain ⟨h1, h2, h3, h4, h5, h6, h7⟩ := hz
    obtain ⟨rfl, hlt⟩ := hj s rfl
    have eI : adI I (3 + 1) ((pP s).1 0) 6 3 v = rwI (u2 I (3 + 1) 2 (nI ((pP s).1 0 + 1))) (3 + 1) ((pP s).1 0) 3 v := by unfold adI; rw [if_neg (by omega), if_neg (by omega)]; rfl
    refine ⟨by rw [adI_fr (by omega) (by omega)]; exact h1, by rw [adI_fr (by omega) (by omega)]; exact h2, h3.frame (adI_fr (by omega) (by omega)) (adI_fr (by omega) (by omega)) (adI_fr (by omega) (by omega)), h4.ad0 hlt adI_0 ?_ ?_ ?_ (fun c a b => adI_fr a (by omega)), h5, by rw [adI_fr (by omega) (by omega)]; exact h6, by rw [adI_fr (by omega) (by omega)]; exact h7⟩
    · rw [eI, rwI_ne (by omega), u2_at]
    · intro c hc; rw [eI]; exact rwI_at hc
    · intro c i hc hi; rw [eI, rwI_nk hi, u2_ne _ _ (by omega)]
theorem Lz.ad1 (hz : Lz I f n zz) {q : Nat} (hs : I (3 + 6) 2 = nI q) (hq : q ≤ 8) (hj : ∀ s, zz = .inr s → q = (pP s).1 1 ∧ q < 8) (v : Nat → Int32) : Lz (adI I (3 + 6) q 8 5 v) f n (bnd zz (fun s => .inr (stP s (adP (pP s) 1 3 5 v)))) := by
  cases zz with
  | inl e =>
    obtain ⟨h1, h2, h3, h4, ⟨a, va, pl, h5⟩, h6⟩ := hz
    obtain ⟨m, t1, t2, t3, t4, t5, t6⟩ := h6
    exact ⟨h1, h2, by rw [adI_fr (by omega) (by omega)]; exact h3, by rw [adI_fr (by omega) (by omega)]; exact h4, ⟨a, va, pl, h5.frame (adI_fr (by omega) (by omega)) (adI_fr (by omega) (by omega)) (adI_fr (by omega) (by omega))⟩, ⟨by rw [adI_fr (by omega) (by omega)]; exact m.1, adI_0.trans m.2.1, by rw [adI_fr (by omega) (by omega)]; exact m.2.2.1, by rw [adI_fr (by omega) (by omega)]; exact m.2.2.2⟩, by rw [adI_fr (by omega) (by omega)]; exact t1, adI_a hs hq, by rw [adI_fr (by omega) (by omega)]; exact t3, by rw [adI_fr (by omega) (by omega)]; exact t4, by rw [adI_fr (by omega) (by omega)]; exact t5, by rw [adI_fr (by omega) (by omega)]; exact t6⟩
  | inr s =>
    obtain ⟨h1, h2, h3, h4, h5, h6, h7⟩ := hz
    obtain ⟨rfl, hlt⟩ := hj s rfl
    have eI : adI I (3 + 6) ((pP s).1 1) 8 5 v = rwI (u2 I (3 + 6) 2 (nI ((pP s).1 1 + 1))) (3 + 6) ((pP s).1 1) 5 v := by unfold adI; rw [if_neg (by omega), if_neg (by omega)]; rfl
    refine ⟨by rw [adI_fr (by omega) (by omega)]; exact h1, by rw [adI_fr (by omega) (by omega)]; exact h2, h3.frame (adI_fr (by omega) (by omega)) (adI_fr (by omega) (by omega)) (adI_fr (by omega) (by omega)), h4.ad1 hlt adI_0 ?_ ?_ ?_ (fun c a b => adI_fr a (by omega)), h5, by rw [adI_fr (by omega) (by omega)]; exact h6, by rw [adI_fr (by omega) (by omega)]; exact h7⟩
    · rw [eI, rwI_ne (by omega), u2_at]
    · intro c hc; rw [eI]; exact rwI_at hc
    · intro c i hc hi; rw [eI, rwI_nk hi, u2_ne _ _ (by omega)]
theorem Lz.ad2 (hz : Lz I f n zz) {q : Nat} (hs : I (3 + 13) 2 = nI q) (hq : q ≤ 10) (hj : ∀ s, zz = .inr s → q = (pP s).1 2 ∧ q < 10) (v : Nat → Int32) : Lz (adI I (3 + 13) q 10 2 v) f n (bnd zz (fun s => .inr (stP s (adP (pP s) 2 8 2 v)))) := by
  cases zz with
  | inl e =>
    obtain ⟨h1, h2, h3, h4, ⟨a, va, pl, h5⟩, h6⟩ := hz
    obtain ⟨m, t1, t2, t3, t4, t5, t6⟩ := h6
    exact ⟨h1, h2, by rw [adI_fr (by omega) (by omega)]; exact h3, by rw [adI_fr (by omega) (by omega)]; exact h4, ⟨a, va, pl, h5.frame (adI_fr (by omega) (by omega)) (adI_fr (by omega) (by omega)) (adI_fr (by omega) (by omega))⟩, ⟨by rw [adI_fr (by omega) (by omega)]; exact m.1, by rw [adI_fr (by omega) (by omega)]; exact m.2.1, adI_0.trans m.2.2.1, by rw [adI_fr (by omega) (by omega)]; exact m.2.2.2⟩, by rw [adI_fr (by omega) (by omega)]; exact t1, by rw [adI_fr (by omega) (by omega)]; exact t2, adI_a hs hq, by rw [adI_fr (by omega) (by omega)]; exact t4, by rw [adI_fr (by omega) (by omega)]; exact t5, by rw [adI_fr (by omega) (by omega)]; exact t6⟩
  | inr s =>
    obtain ⟨h1, h2, h3, h4, h5, h6, h7⟩ := hz
    obtain ⟨rfl, hlt⟩ := hj s rfl
    have eI : adI I (3 + 13) ((pP s).1 2) 10 2 v = rwI (u2 I (3 + 13) 2 (nI ((pP s).1 2 + 1))) (3 + 13) ((pP s).1 2) 2 v := by unfold adI; rw [if_neg (by omega), if_neg (by omega)]; rfl
    refine ⟨by rw [adI_fr (by omega) (by omega)]; exact h1, by rw [adI_fr (by omega) (by omega)]; exact h2, h3.frame (adI_fr (by omega) (by omega)) (adI_fr (by omega) (by omega)) (adI_fr (by omega) (by omega)), h4.ad2 hlt adI_0 ?_ ?_ ?_ (fun c a b => adI_fr a (by omega)), h5, by rw [adI_fr (by omega) (by omega)]; exact h6, by rw [adI_fr (by omega) (by omega)]; exact h7⟩
    · rw [eI, rwI_ne (by omega), u2_at]
    · intro c hc; rw [eI]; exact rwI_at hc
    · intro c i hc hi; rw [eI, rwI_nk hi, u2_ne _ _ (by omega)]
theorem Lz.ad3 (hz : Lz I f n zz) {q : Nat} (hs : I (3 + 17) 2 = nI q) (hq : q ≤ 8) (hj : ∀ s, zz = .inr s → q = (pP s).1 3 ∧ q < 8) (v : Nat → Int32) : Lz (adI I (3 + 17) q 8 3 v) f n (bnd zz (fun s => .inr (stP s (adP (pP s) 3 10 3 v)))) := by
  cases zz with
  | inl e =>
    obtain ⟨h1, h2, h3, h4, ⟨a, va, pl, h5⟩, h6⟩ := hz
    obtain ⟨m, t1, t2, t3, t4, t5, t6⟩ := h6
    exact ⟨h1, h2, by rw [adI_fr (by omega) (by omega)]; exact h3, by rw [adI_fr (by omega) (by omega)]; exact h4, ⟨a, va, pl, h5.frame (adI_fr (by omega) (by omega)) (adI_fr (by omega) (by omega)) (adI_fr (by omega) (by omega))⟩, ⟨by rw [adI_fr (by omega) (by omega)]; exact m.1, by rw [adI_fr (by omega) (by omega)]; exact m.2.1, by rw [adI_fr (by omega) (by omega)]; exact m.2.2.1, adI_0.trans m.2.2.2⟩, by rw [adI_fr (by omega) (by omega)]; exact t1, by rw [adI_fr (by omega) (by omega)]; exact t2, by rw [adI_fr (by omega) (by omega)]; exact t3, adI_a hs hq, by rw [adI_fr (by omega) (by omega)]; exact t5, by rw [adI_fr (by omega) (by omega)]; exact t6⟩
  | inr s =>
    obtain ⟨h1, h2, h3, h4, h5, h6, h7⟩ := hz
    obtain ⟨rfl, hlt⟩ := hj s rfl
    have eI : adI I (3 + 17) ((pP s).1 3) 8 3 v = rwI (u2 I (3 + 17) 2 (nI ((pP s).1 3 + 1))) (3 + 17) ((pP s).1 3) 3 v := by unfold adI; rw [if_neg (by omega), if_neg (by omega)]; rfl
    refine ⟨by rw [adI_fr (by omega) (by omega)]; exact h1, by rw [adI_fr (by omega) (by omega)]; exact h2, h3.frame (adI_fr (by omega) (by omega)) (adI_fr (by omega) (by omega)) (adI_fr (by omega) (by omega)), h4.ad3 hlt adI_0 ?_ ?_ ?_ (fun c a b => adI_fr a (by omega)), h5, by rw [adI_fr (by omega) (by omega)]; exact h6, by rw [adI_fr (by omega) (by omega)]; exact h7⟩
    · rw [eI, rwI_ne (by omega), u2_at]
    · intro c hc; rw [eI]; exact rwI_at hc
    · intro c i hc hi; rw [eI, rwI_nk hi, u2_ne _ _ (by omega)]
theorem kindLine_tail (hK : PK K) (hz : Lz I f n zz) (hj : ∀ s, zz = .inr s → (pP s).1 0 < 6) {x0 x1 x2 : Int32} (kk : ∀ I2, FP I I2 → Lz I2 f n (bnd zz (fun s => .inr (stP s (adP (pP s) 0 0 3 (v3 x0 x1 x2))))) → Gw l G (d + 2) m2_kindLine 85 [.ref 2, .int x0, .int x1, .int x2] [] (I2, J, K) Q) : Gw l G (d + 2) m2_kindLine 39 [.ref 2, .int x0, .int x1, .int x2] [] (I, J, K) Q := by
  have hK2 := hK
  obtain ⟨k2, p20, p21, hP3, k5, p0, a31, p1, a1⟩ := hK2
  obtain ⟨h3, q0, q1, q2, q3, q4, r1, r2, r3, r4, r5⟩ := hP3
  have hx4 := r1.1
  obtain ⟨q, hm, hs, hq, hqj⟩ := hz.r0
  refine e_aload_n rfl rfl ?_
  refine e_getP rfl f2_12 (by assumption) rfl (by assumption) ?_
  refine e_getP rfl f2_91 (by assumption) rfl (by assumption) ?_
  refine e_callV (kd := 4) (M2 := m4_add) rfl v2_107 ok4_add (c4_add r1 hm hs hq) rfl (by assumption) rfl rfl rfl rfl (fun r1 h1 q1 => ?_)
  obtain ⟨rfl, rfl⟩ := q1
  have e0 := rwI_0 (I := if 6 ≤ q then I else u2 I (3 + 1) 2 (nI (q + 1))) (a := 3 + 1) (k := (if 6 ≤ q then q else q + 1) - 1) (v3 x0 x1 x2)
  have z1 : (if 6 ≤ q then I else u2 I (3 + 1) 2 (nI (q + 1))) (3 + 1) 2 = nI (if 6 ≤ q then q else q + 1) := by
    by_cases c : 6 ≤ q
    · rw [if_pos c, if_pos c]; exact hs
    · rw [if_neg c, if_neg c, u2_at]
  have z2 : (if 6 ≤ q then q else q + 1) ≤ 6 ∧ ¬ (if 6 ≤ q then q else q + 1) = 0 := by split <;> omega
  rw [e0]
  have z3 : ∀ w v, rwI (if 6 ≤ q then I else u2 I (3 + 1) 2 (nI (q + 1))) (3 + 1) ((if 6 ≤ q then q else q + 1) - 1) w v (3 + 1) 2 = nI (if 6 ≤ q then q else q + 1) := fun w v => by rw [rwI_ne (by omega)]; exact z1
  refine e_aload_n rfl rfl ?_
  refine e_getP rfl f2_12 (by assumption) rfl (by assumption) ?_
  refine e_getP rfl f2_91 (by assumption) rfl (by assumption) ?_
  refine e_iconst (v := nI 0) rfl ic_0N ?_
  refine e_iload_n rfl rfl ?_
  refine e_callV (kd := 4) (M2 := m4_set) rfl v2_112 ok4_set (c4_set (j := 0) r1 (z3 0 _) z2.1 (by omega) _) rfl (by assumption) rfl rfl rfl rfl (fun r1 h1 q1 => ?_)
  obtain ⟨rfl, rfl⟩ := q1
  rw [if_neg z2.2, rwI_1 (w := 0) (v := v3 x0 x1 x2) (x := x0) rfl]
  refine e_aload_n rfl rfl ?_
  refine e_getP rfl f2_12 (by assumption) rfl (by assumption) ?_
  refine e_getP rfl f2_91 (by assumption) rfl (by assumption) ?_
  refine e_iconst (v := nI 1) rfl ic_1N ?_
  refine e_iload_n rfl rfl ?_
  refine e_callV (kd := 4) (M2 := m4_set) rfl v2_112 ok4_set (c4_set (j := 1) r1 (z3 1 _) z2.1 (by omega) _) rfl (by assumption) rfl rfl rfl rfl (fun r1 h1 q1 => ?_)
  obtain ⟨rfl, rfl⟩ := q1
  rw [if_neg z2.2, rwI_1 (w := 1) (v := v3 x0 x1 x2) (x := x1) rfl]
  refine e_aload_n rfl rfl ?_
  refine e_getP rfl f2_12 (by assumption) rfl (by assumption) ?_
  refine e_getP rfl f2_91 (by assumption) rfl (by assumption) ?_
  refine e_iconst (v := nI 2) rfl ic_2N ?_
  refine e_iload_n rfl rfl ?_
  refine e_callV (kd := 4) (M2 := m4_set) rfl v2_112 ok4_set (c4_set (j := 2) r1 (z3 2 _) z2.1 (by omega) _) rfl (by assumption) rfl rfl rfl rfl (fun r1 h1 q1 => ?_)
  obtain ⟨rfl, rfl⟩ := q1
  rw [if_neg z2.2, rwI_1 (w := 2) (v := v3 x0 x1 x2) (x := x2) rfl]
  exact kk _ (fun c hc => adI_fr (by omega) (by omega)) (hz.ad0 hs hq (fun s e => ⟨hqj s e, by rw [hqj s e]; exact hj s e⟩) _)
theorem tinLine_tail (hK : PK K) (hz : Lz I f n zz) (hj : ∀ s, zz = .inr s → (pP s).1 1 < 8) {x0 x1 x2 x3 x4 : Int32} (kk : ∀ I2, FP I I2 → Lz I2 f n (bnd zz (fun s => .inr (stP s (adP (pP s) 1 3 5 (v5 x0 x1 x2 x3 x4))))) → Gw l G (d + 2) m2_tinLine 132 [.ref 2, .int x0, .int x1, .int x2, .int x3, .int x4] [] (I2, J, K) Q) : Gw l G (d + 2) m2_tinLine 60 [.ref 2, .int x0, .int x1, .int x2, .int x3, .int x4] [] (I, J, K) Q := by
  have hK2 := hK
  obtain ⟨k2, p20, p21, hP3, k5, p0, a31, p1, a1⟩ := hK2
  obtain ⟨h3, q0, q1, q2, q3, q4, r1, r2, r3, r4, r5⟩ := hP3
  have hx4 := r2.1
  obtain ⟨q, hm, hs, hq, hqj⟩ := hz.r1
  refine e_aload_n rfl rfl ?_
  refine e_getP rfl f2_12 (by assumption) rfl (by assumption) ?_
  refine e_getP rfl f2_116 (by assumption) rfl (by assumption) ?_
  refine e_callV (kd := 4) (M2 := m4_add) rfl v2_107 ok4_add (c4_add r2 hm hs hq) rfl (by assumption) rfl rfl rfl rfl (fun r1 h1 q1 => ?_)
  obtain ⟨rfl, rfl⟩ := q1
  have e0 := rwI_0 (I := if 8 ≤ q then I else u2 I (3 + 6) 2 (nI (q + 1))) (a := 3 + 6) (k := (if 8 ≤ q then q else q + 1) - 1) (v5 x0 x1 x2 x3 x4)
  have z1 : (if 8 ≤ q then I else u2 I (3 + 6) 2 (nI (q + 1))) (3 + 6) 2 = nI (if 8 ≤ q then q else q + 1) := by
    by_cases c : 8 ≤ q
    · rw [if_pos c, if_pos c]; exact hs
    · rw [if_neg c, if_neg c, u2_at]
  have z2 : (if 8 ≤ q then q else q + 1) ≤ 8 ∧ ¬ (if 8 ≤ q then q else q + 1) = 0 := by split <;> omega
  rw [e0]
  have z3 : ∀ w v, rwI (if 8 ≤ q then I else u2 I (3 + 6) 2 (nI (q + 1))) (3 + 6) ((if 8 ≤ q then q else q + 1) - 1) w v (3 + 6) 2 = nI (if 8 ≤ q then q else q + 1) := fun w v => by rw [rwI_ne (by omega)]; exact z1
  refine e_aload_n rfl rfl ?_
  refine e_getP rfl f2_12 (by assumption) rfl (by assumption) ?_
  refine e_getP rfl f2_116 (by assumption) rfl (by assumption) ?_
  refine e_iconst (v := nI 0) rfl ic_0N ?_
  refine e_iload_n rfl rfl ?_
  refine e_callV (kd := 4) (M2 := m4_set) rfl v2_112 ok4_set (c4_set (j := 0) r2 (z3 0 _) z2.1 (by omega) _) rfl (by assumption) rfl rfl rfl rfl (fun r1 h1 q1 => ?_)
  obtain ⟨rfl, rfl⟩ := q1
  rw [if_neg z2.2, rwI_1 (w := 0) (v := v5 x0 x1 x2 x3 x4) (x := x0) rfl]
  refine e_aload_n rfl rfl ?_
  refine e_getP rfl f2_12 (by assumption) rfl (by assumption) ?_
  refine e_getP rfl f2_116 (by assumption) rfl (by assumption) ?_
  refine e_iconst (v := nI 1) rfl ic_1N ?_
  refine e_iload_n rfl rfl ?_
  refine e_callV (kd := 4) (M2 := m4_set) rfl v2_112 ok4_set (c4_set (j := 1) r2 (z3 1 _) z2.1 (by omega) _) rfl (by assumption) rfl rfl rfl rfl (fun r1 h1 q1 => ?_)
  obtain ⟨rfl, rfl⟩ := q1
  rw [if_neg z2.2, rwI_1 (w := 1) (v := v5 x0 x1 x2 x3 x4) (x := x1) rfl]
  refine e_aload_n rfl rfl ?_
  refine e_getP rfl f2_12 (by assumption) rfl (by assumption) ?_
  refine e_getP rfl f2_116 (by assumption) rfl (by assumption) ?_
  refine e_iconst (v := nI 2) rfl ic_2N ?_
  refine e_iload_n rfl rfl ?_
  refine e_callV (kd := 4) (M2 := m4_set) rfl v2_112 ok4_set (c4_set (j := 2) r2 (z3 2 _) z2.1 (by omega) _) rfl (by assumption) rfl rfl rfl rfl (fun r1 h1 q1 => ?_)
  obtain ⟨rfl, rfl⟩ := q1
  rw [if_neg z2.2, rwI_1 (w := 2) (v := v5 x0 x1 x2 x3 x4) (x := x2) rfl]
  refine e_aload_n rfl rfl ?_
  refine e_getP rfl f2_12 (by assumption) rfl (by assumption) ?_
  refine e_getP rfl f2_116 (by assumption) rfl (by assumption) ?_
  refine e_iconst (v := nI 3) rfl ic_3N ?_
  refine e_iload rfl rfl ?_
  refine e_callV (kd := 4) (M2 := m4_set) rfl v2_112 ok4_set (c4_set (j := 3) r2 (z3 3 _) z2.1 (by omega) _) rfl (by assumption) rfl rfl rfl rfl (fun r1 h1 q1 => ?_)
  obtain ⟨rfl, rfl⟩ := q1
  rw [if_neg z2.2, rwI_1 (w := 3) (v := v5 x0 x1 x2 x3 x4) (x := x3) rfl]
  refine e_aload_n rfl rfl ?_
  refine e_getP rfl f2_12 (by assumption) rfl (by assumption) ?_
  refine e_getP rfl f2_116 (by assumption) rfl (by assumption) ?_
  refine e_iconst (v := nI 4) rfl ic_4N ?_
  refine e_iload rfl rfl ?_
  refine e_callV (kd := 4) (M2 := m4_set) rfl v2_112 ok4_set (c4_set (j := 4) r2 (z3 4 _) z2.1 (by omega) _) rfl (by assumption) rfl rfl rfl rfl (fun r1 h1 q1 => ?_)
  obtain ⟨rfl, rfl⟩ := q1
  rw [if_neg z2.2, rwI_1 (w := 4) (v := v5 x0 x1 x2 x3 x4) (x := x4) rfl]
  exact kk _ (fun c hc => adI_fr (by omega) (by omega)) (hz.ad1 hs hq (fun s e => ⟨hqj s e, by rw [hqj s e]; exact hj s e⟩) _)
theorem openLine_tail (hK : PK K) (hz : Lz I f n zz) (hj : ∀ s, zz = .inr s → (pP s).1 2 < 10) {x0 x1 : Int32} (kk : ∀ I2, FP I I2 → Lz I2 f n (bnd zz (fun s => .inr (stP s (adP (pP s) 2 8 2 (v3 x0 x1 0))))) → Gw l G (d + 2) m2_openLine 65 [.ref 2, .int x0, .int x1] [] (I2, J, K) Q) : Gw l G (d + 2) m2_openLine 31 [.ref 2, .int x0, .int x1] [] (I, J, K) Q := by
  have hK2 := hK
  obtain ⟨k2, p20, p21, hP3, k5, p0, a31, p1, a1⟩ := hK2
  obtain ⟨h3, q0, q1, q2, q3, q4, r1, r2, r3, r4, r5⟩ := hP3
  have hx4 := r3.1
  obtain ⟨q, hm, hs, hq, hqj⟩ := hz.r2
  refine e_aload_n rfl rfl ?_
  refine e_getP rfl f2_12 (by assumption) rfl (by assumption) ?_
  refine e_getP rfl f2_122 (by assumption) rfl (by assumption) ?_
  refine e_callV (kd := 4) (M2 := m4_add) rfl v2_107 ok4_add (c4_add r3 hm hs hq) rfl (by assumption) rfl rfl rfl rfl (fun r1 h1 q1 => ?_)
  obtain ⟨rfl, rfl⟩ := q1
  have e0 := rwI_0 (I := if 10 ≤ q then I else u2 I (3 + 13) 2 (nI (q + 1))) (a := 3 + 13) (k := (if 10 ≤ q then q else q + 1) - 1) (v3 x0 x1 0)
  have z1 : (if 10 ≤ q then I else u2 I (3 + 13) 2 (nI (q + 1))) (3 + 13) 2 = nI (if 10 ≤ q then q else q + 1) := by
    by_cases c : 10 ≤ q
    · rw [if_pos c, if_pos c]; exact hs
    · rw [if_neg c, if_neg c, u2_at]
  have z2 : (if 10 ≤ q then q else q + 1) ≤ 10 ∧ ¬ (if 10 ≤ q then q else q + 1) = 0 := by split <;> omega
  rw [e0]
  have z3 : ∀ w v, rwI (if 10 ≤ q then I else u2 I (3 + 13) 2 (nI (q + 1))) (3 + 13) ((if 10 ≤ q then q else q + 1) - 1) w v (3 + 13) 2 = nI (if 10 ≤ q then q else q + 1) := fun w v => by rw [rwI_ne (by omega)]; exact z1
  refine e_aload_n rfl rfl ?_
  refine e_getP rfl f2_12 (by assumption) rfl (by assumption) ?_
  refine e_getP rfl f2_122 (by assumption) rfl (by assumption) ?_
  refine e_iconst (v := nI 0) rfl ic_0N ?_
  refine e_iload_n rfl rfl ?_
  refine e_callV (kd := 4) (M2 := m4_set) rfl v2_112 ok4_set (c4_set (j := 0) r3 (z3 0 _) z2.1 (by omega) _) rfl (by assumption) rfl rfl rfl rfl (fun r1 h1 q1 => ?_)
  obtain ⟨rfl, rfl⟩ := q1
  rw [if_neg z2.2, rwI_1 (w := 0) (v := v3 x0 x1 0) (x := x0) rfl]
  refine e_aload_n rfl rfl ?_
  refine e_getP rfl f2_12 (by assumption) rfl (by assumption) ?_
  refine e_getP rfl f2_122 (by assumption) rfl (by assumption) ?_
  refine e_iconst (v := nI 1) rfl ic_1N ?_
  refine e_iload_n rfl rfl ?_
  refine e_callV (kd := 4) (M2 := m4_set) rfl v2_112 ok4_set (c4_set (j := 1) r3 (z3 1 _) z2.1 (by omega) _) rfl (by assumption) rfl rfl rfl rfl (fun r1 h1 q1 => ?_)
  obtain ⟨rfl, rfl⟩ := q1
  rw [if_neg z2.2, rwI_1 (w := 1) (v := v3 x0 x1 0) (x := x1) rfl]
  exact kk _ (fun c hc => adI_fr (by omega) (by omega)) (hz.ad2 hs hq (fun s e => ⟨hqj s e, by rw [hqj s e]; exact hj s e⟩) _)
theorem wantLine_tail (hK : PK K) (hz : Lz I f n zz) (hj : ∀ s, zz = .inr s → (pP s).1 3 < 8) {x0 x1 x2 : Int32} (kk : ∀ I2, FP I I2 → Lz I2 f n (bnd zz (fun s => .inr (stP s (adP (pP s) 3 10 3 (v3 x0 x1 x2))))) → Gw l G (d + 2) m2_wantLine 85 [.ref 2, .int x0, .int x1, .int x2] [] (I2, J, K) Q) : Gw l G (d + 2) m2_wantLine 39 [.ref 2, .int x0, .int x1, .int x2] [] (I, J, K) Q := by
  have hK2 := hK
  obtain ⟨k2, p20, p21, hP3, k5, p0, a31, p1, a1⟩ := hK2
  obtain ⟨h3, q0, q1, q2, q3, q4, r1, r2, r3, r4, r5⟩ := hP3
  have hx4 := r4.1
  obtain ⟨q, hm, hs, hq, hqj⟩ := hz.r3
  refine e_aload_n rfl rfl ?_
  refine e_getP rfl f2_12 (by assumption) rfl (by assumption) ?_
  refine e_getP rfl f2_133 (by assumption) rfl (by assumption) ?_
  refine e_callV (kd := 4) (M2 := m4_add) rfl v2_107 ok4_add (c4_add r4 hm hs hq) rfl (by assumption) rfl rfl rfl rfl (fun r1 h1 q1 => ?_)
  obtain ⟨rfl, rfl⟩ := q1
  have e0 := rwI_0 (I := if 8 ≤ q then I else u2 I (3 + 17) 2 (nI (q + 1))) (a := 3 + 17) (k := (if 8 ≤ q then q else q + 1) - 1) (v3 x0 x1 x2)
  have z1 : (if 8 ≤ q then I else u2 I (3 + 17) 2 (nI (q + 1))) (3 + 17) 2 = nI (if 8 ≤ q then q else q + 1) := by
    by_cases c : 8 ≤ q
    · rw [if_pos c, if_pos c]; exact hs
    · rw [if_neg c, if_neg c, u2_at]
  have z2 : (if 8 ≤ q then q else q + 1) ≤ 8 ∧ ¬ (if 8 ≤ q then q else q + 1) = 0 := by split <;> omega
  rw [e0]
  have z3 : ∀ w v, rwI (if 8 ≤ q then I else u2 I (3 + 17) 2 (nI (q + 1))) (3 + 17) ((if 8 ≤ q then q else q + 1) - 1) w v (3 + 17) 2 = nI (if 8 ≤ q then q else q + 1) := fun w v => by rw [rwI_ne (by omega)]; exact z1
  refine e_aload_n rfl rfl ?_
  refine e_getP rfl f2_12 (by assumption) rfl (by assumption) ?_
  refine e_getP rfl f2_133 (by assumption) rfl (by assumption) ?_
  refine e_iconst (v := nI 0) rfl ic_0N ?_
  refine e_iload_n rfl rfl ?_
  refine e_callV (kd := 4) (M2 := m4_set) rfl v2_112 ok4_set (c4_set (j := 0) r4 (z3 0 _) z2.1 (by omega) _) rfl (by assumption) rfl rfl rfl rfl (fun r1 h1 q1 => ?_)
  obtain ⟨rfl, rfl⟩ := q1
  rw [if_neg z2.2, rwI_1 (w := 0) (v := v3 x0 x1 x2) (x := x0) rfl]
  refine e_aload_n rfl rfl ?_
  refine e_getP rfl f2_12 (by assumption) rfl (by assumption) ?_
  refine e_getP rfl f2_133 (by assumption) rfl (by assumption) ?_
  refine e_iconst (v := nI 1) rfl ic_1N ?_
  refine e_iload_n rfl rfl ?_
  refine e_callV (kd := 4) (M2 := m4_set) rfl v2_112 ok4_set (c4_set (j := 1) r4 (z3 1 _) z2.1 (by omega) _) rfl (by assumption) rfl rfl rfl rfl (fun r1 h1 q1 => ?_)
  obtain ⟨rfl, rfl⟩ := q1
  rw [if_neg z2.2, rwI_1 (w := 1) (v := v3 x0 x1 x2) (x := x1) rfl]
  refine e_aload_n rfl rfl ?_
  refine e_getP rfl f2_12 (by assumption) rfl (by assumption) ?_
  refine e_getP rfl f2_133 (by assumption) rfl (by assumption) ?_
  refine e_iconst (v := nI 2) rfl ic_2N ?_
  refine e_iload_n rfl rfl ?_
  refine e_callV (kd := 4) (M2 := m4_set) rfl v2_112 ok4_set (c4_set (j := 2) r4 (z3 2 _) z2.1 (by omega) _) rfl (by assumption) rfl rfl rfl rfl (fun r1 h1 q1 => ?_)
  obtain ⟨rfl, rfl⟩ := q1
  rw [if_neg z2.2, rwI_1 (w := 2) (v := v3 x0 x1 x2) (x := x2) rfl]
  exact kk _ (fun c hc => adI_fr (by omega) (by omega)) (hz.ad3 hs hq (fun s e => ⟨hqj s e, by rw [hqj s e]; exact hj s e⟩) _)
end MLine
