/-! ===== order: rows in their order ===== -/
def L4 (m : Nat) (g : Nat → Nat) : List Nat := (List.range m).map g
def orI (m : Nat) : Nat → (Nat → Nat) → List (List Nat)
  | 0, _ => []
  | k + 1, s => L4 m s :: (if (nxR m s).1 = true then orI m k (nxR m s).2 else [])
def lpF {σ : Type} (h : Nat → σ → σ) : Nat → Nat → σ → σ
  | 0, _, s => s
  | k + 1, i, s => lpF h k (i + 1) (h i s)
def rwF {σ : Type} (m : Nat) (v : Nat → Nat) (st : σ → List Nat → σ) : Nat → Nat → Nat → (Nat → Nat) → σ → σ
  | 0, _, _, g, s => st s (L4 m g)
  | f + 1, k, us, g, s => lpF (fun i s => if us.testBit i = true then s else rwF m v st f (k + 1) (us ||| 2 ^ i) (fun j => if j = k then v i else g j) s) m 0 s
set_option maxRecDepth 100000 in
theorem rw_or {σ : Type} {v : Nat → Nat} {st : σ → List Nat → σ} (s : σ) (g0 : Nat → Nat) (m : Nat) (hm : m ≤ 4) : rwF m v st m 0 0 g0 s = (orI m 24 (fun j => j)).foldl (fun s L => st s (L.map v)) s := by
  rcases (by omega : m = 0 ∨ m = 1 ∨ m = 2 ∨ m = 3 ∨ m = 4) with h | h | h | h | h <;> subst h
  · rfl
  · rfl
  · rfl
  · rfl
  · rfl
theorem nxA_map {m : Nat} {v s : Nat → Nat} (hv : ∀ a b, a < m → b < m → (v a < v b ↔ a < b)) (hs : ∀ j, j < m → s j < m) : ∀ a, a < m → nxA (fun j => v (s j)) a = nxA s a
  | 0, _ => rfl
  | a + 1, h => by
    rw [nxA, nxA, nxA_map hv hs a (by omega)]
    by_cases c : s (a + 1) < s a
    · rw [if_pos c, if_pos ((hv _ _ (hs _ h) (hs _ (by omega))).mpr c)]
    · rw [if_neg c, if_neg (fun q => c ((hv _ _ (hs _ h) (hs _ (by omega))).mp q))]
theorem nxO_map {m : Nat} {v s : Nat → Nat} (hv : ∀ a b, a < m → b < m → (v a < v b ↔ a < b)) (hs : ∀ j, j < m → s j < m) {a : Nat} (ha : a < m) : ∀ o, o < m → nxO (fun j => v (s j)) a o = nxO s a o
  | 0, _ => rfl
  | o + 1, h => by
    rw [nxO, nxO, nxO_map hv hs ha o (by omega)]
    by_cases c : a < o + 1 ∧ s (o + 1) < s a
    · rw [if_pos c, if_pos ⟨c.1, (hv _ _ (hs _ h) (hs _ ha)).mpr c.2⟩]
    · rw [if_neg c, if_neg (fun q => c ⟨q.1, (hv _ _ (hs _ h) (hs _ ha)).mp q.2⟩)]
theorem swp_map {v s : Nat → Nat} (a b : Nat) : swp (fun j => v (s j)) a b = fun j => v (swp s a b j) := by
  funext j
  unfold swp
  split
  · rfl
  · split <;> rfl
theorem rvF_map {v : Nat → Nat} : ∀ k lo hi (s : Nat → Nat), rvF k lo hi (fun j => v (s j)) = fun j => v (rvF k lo hi s j)
  | 0, _, _, _ => rfl
  | k + 1, lo, hi, s => by
    rw [rvF, rvF]
    by_cases c : lo < hi
    · rw [if_pos c, if_pos c, swp_map, rvF_map k]
    · rw [if_neg c, if_neg c]
theorem nx_map {m : Nat} {v s : Nat → Nat} (hv : ∀ a b, a < m → b < m → (v a < v b ↔ a < b)) (hs : ∀ j, j < m → s j < m) : nxR m (fun j => v (s j)) = ((nxR m s).1, fun j => v ((nxR m s).2 j)) := by
  have eA : nxA (fun j => v (s j)) (m - 1) = nxA s (m - 1) := by
    rcases Nat.eq_zero_or_pos m with h | h
    · subst h; rfl
    · exact nxA_map hv hs _ (by omega)
  have lA := nxA_le s (m - 1)
  unfold nxR
  rw [eA]
  by_cases c : nxA s (m - 1) = 0
  · rw [if_pos c, if_pos c]
  · rw [if_neg c, if_neg c, nxO_map hv hs (by omega) _ (by omega), swp_map, rvF_map]
theorem goF_congr {P : Pl} {n m : Nat} {S : SM} {g g' : Nat → Nat} (h : ∀ j, j < m → g j = g' j) : goF P n S m g = goF P n S m g' := by
  unfold goF
  rw [rn_congr (h := dayO P n m g') 20 0 S (fun j _ _ => by
    funext S
    unfold dayO
    by_cases c : j < m
    · rw [if_pos c, if_pos c, h j c]
    · rw [if_neg c, if_neg c])]
def stO (P : Pl) (n : Nat) (S : SM) (m : Nat) (s : Int32 × List Nat) (L : List Nat) : Int32 × List Nat := if s.1 < goF P n S m (fun j => L.getD j 0) then (goF P n S m (fun j => L.getD j 0), L) else s
theorem L4_get {m : Nat} {g : Nat → Nat} {j : Nat} (hj : j < m) : (L4 m g).getD j 0 = g j := by
  unfold L4
  rw [List.getD_eq_getElem?_getD, List.getElem?_map, List.getElem?_range hj]
  rfl
theorem L4_map {m : Nat} {v g : Nat → Nat} : (L4 m g).map v = L4 m (fun j => v (g j)) := by
  unfold L4
  rw [List.map_map]
  rfl
theorem orF_I {P : Pl} {n m : Nat} {S : SM} {v : Nat → Nat} (hv : ∀ a b, a < m → b < m → (v a < v b ↔ a < b)) : ∀ k s mo b Lb, (∀ j, j < m → s j < m) → (∀ j, j < m → b j = Lb.getD j 0) → (orF P n S m k (fun j => v (s j)) mo b).1 = ((orI m k s).foldl (fun s L => stO P n S m s (L.map v)) (mo, Lb)).1 ∧ ∀ j, j < m → (orF P n S m k (fun j => v (s j)) mo b).2 j = ((orI m k s).foldl (fun s L => stO P n S m s (L.map v)) (mo, Lb)).2.getD j 0
  | 0, _, _, _, _, _, hb => ⟨rfl, hb⟩
  | k + 1, s, mo, b, Lb, hs, hb => by
    have eg : goF P n S m (fun j => v (s j)) = goF P n S m (fun j => ((L4 m s).map v).getD j 0) := goF_congr (fun j hj => by rw [L4_map, L4_get hj])
    have eb : ∀ c : Prop, [Decidable c] → ∀ j, j < m → (if c then (fun j => v (s j)) else b) j = (if c then (L4 m s).map v else Lb).getD j 0 := by
      intro c _ j hj
      by_cases q : c
      · rw [if_pos q, if_pos q, L4_map, L4_get hj]
      · rw [if_neg q, if_neg q]; exact hb j hj
    have es : stO P n S m (mo, Lb) ((L4 m s).map v) = (if mo < goF P n S m (fun j => v (s j)) then goF P n S m (fun j => v (s j)) else mo, if mo < goF P n S m (fun j => v (s j)) then (L4 m s).map v else Lb) := by
      unfold stO
      rw [← eg]
      dsimp only
      split <;> rfl
    rw [orF, orI, nx_map hv hs, List.foldl_cons, es]
    dsimp only
    by_cases c : (nxR m s).1 = true
    · rw [if_pos c, if_pos c]
      exact orF_I hv k _ _ _ _ (nxR_lt hs) (eb _)
    · rw [if_neg c, if_neg c]
      exact ⟨rfl, eb _⟩
/-- the best row, both ways -/
theorem or_rw {P : Pl} {n m : Nat} {S : SM} {v : Nat → Nat} (hm : m ≤ 4) (hv : ∀ a b, a < b → b < m → v a < v b) (g0 : Nat → Nat) : (orF P n S m 24 v (-1) (fun _ => 0)).1 = (rwF m v (stO P n S m) m 0 0 g0 (-1, [])).1 ∧ ∀ j, j < m → (orF P n S m 24 v (-1) (fun _ => 0)).2 j = (rwF m v (stO P n S m) m 0 0 g0 (-1, [])).2.getD j 0 := by
  rw [rw_or _ _ m hm]
  refine orF_I (fun a b ha hb => ⟨fun h => ?_, fun h => hv a b h hb⟩) 24 (fun j => j) (-1) (fun _ => 0) [] (fun j hj => hj) (fun j hj => rfl)
  rcases Nat.lt_trichotomy a b with c | c | c
  · exact c
  · rw [c] at h; omega
  · have := hv b a c ha; omega
/-- some row gains 0 at the least -/
theorem or_pos {P : Pl} {n m : Nat} {S : SM} (hQ : wfQ P) : ∀ k g b {mo : Int32}, (mo = -1 ∨ (-1 : Int32) < mo) → (-1 : Int32) < (orF P n S m (k + 1) g mo b).1 := by
  have key : ∀ g (mo : Int32), (mo = -1 ∨ (-1 : Int32) < mo) → (-1 : Int32) < (if mo < goF P n S m g then goF P n S m g else mo) := by
    intro g mo h
    obtain ⟨q, q1, q2⟩ := goF_in (P := P) (n := n) (m := m) (S := S) (g := g) hQ
    have hp : (-1 : Int32) < goF P n S m g := by rw [q2]; exact Int32.lt_of_lt_of_le (by decide) (nI_pos' (by omega))
    by_cases c : mo < goF P n S m g
    · rw [if_pos c]; exact hp
    · rw [if_neg c]
      rcases h with h | h
      · exact absurd (by rw [h]; exact hp) c
      · exact h
  intro k
  induction k with
  | zero =>
    intro g b mo h
    rw [orF]
    split
    · exact key g mo h
    · exact key g mo h
  | succ k ih =>
    intro g b mo h
    rw [orF]
    split
    · exact ih _ _ (Or.inr (key g mo h))
    · exact key g mo h
