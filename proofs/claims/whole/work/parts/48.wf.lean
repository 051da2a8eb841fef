/-! ===== what a TEXT that is read tells is in order ===== -/
/-- a number that a TOKEN of NUMBER has -/
def TkV (s : PSt) : Prop := pTk s = nI 23 → ∃ v, v ≤ 1000000 ∧ pVa s = nI v
theorem nmF_le {f : Nat → Nat} : ∀ k i v, v ≤ 1000000 → nmF f k i v ≤ 1000000
  | 0, _, _, h => h
  | k + 1, i, v, h => by
    rw [nmF]
    split
    · exact nmF_le k (i + 1) _ (Nat.min_le_left _ _)
    · exact h
theorem sgT_23 {c x : Nat} (hc : c < 256) : ¬ sgT c x = nI 23 := by
  unfold sgT
  split
  · decide
  · split
    · decide
    · split
      · decide
      · split
        · next h =>
          intro q
          have : c = 23 := (nI_eq (by omega) (by omega)).mp q
          subst this
          exact absurd h (by decide)
        · decide
theorem advA_tv {f : Nat → Nat} {n a : Nat} {va : Int32} (hf : ∀ j, f j < 256) : (advA f n a va).2.1 = nI 23 → ∃ v, v ≤ 1000000 ∧ (advA f n a va).2.2.1 = nI v := by
  unfold advA
  generalize enF isB f (n - a) a = p
  unfold tokA
  split
  · intro q; exact absurd (show nI 0 = nI 23 from q) (by decide)
  · split
    · dsimp only
      split
      · intro q; exact absurd q (by decide)
      · obtain ⟨j, h1, h2⟩ := wdT_tk (v := pkV f p (min 6 (enF isL f (n - p) p - p))) 21 0 (by omega)
        intro q
        rw [h2] at q
        have := (nI_eq (by omega) (by omega)).mp q
        omega
    · split
      · exact fun _ => ⟨_, nmF_le _ _ _ (by omega), rfl⟩
      · exact fun q => absurd q (sgT_23 (hf _))
theorem avS_tv {f : Nat → Nat} {n : Nat} {s s' : PSt} (hf : ∀ j, f j < 256) (h : avS f n s = .inr s') : TkV s' := by
  unfold avS at h
  split at h
  · next c =>
    obtain rfl := Sum.inr.inj h
    intro q
    rw [c] at q
    exact absurd q (by decide)
  · obtain rfl := Sum.inr.inj h
    exact advA_tv hf
/-- signs that join two -/
def isJn (c : Int32) : Bool := decide (c = -20 ∨ c = -21 ∨ c = -42 ∨ c = -43 ∨ c = -45 ∨ c = -47 ∨ c = -60 ∨ c = -61 ∨ c = -62 ∨ c = -256 ∨ c = -257 ∨ c = -258)
def isNm (c : Int32) : Bool := decide (0 ≤ c ∧ c ≤ nI 9999 ∨ -18 ≤ c ∧ c ≤ -12)
/-- how high the pile is behind a KNOT -/
def hs1 (c : Int32) (h : Nat) : Option Nat := if isNm c = true then some (h + 1) else if c = -19 then (if 1 ≤ h then some h else none) else if isJn c = true then (if 2 ≤ h then some (h - 1) else none) else none
def htF (code : Nat → Int32) : Nat → Nat → Nat → Option Nat
  | 0, _, h => some h
  | k + 1, i, h => (hs1 (code i) h).bind (htF code k (i + 1))
theorem htF_add {code : Nat → Int32} : ∀ k k' i h, htF code (k + k') i h = (htF code k i h).bind (htF code k' (i + k))
  | 0, k', i, h => by rw [Nat.zero_add]; rfl
  | k + 1, k', i, h => by
    rw [show k + 1 + k' = (k + k') + 1 by omega, htF, htF]
    cases hs1 (code i) h with
    | none => rfl
    | some h1 =>
      show htF code (k + k') (i + 1) h1 = _
      rw [htF_add k k' (i + 1) h1, show i + 1 + k = i + (k + 1) by omega]
      rfl
theorem htF_congr {code code' : Nat → Int32} (k : Nat) : ∀ i h, (∀ j, i ≤ j → j < i + k → code' j = code j) → htF code' k i h = htF code k i h := by
  induction k with
  | zero => intro i h _; rfl
  | succ k ih =>
    intro i h e
    have e0 := e i (by omega) (by omega)
    show (hs1 (code' i) h).bind (htF code' k (i + 1)) = (hs1 (code i) h).bind (htF code k (i + 1))
    rw [e0]
    cases hs1 (code i) h with
    | none => simp
    | some h1 => exact ih (i + 1) h1 (fun j a b => e j (by omega) (by omega))
/-- the KNOTS laid from s to s' lead from a to b on the pile -/
def Ht (s s' : PSt) (a b : Nat) : Prop := ∀ h, htF ((pP s').2 13) ((pP s').1 4 - (pP s).1 4) ((pP s).1 4) (h + a) = some (h + b)
theorem Ht.tr {s s1 s2 : PSt} {a b c : Nat} (h : Ht s s1 a b) (g : Ht s1 s2 b c) (r1 : Gr s s1) (r : Gr s1 s2) : Ht s s2 a c := by
  intro x
  have l1 := r1.2.2.2.2.1
  have l2 := r.2.2.2.2.1
  rw [show (pP s2).1 4 - (pP s).1 4 = ((pP s1).1 4 - (pP s).1 4) + ((pP s2).1 4 - (pP s1).1 4) by omega, htF_add]
  rw [htF_congr _ _ _ (fun j a b => r.2.2.2.1 j (by omega)), h x]
  show htF _ _ _ _ = _
  rw [show (pP s).1 4 + ((pP s1).1 4 - (pP s).1 4) = (pP s1).1 4 by omega]
  exact g x
theorem Ht.up {s s' : PSt} {a b : Nat} (h : Ht s s' a b) : Ht s s' (a + 1) (b + 1) := fun x => by
  have := h (x + 1)
  rw [show x + 1 + a = x + (a + 1) by omega, show x + 1 + b = x + (b + 1) by omega] at this
  exact this
theorem Ht.same {s s' : PSt} {a : Nat} (e : (pP s').1 4 = (pP s).1 4) : Ht s s' a a := fun x => by rw [e, Nat.sub_self]; rfl
theorem em_ht {s2 : PSt} {v : Int32} {a b : Nat} (hlt : (pP s2).1 4 < 64) (hv : ∀ x, hs1 v (x + a) = some (x + b)) {s3 : PSt} (h : emS v s2 = .inr s3) : Ht s2 s3 a b := by
  unfold emS emP at h
  rw [if_pos hlt] at h
  obtain rfl := Sum.inr.inj h
  intro x
  show htF (u2 (pP s2).2 13 ((pP s2).1 4) v 13) ((pP s2).1 4 + 1 - (pP s2).1 4) ((pP s2).1 4) (x + a) = some (x + b)
  rw [show (pP s2).1 4 + 1 - (pP s2).1 4 = 0 + 1 by omega, htF, u2_at, hv x]
  rfl
theorem em_gr {n : Nat} {s2 : PSt} {v : Int32} (o2 : Okp n s2) {s3 : PSt} (h : emS v s2 = .inr s3) : Gr s2 s3 := by
  unfold emS emP at h
  split at h
  · obtain rfl := Sum.inr.inj h
    refine ⟨rfl, fun k a b => (show (if k = 4 then _ else _) = _ from if_neg a), fun k a => u2_row _ _ a, fun i hi => u2_nk _ _ (by omega), ?_, Nat.le_refl _, o2.2.1, Nat.le_refl _⟩
    show _ ≤ (pP s2).1 4 + 1
    omega
  · obtain rfl := Sum.inr.inj h
    exact (Gb.rf o2).1
theorem jn_hs {v : Int32} (h : isJn v = true) : ∀ x, hs1 v (x + 2) = some (x + 1) := by
  intro x
  have h1 := of_decide_eq_true h
  have n1 : isNm v = false := by
    rcases h1 with rfl | rfl | rfl | rfl | rfl | rfl | rfl | rfl | rfl | rfl | rfl | rfl <;> decide
  have n2 : ¬ v = -19 := by
    rcases h1 with rfl | rfl | rfl | rfl | rfl | rfl | rfl | rfl | rfl | rfl | rfl | rfl <;> decide
  rw [hs1, if_neg (by rw [n1]; decide), if_neg n2, if_pos h, if_pos (by omega)]
  rfl
theorem nm_hs {v : Int32} (h : isNm v = true) : ∀ x, hs1 v (x + 0) = some (x + 1) := by
  intro x
  rw [hs1, if_pos h]
theorem nt_hs : ∀ x, hs1 (-19) (x + 1) = some (x + 1) := by
  intro x
  rw [hs1, if_neg (by decide), if_pos rfl, if_pos (by omega)]
theorem cmp_jn {t : Int32} (ht : t = -1 ∨ ∃ j, j ≤ 258 ∧ t = nI j) (h : isCmp t = true) : isJn (-t) = true := by
  rcases ht with rfl | ⟨j, hj, rfl⟩
  · exact absurd h (by decide)
  · have : ∀ j, j ≤ 258 → isCmp (nI j) = true → isJn (-nI j) = true := by decide +kernel
    exact this j hj h
theorem nam_nm {t : Int32} (h : nI 12 ≤ t ∧ t ≤ nI 18) : isNm (-t) = true := by
  obtain ⟨j, hj, rfl⟩ := nI_of (Int32.not_lt.mpr (Int32.le_trans (nI_pos' (by omega : 12 < 2 ^ 31)) h.1))
  have h1 := (nI_leI (by omega) hj).mp h.1
  have h2 := (nI_leI hj (by omega)).mp h.2
  have : ∀ j, j ≤ 18 → 12 ≤ j → isNm (-nI j) = true := by decide
  exact this j h2 h1
/-- tokens are what advance makes them -/
def TkR (s : PSt) : Prop := (pTk s = -1 ∨ ∃ j, j ≤ 258 ∧ pTk s = nI j) ∧ TkV s
theorem avS_tr {f : Nat → Nat} {n : Nat} {s s' : PSt} (hf : ∀ j, f j < 256) (h : avS f n s = .inr s') : TkR s' := ⟨avS_tk hf h, avS_tv hf h⟩
theorem knS_tr {f : Nat → Nat} {n : Nat} {s s' : PSt} (hf : ∀ j, f j < 256) (h : knS f n s = .inr s') : TkR s' := by
  unfold knS at h
  split at h
  · exact absurd h (by simp [flS])
  · exact avS_tr hf h
theorem emS_tr {v : Int32} {s s' : PSt} (ht : TkR s) (h : emS v s = .inr s') : TkR s' := by
  unfold emS at h
  obtain rfl := Sum.inr.inj h
  exact ht
def HtP (n : Nat) (R : Nat → Nat → PSt → Option PR) : Prop := ∀ lv dp s s', Okp n s → TkR s → R lv dp s = some (.inr s') → TkR s' ∧ (lv ≤ 6 → Ht s s' 0 1) ∧ (7 ≤ lv → Ht s s' 1 1)
theorem loS_ht {f : Nat → Nat} {n : Nat} {R : Nat → Nat → PSt → Option PR} (hf : ∀ j, f j < 256) (hR : ExP n R) (hH : HtP n R) {sub lv dp : Nat} {s s' : PSt} (hs : sub ≤ 6) (hl : 7 ≤ lv) (ho : Okp n s) (hj : isJn (-pTk s) = true) (h : loS f n R sub lv dp s = some (.inr s')) : TkR s' ∧ Ht s s' 1 1 := by
  obtain ⟨s1, h1, h⟩ := obd_inr h
  obtain ⟨s2, h2, h⟩ := obd_inr h
  obtain ⟨s3, h3, h⟩ := obd_inr h
  have h1 := Option.some.inj h1
  have h3 := Option.some.inj h3
  obtain ⟨g, a, e5, e4, b, -⟩ := knS_ok hf ho h1
  have o1 : Okp n s1 := ⟨a, b, by have := ho.2.2; omega⟩
  obtain ⟨g2, o2, l2⟩ := hR _ _ _ _ o1 h2
  obtain ⟨t2, k2, -⟩ := hH _ _ _ _ o1 (knS_tr hf h1) h2
  obtain ⟨lt, -, em⟩ := em_ok (v := -pTk s) hf ho h1 g2 o2
  obtain ⟨g3, o3, l3⟩ := em s3 h3
  obtain ⟨g4, o4, -⟩ := hR _ _ _ _ o3 h
  obtain ⟨t4, -, k4⟩ := hH _ _ _ _ o3 (emS_tr t2 h3) h
  have r3 := em_gr o2 h3
  have e3 : Ht s2 s3 2 1 := em_ht lt (jn_hs hj) h3
  have a1 : Ht s s1 1 1 := Ht.same e4
  exact ⟨t4, (((a1.tr (k2 hs).up g g2.1).tr e3 (g.tr g2.1) r3).tr (k4 hl) ((g.tr g2.1).tr r3) g4.1)⟩
theorem exF_ht {f : Nat → Nat} {n : Nat} {R : Nat → Nat → PSt → Option PR} (hf : ∀ j, f j < 256) (hR : ExP n R) (hH : HtP n R) : HtP n (exF f n R) := by
  intro lv dp s s' ho hT h
  have two : ∀ a b, a ≤ 6 → 7 ≤ b → obd (R a dp s) (R b dp) = some (.inr s') → TkR s' ∧ Ht s s' 0 1 := by
    intro a b ha hb h
    obtain ⟨s1, h1, h2⟩ := obd_inr h
    obtain ⟨g1, o1, l1⟩ := hR _ _ _ _ ho h1
    obtain ⟨g2, o2, -⟩ := hR _ _ _ _ o1 h2
    obtain ⟨t1, k1, -⟩ := hH _ _ _ _ ho hT h1
    obtain ⟨t2, -, k2⟩ := hH _ _ _ _ o1 t1 h2
    exact ⟨t2, (k1 ha).tr (k2 hb) g1.1 g2.1⟩
  have leaf : ∀ v, isNm v = true → some (bnd (knS f n s) (emS v)) = some (.inr s') → TkR s' ∧ Ht s s' 0 1 := by
    intro v hv h
    obtain ⟨s1, h1, h2⟩ := bnd_inr (Option.some.inj h)
    obtain ⟨g, a, e5, e4, b, -⟩ := knS_ok hf ho h1
    have o1 : Okp n s1 := ⟨a, b, by have := ho.2.2; omega⟩
    obtain ⟨lt, -, em⟩ := em_ok (v := v) hf ho h1 (Gb.rf o1) o1
    have a1 : Ht s s1 0 0 := Ht.same e4
    exact ⟨emS_tr (knS_tr hf h1) h2, a1.tr (em_ht lt (nm_hs hv) h2) g (em_gr o1 h2)⟩
  have loop : ∀ sub l2, sub ≤ 6 → 7 ≤ l2 → ∀ (c : Prop) [Decidable c], (c → isJn (-pTk s) = true) → (if c then loS f n R sub l2 dp s else some (.inr s)) = some (.inr s') → TkR s' ∧ Ht s s' 1 1 := by
    intro sub l2 hs hl c _ hc h
    split at h
    · next q => exact loS_ht hf hR hH hs hl ho (hc q) h
    · obtain rfl := Sum.inr.inj (Option.some.inj h); exact ⟨hT, Ht.same rfl⟩
  match lv, h with
  | 0, h =>
    have h : ptS f n R dp s = some (.inr s') := h
    unfold ptS at h
    split at h
    · next c =>
      split at h
      · exact absurd (Option.some.inj h) (by simp [flS])
      · next c2 =>
        obtain ⟨v, hv, ev⟩ := hT.2 c
        have := leaf _ (by
          rw [ev] at c2 ⊢
          exact decide_eq_true (Or.inl ⟨nI_pos' (by omega), Int32.not_lt.mp c2⟩)) h
        exact ⟨this.1, fun _ => this.2, fun q => absurd q (by omega)⟩
    · split at h
      · next c => have := leaf _ (nam_nm c) h; exact ⟨this.1, fun _ => this.2, fun q => absurd q (by omega)⟩
      · split at h
        · split at h
          · exact absurd (Option.some.inj h) (by simp [flS])
          · obtain ⟨s1, h1, h⟩ := obd_inr h
            obtain ⟨s2, h2, h⟩ := obd_inr h
            have h3 := Option.some.inj h
            have h1 := Option.some.inj h1
            obtain ⟨g1, o1, e1⟩ := avS_ok hf ho h1
            obtain ⟨g2, o2, l2⟩ := hR _ _ _ _ o1 h2
            obtain ⟨t2, k2, -⟩ := hH _ _ _ _ o1 (avS_tr hf h1) h2
            unfold exS at h3
            split at h3
            · obtain ⟨g3, o3, e3⟩ := avS_ok hf o2 h3
              have a1 : Ht s s1 0 0 := Ht.same (by rw [show pP s1 = pP s from congrArg Prod.fst e1])
              have a3 : Ht s2 s' 1 1 := Ht.same (by rw [show pP s' = pP s2 from congrArg Prod.fst e3])
              exact ⟨avS_tr hf h3, fun _ => (a1.tr (k2 (by omega)) g1.1 g2.1).tr a3 (g1.1.tr g2.1) g3.1, fun q => absurd q (by omega)⟩
            · exact absurd h3 (by simp [flS])
        · exact absurd (Option.some.inj h) (by simp [flS])
  | 1, h => have := two 0 7 (by omega) (by omega) h; exact ⟨this.1, fun _ => this.2, fun q => absurd q (by omega)⟩
  | 2, h => have := two 1 8 (by omega) (by omega) h; exact ⟨this.1, fun _ => this.2, fun q => absurd q (by omega)⟩
  | 3, h =>
    obtain ⟨s1, h1, h⟩ := obd_inr h
    obtain ⟨g1, o1, l1⟩ := hR _ _ _ _ ho h1
    obtain ⟨t1, k1, -⟩ := hH _ _ _ _ ho hT h1
    unfold cpS at h
    split at h
    · next c =>
      obtain ⟨s2, h2, h⟩ := obd_inr h
      obtain ⟨s3, h3, h⟩ := obd_inr h
      have h2 := Option.some.inj h2
      have h := Option.some.inj h
      obtain ⟨g, a, e5, e4, b, -⟩ := knS_ok hf o1 h2
      have o2 : Okp n s2 := ⟨a, b, by have := o1.2.2; omega⟩
      obtain ⟨g3, o3, l3⟩ := hR _ _ _ _ o2 h3
      obtain ⟨t3, k3, -⟩ := hH _ _ _ _ o2 (knS_tr hf h2) h3
      obtain ⟨lt, -, em⟩ := em_ok (v := -pTk s1) hf o1 h2 g3 o3
      have a2 : Ht s1 s2 1 1 := Ht.same e4
      have e := em_ht lt (jn_hs (cmp_jn t1.1 c)) h
      exact ⟨emS_tr t3 h, fun _ => ((((k1 (by omega)).tr a2 g1.1 g).tr (k3 (by omega)).up (g1.1.tr g) g3.1).tr e ((g1.1.tr g).tr g3.1) (em_gr o3 h)), fun q => absurd q (by omega)⟩
    · obtain rfl := Sum.inr.inj (Option.some.inj h)
      exact ⟨t1, fun _ => k1 (by omega), fun q => absurd q (by omega)⟩
  | 4, h =>
    have h : dnS f n R dp s = some (.inr s') := h
    unfold dnS at h
    split at h
    · obtain ⟨s2, h2, h⟩ := obd_inr h
      obtain ⟨s3, h3, h⟩ := obd_inr h
      have h2 := Option.some.inj h2
      have h := Option.some.inj h
      obtain ⟨g, a, e5, e4, b, -⟩ := knS_ok hf ho h2
      have o2 : Okp n s2 := ⟨a, b, by have := ho.2.2; omega⟩
      obtain ⟨g3, o3, l3⟩ := hR _ _ _ _ o2 h3
      obtain ⟨t3, k3, -⟩ := hH _ _ _ _ o2 (knS_tr hf h2) h3
      obtain ⟨lt, -, em⟩ := em_ok (v := -19) hf ho h2 g3 o3
      have a2 : Ht s s2 0 0 := Ht.same e4
      have e := em_ht lt nt_hs h
      exact ⟨emS_tr t3 h, fun _ => (a2.tr (k3 (by omega)) g g3.1).tr e (g.tr g3.1) (em_gr o3 h), fun q => absurd q (by omega)⟩
    · obtain ⟨t1, k1, -⟩ := hH _ _ _ _ ho hT h
      exact ⟨t1, fun _ => k1 (by omega), fun q => absurd q (by omega)⟩
  | 5, h => have := two 4 9 (by omega) (by omega) h; exact ⟨this.1, fun _ => this.2, fun q => absurd q (by omega)⟩
  | 6, h => have := two 5 10 (by omega) (by omega) h; exact ⟨this.1, fun _ => this.2, fun q => absurd q (by omega)⟩
  | 7, h => have := loop 0 7 (by omega) (by omega) _ (fun q => by rcases q with q | q <;> (rw [q]; decide)) (show (if _ then _ else _) = _ from h); exact ⟨this.1, fun q => absurd q (by omega), fun _ => this.2⟩
  | 8, h => have := loop 1 8 (by omega) (by omega) _ (fun q => by rcases q with q | q <;> (rw [q]; decide)) (show (if _ then _ else _) = _ from h); exact ⟨this.1, fun q => absurd q (by omega), fun _ => this.2⟩
  | 9, h => have := loop 4 9 (by omega) (by omega) _ (fun q => by rw [q]; decide) (show (if _ then _ else _) = _ from h); exact ⟨this.1, fun q => absurd q (by omega), fun _ => this.2⟩
  | 10, h => have := loop 5 10 (by omega) (by omega) _ (fun q => by rw [q]; decide) (show (if _ then _ else _) = _ from h); exact ⟨this.1, fun q => absurd q (by omega), fun _ => this.2⟩
theorem exA_ht {f : Nat → Nat} {n : Nat} (hf : ∀ j, f j < 256) : ∀ k, HtP n (exA f n k)
  | 0 => fun _ _ _ _ _ _ h => absurd h (by simp [exA])
  | k + 1 => exF_ht hf (exA_ok hf k) (exA_ht hf k)
