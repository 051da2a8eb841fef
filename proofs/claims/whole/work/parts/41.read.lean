/-! ===== what a TEXT tells: a reader, as numbers ===== -/
/-- token: where it ends, what it is, value, place -/
abbrev Tk : Type := Nat × Int32 × Int32 × Nat
/-- the token, the plan, which LINES of those that come but once have come, how many LINES -/
abbrev PSt : Type := Tk × Pl × (Nat → Bool) × Nat
/-- a FAULT and its place, or how far one has come -/
abbrev PR : Type := Sum (Nat × Nat) PSt
def bnd (z : PR) (g : PSt → PR) : PR := match z with
  | .inl e => .inl e
  | .inr s => g s
def pAt (s : PSt) : Nat := s.1.1
def pTk (s : PSt) : Int32 := s.1.2.1
def pVa (s : PSt) : Int32 := s.1.2.2.1
def pPl (s : PSt) : Nat := s.1.2.2.2
def pP (s : PSt) : Pl := s.2.1
def stP (s : PSt) (P : Pl) : PSt := (s.1, P, s.2.2)
def flS (k : Nat) (s : PSt) : PR := .inl (k, pPl s)
def avS (f : Nat → Nat) (n : Nat) (s : PSt) : PR := if pTk s = -1 then .inr s else .inr (advA f n (pAt s) (pVa s), s.2)
def exS (f : Nat → Nat) (n : Nat) (c : Int32) (s : PSt) : PR := if pTk s = c then avS f n s else flS 1 s
def nuS (f : Nat → Nat) (n : Nat) (lo hi : Int32) (s : PSt) : PR := if pTk s = nI 23 then (if pVa s < lo ∨ hi < pVa s then flS 2 s else avS f n s) else flS 1 s
/-- rows j of the plan, their first column b -/
def nnS (f : Nat → Nat) (n j b : Nat) (s : PSt) : PR := if pTk s = nI 22 then (if fnd ((pP s).2 b) (pVa s) ((pP s).1 j) 0 = -1 then avS f n s else flS 3 s) else flS 1 s
def tnS (f : Nat → Nat) (n j b : Nat) (s : PSt) : PR := if pTk s = nI 22 then (if fnd ((pP s).2 b) (pVa s) ((pP s).1 j) 0 = -1 then flS 4 s else avS f n s) else flS 1 s
def roS (f : Nat → Nat) (n j m : Nat) (s : PSt) : PR := if m ≤ (pP s).1 j then flS 2 s else avS f n s
/-- a row more of rows j, whose columns begin at b -/
def adP (P : Pl) (j b w : Nat) (v : Nat → Int32) : Pl := (fun k => if k = j then P.1 j + 1 else P.1 k, fun k i => if b ≤ k ∧ k < b + w ∧ i = P.1 j then v (k - b) else P.2 k i)
def v3 (a b c : Int32) : Nat → Int32 := fun k => if k = 0 then a else if k = 1 then b else c
def v5 (a b c e g : Int32) : Nat → Int32 := fun k => if k = 0 then a else if k = 1 then b else if k = 2 then c else if k = 3 then e else g
def fdS (s : PSt) (j b : Nat) : Int32 := fnd ((pP s).2 b) (pVa s) ((pP s).1 j) 0
def kiS (f : Nat → Nat) (n : Nat) (s : PSt) : PR := bnd (roS f n 0 6 s) fun s1 => bnd (nnS f n 0 0 s1) fun s2 => bnd (nuS f n (nI 1) (nI 99) s2) fun s3 => bnd (nuS f n (nI 0) (nI 9) s3) fun s4 => .inr (stP s4 (adP (pP s4) 0 0 3 (v3 (pVa s1) (pVa s2) (pVa s3))))
def tiS (f : Nat → Nat) (n : Nat) (s : PSt) : PR := bnd (roS f n 1 8 s) fun s1 => bnd (nnS f n 1 3 s1) fun s2 => bnd (tnS f n 0 0 s2) fun s3 => bnd (nuS f n (nI 0) (nI 9) s3) fun s4 => bnd (nuS f n (nI 1) (nI 99) s4) fun s5 => bnd (nuS f n (nI 0) (nI 3) s5) fun s6 => .inr (stP s6 (adP (pP s6) 1 3 5 (v5 (pVa s1) (fdS s2 0 0) (pVa s3) (pVa s4) (pVa s5))))
def mxD (P : Pl) (k : Nat) (v : Int32) : Pl := (P.1, u2 P.2 20 k (if P.2 20 k < v then v else P.2 20 k))
def opS (f : Nat → Nat) (n : Nat) (s : PSt) : PR := bnd (roS f n 2 10 s) fun s1 => bnd (tnS f n 1 3 s1) fun s2 => bnd (nuS f n (nI 0) (nI 99) s2) fun s3 => .inr (stP s3 (mxD (adP (pP s3) 2 8 2 (v3 (fdS s1 1 3) (pVa s2) 0)) 3 (pVa s2)))
def waS (f : Nat → Nat) (n : Nat) (s : PSt) : PR := bnd (roS f n 3 8 s) fun s1 => bnd (tnS f n 0 0 s1) fun s2 => bnd (nuS f n (nI 0) (nI 99) s2) fun s3 => bnd (nuS f n (nI 1) (nI 99) s3) fun s4 => .inr (stP s4 (mxD (adP (pP s4) 3 10 3 (v3 (fdS s1 0 0) (pVa s2) (pVa s3))) 4 (pVa s2)))
/-- a LINE that comes but once, of token t, place q of the plan -/
def onS (f : Nat → Nat) (n t q : Nat) (hi : Int32) (s : PSt) : PR := if s.2.2.1 t = true then flS 3 s else bnd (avS f n (s.1, s.2.1, fun k => s.2.2.1 k || decide (t = k), s.2.2.2)) fun s1 => bnd (nuS f n (nI 0) hi s1) fun s2 => .inr (stP s2 ((pP s2).1, u2 (pP s2).2 20 q (pVa s1)))
/-- a KNOT is counted -/
def knP (P : Pl) : Pl := (fun k => if k = 5 then P.1 5 + 1 else P.1 k, P.2)
def knS (f : Nat → Nat) (n : Nat) (s : PSt) : PR := if 64 ≤ (pP s).1 5 then flS 2 s else avS f n (stP s (knP (pP s)))
def emP (P : Pl) (v : Int32) : Pl := if P.1 4 < 64 then (fun k => if k = 4 then P.1 4 + 1 else P.1 k, u2 P.2 13 (P.1 4) v) else P
def emS (v : Int32) (s : PSt) : PR := .inr (stP s (emP (pP s) v))
def isCmp (t : Int32) : Bool := decide (nI 60 ≤ t ∧ t ≤ nI 62 ∨ nI 256 ≤ t ∧ t ≤ nI 258)
def obd (z : Option PR) (g : PSt → Option PR) : Option PR := match z with
  | none => none
  | some (.inl e) => some (.inl e)
  | some (.inr s) => g s
/-- one KNOT, an E below, the KNOT itself, and on -/
def loS (f : Nat → Nat) (n : Nat) (R : Nat → Nat → PSt → Option PR) (sub lv dp : Nat) (s : PSt) : Option PR := obd (some (knS f n s)) fun s1 => obd (R sub dp s1) fun s2 => obd (some (emS (-pTk s) s2)) (R lv dp)
def ptS (f : Nat → Nat) (n : Nat) (R : Nat → Nat → PSt → Option PR) (dp : Nat) (s : PSt) : Option PR :=
  if pTk s = nI 23 then (if nI 9999 < pVa s then some (flS 2 s) else some (bnd (knS f n s) (emS (pVa s))))
      else if nI 12 ≤ pTk s ∧ pTk s ≤ nI 18 then some (bnd (knS f n s) (emS (-pTk s)))
      else if pTk s = nI 40 then (if 8 ≤ dp then some (flS 2 s) else obd (some (avS f n s)) fun s1 => obd (R 6 (dp + 1) s1) fun s2 => some (exS f n (nI 41) s2))
      else some (flS 1 s)
def cpS (f : Nat → Nat) (n : Nat) (R : Nat → Nat → PSt → Option PR) (dp : Nat) (s1 : PSt) : Option PR := if isCmp (pTk s1) = true then obd (some (knS f n s1)) fun s2 => obd (R 2 dp s2) fun s3 => some (emS (-pTk s1) s3) else some (.inr s1)
def dnS (f : Nat → Nat) (n : Nat) (R : Nat → Nat → PSt → Option PR) (dp : Nat) (s : PSt) : Option PR := if pTk s = nI 19 then obd (some (knS f n s)) fun s1 => obd (R 4 dp s1) fun s2 => some (emS (-19) s2) else R 3 dp s
def l7S (f : Nat → Nat) (n : Nat) (R : Nat → Nat → PSt → Option PR) (dp : Nat) (s : PSt) : Option PR := if pTk s = nI 42 ∨ pTk s = nI 47 then loS f n R 0 7 dp s else some (.inr s)
def l8S (f : Nat → Nat) (n : Nat) (R : Nat → Nat → PSt → Option PR) (dp : Nat) (s : PSt) : Option PR := if pTk s = nI 43 ∨ pTk s = nI 45 then loS f n R 1 8 dp s else some (.inr s)
def l9S (f : Nat → Nat) (n : Nat) (R : Nat → Nat → PSt → Option PR) (dp : Nat) (s : PSt) : Option PR := if pTk s = nI 20 then loS f n R 4 9 dp s else some (.inr s)
def l10S (f : Nat → Nat) (n : Nat) (R : Nat → Nat → PSt → Option PR) (dp : Nat) (s : PSt) : Option PR := if pTk s = nI 21 then loS f n R 5 10 dp s else some (.inr s)
/-- E: 0 part, 1 product, 2 sum, 3 compared, 4 denied, 5 both, 6 either; 7 to 10: the rest of the loops of 1, 2, 5, 6; in dp brackets -/
def exF (f : Nat → Nat) (n : Nat) (R : Nat → Nat → PSt → Option PR) (lv dp : Nat) (s : PSt) : Option PR :=
  match lv with
  | 0 => ptS f n R dp s
  | 1 => obd (R 0 dp s) (R 7 dp)
  | 2 => obd (R 1 dp s) (R 8 dp)
  | 3 => obd (R 2 dp s) (cpS f n R dp)
  | 4 => dnS f n R dp s
  | 5 => obd (R 4 dp s) (R 9 dp)
  | 6 => obd (R 5 dp s) (R 10 dp)
  | 7 => l7S f n R dp s
  | 8 => l8S f n R dp s
  | 9 => l9S f n R dp s
  | 10 => l10S f n R dp s
  | _ => none
def exA (f : Nat → Nat) (n : Nat) : Nat → Nat → Nat → PSt → Option PR
  | 0 => fun _ _ _ => none
  | k + 1 => exF f n (exA f n k)
theorem obd_mono {z z' : Option PR} {g g' : PSt → Option PR} {w : PR} (hz : ∀ w, z = some w → z' = some w) (hg : ∀ s w, g s = some w → g' s = some w) (h : obd z g = some w) : obd z' g' = some w := by
  cases z with
  | none => exact absurd h (by simp [obd])
  | some q =>
    rw [hz q rfl]
    cases q with
    | inl e => exact h
    | inr s => exact hg s w h
theorem obd_some {z : Option PR} {g : PSt → Option PR} {w : PR} (h : obd z g = some w) : (∃ e, z = some (.inl e) ∧ w = .inl e) ∨ ∃ s, z = some (.inr s) ∧ g s = some w := by
  cases z with
  | none => exact absurd h (by simp [obd])
  | some q =>
    cases q with
    | inl e => exact Or.inl ⟨e, rfl, (Option.some.inj h).symm⟩
    | inr s => exact Or.inr ⟨s, rfl, h⟩
theorem loS_mono {f : Nat → Nat} {n : Nat} {R R' : Nat → Nat → PSt → Option PR} (hR : ∀ lv dp s w, R lv dp s = some w → R' lv dp s = some w) {sub lv dp : Nat} {s : PSt} {w : PR} (h : loS f n R sub lv dp s = some w) : loS f n R' sub lv dp s = some w :=
  obd_mono (fun _ q => q) (fun _ _ q => obd_mono (hR _ _ _) (fun _ _ q => obd_mono (fun _ q => q) (hR _ _) q) q) h
theorem exF_mono {f : Nat → Nat} {n : Nat} {R R' : Nat → Nat → PSt → Option PR} (hR : ∀ lv dp s w, R lv dp s = some w → R' lv dp s = some w) {lv dp : Nat} {s : PSt} {w : PR} (h : exF f n R lv dp s = some w) : exF f n R' lv dp s = some w := by
  match lv, h with
  | 0, h =>
    have h : ptS f n R dp s = some w := h
    show ptS f n R' dp s = some w
    unfold ptS at h ⊢
    split
    · next a => rw [if_pos a] at h; exact h
    · next a =>
      rw [if_neg a] at h
      split
      · next b => rw [if_pos b] at h; exact h
      · next b =>
        rw [if_neg b] at h
        split
        · next c =>
          rw [if_pos c] at h
          split
          · next e => rw [if_pos e] at h; exact h
          · next e =>
            rw [if_neg e] at h
            exact obd_mono (fun _ q => q) (fun _ _ q => obd_mono (hR _ _ _) (fun _ _ q => q) q) h
        · next c => rw [if_neg c] at h; exact h
  | 1, h => exact obd_mono (hR _ _ _) (hR _ _) h
  | 2, h => exact obd_mono (hR _ _ _) (hR _ _) h
  | 3, h =>
    refine obd_mono (hR _ _ _) (fun s1 w q => ?_) h
    unfold cpS at q ⊢
    split
    · next a =>
      rw [if_pos a] at q
      exact obd_mono (fun _ q => q) (fun _ _ q => obd_mono (hR _ _ _) (fun _ _ q => q) q) q
    · next a => rw [if_neg a] at q; exact q
  | 4, h =>
    have h : dnS f n R dp s = some w := h
    show dnS f n R' dp s = some w
    unfold dnS at h ⊢
    split
    · next a =>
      rw [if_pos a] at h
      exact obd_mono (fun _ q => q) (fun _ _ q => obd_mono (hR _ _ _) (fun _ _ q => q) q) h
    · next a => rw [if_neg a] at h; exact hR _ _ _ _ h
  | 5, h => exact obd_mono (hR _ _ _) (hR _ _) h
  | 6, h => exact obd_mono (hR _ _ _) (hR _ _) h
  | 7, h =>
    have h : l7S f n R dp s = some w := h
    show l7S f n R' dp s = some w
    unfold l7S at h ⊢
    split
    · next a => rw [if_pos a] at h; exact loS_mono hR h
    · next a => rw [if_neg a] at h; exact h
  | 8, h =>
    have h : l8S f n R dp s = some w := h
    show l8S f n R' dp s = some w
    unfold l8S at h ⊢
    split
    · next a => rw [if_pos a] at h; exact loS_mono hR h
    · next a => rw [if_neg a] at h; exact h
  | 9, h =>
    have h : l9S f n R dp s = some w := h
    show l9S f n R' dp s = some w
    unfold l9S at h ⊢
    split
    · next a => rw [if_pos a] at h; exact loS_mono hR h
    · next a => rw [if_neg a] at h; exact h
  | 10, h =>
    have h : l10S f n R dp s = some w := h
    show l10S f n R' dp s = some w
    unfold l10S at h ⊢
    split
    · next a => rw [if_pos a] at h; exact loS_mono hR h
    · next a => rw [if_neg a] at h; exact h
theorem exA_up {f : Nat → Nat} {n : Nat} : ∀ k lv dp s w, exA f n k lv dp s = some w → exA f n (k + 1) lv dp s = some w
  | 0, _, _, _, _, h => absurd h (by simp [exA])
  | k + 1, lv, dp, s, w, h => exF_mono (exA_up k) h
theorem exA_le {f : Nat → Nat} {n : Nat} {k k' : Nat} (hk : k ≤ k') {lv dp : Nat} {s : PSt} {w : PR} (h : exA f n k lv dp s = some w) : exA f n k' lv dp s = some w := by
  induction hk with
  | refl => exact h
  | step _ ih => exact exA_up _ _ _ _ _ ih
/-- what stays and what grows over an E: KNOTS counted and KNOTS laid alike -/
def Gr (s s' : PSt) : Prop := s'.2.2 = s.2.2 ∧ (∀ k, k ≠ 4 → k ≠ 5 → (pP s').1 k = (pP s).1 k) ∧ (∀ k, k ≠ 13 → (pP s').2 k = (pP s).2 k) ∧ (∀ i, i < (pP s).1 4 → (pP s').2 13 i = (pP s).2 13 i) ∧ (pP s).1 4 ≤ (pP s').1 4 ∧ (pP s).1 5 ≤ (pP s').1 5 ∧ (pP s').1 5 ≤ 64 ∧ pAt s ≤ pAt s'
/-- .. laid just as many as counted -/
def Gb (s s' : PSt) : Prop := Gr s s' ∧ (pP s').1 4 + (pP s).1 5 = (pP s).1 4 + (pP s').1 5
theorem Gr.tr {a b c : PSt} (h : Gr a b) (g : Gr b c) : Gr a c := by
  obtain ⟨h1, h2, h3, h4, h5, h6, h7, h8⟩ := h
  obtain ⟨g1, g2, g3, g4, g5, g6, g7, g8⟩ := g
  exact ⟨g1.trans h1, fun k a b => (g2 k a b).trans (h2 k a b), fun k a => (g3 k a).trans (h3 k a), fun i hi => (g4 i (by omega)).trans (h4 i hi), by omega, by omega, g7, by omega⟩
theorem enF_ge {b : Nat → Bool} {f : Nat → Nat} (k i : Nat) : i ≤ enF b f k i := (enF_in k i).1
theorem enF_gt {b : Nat → Bool} {f : Nat → Nat} {k i : Nat} (hk : 0 < k) (h : b (f i) = true) : i < enF b f k i := by
  obtain ⟨k, rfl⟩ : ∃ q, k = q + 1 := ⟨k - 1, by omega⟩
  rw [enF, if_pos h]
  exact (enF_in k (i + 1)).1
theorem sgT_n0 {c x : Nat} (hc : c < 256) : ¬ sgT c x = nI 0 := by
  unfold sgT
  split
  · decide
  · split
    · decide
    · split
      · decide
      · split
        · next h =>
          intro q
          have : c = 0 := (nI_eq (by omega) (by omega)).mp q
          subst this
          exact absurd h (by decide)
        · decide
theorem wdT_n0 {v : Nat} : ∀ k i, i + k ≤ 21 → ¬ wdT v k i = nI 0
  | 0, _, _ => by rw [wdT]; decide
  | k + 1, i, h => by
    rw [wdT]
    split
    · intro q
      have := (nI_eq (by omega) (by omega)).mp q
      omega
    · exact wdT_n0 k (i + 1) (by omega)
theorem sgT_0 : ∀ c, c < 256 → ¬ nI 256 ≤ sgT c 0 := by decide +kernel
/-- a token ends behind the one before; one that isn't END is not empty -/
theorem advA_at {f : Nat → Nat} {n a : Nat} {va : Int32} (h : a ≤ n) (hf : ∀ j, f j < 256) : a ≤ (advA f n a va).1 ∧ (advA f n a va).1 ≤ n ∧ (¬ (advA f n a va).2.1 = nI 0 → a < (advA f n a va).1) := by
  unfold advA
  have h1 := enF_in (b := isB) (f := f) (n - a) a
  generalize enF isB f (n - a) a = p at h1
  unfold tokA
  split
  · exact ⟨h1.1, by dsimp only; omega, fun q => absurd rfl q⟩
  · next c =>
    split
    · next e =>
      have h2 := enF_in (b := isL) (f := f) (n - p) p
      have h3 := enF_gt (b := isL) (f := f) (k := n - p) (i := p) (by omega) e
      exact ⟨by dsimp only; omega, by dsimp only; omega, fun _ => by dsimp only; omega⟩
    · split
      · next e =>
        have h2 := enF_in (b := isD) (f := f) (n - p) p
        have h3 := enF_gt (b := isD) (f := f) (k := n - p) (i := p) (by omega) e
        exact ⟨by dsimp only; omega, by dsimp only; omega, fun _ => by dsimp only; omega⟩
      · try dsimp only
        by_cases hh : p + 1 < n
        · rw [if_pos hh]
          by_cases e : nI 256 ≤ sgT (f p) (f (p + 1))
          · rw [if_pos e]; exact ⟨by omega, by omega, fun _ => by omega⟩
          · rw [if_neg e]; exact ⟨by omega, by omega, fun _ => by omega⟩
        · rw [if_neg hh, if_neg (sgT_0 _ (hf p))]
          exact ⟨by omega, by omega, fun _ => by omega⟩
theorem avS_gr {f : Nat → Nat} {n : Nat} {s s' : PSt} (hf : ∀ j, f j < 256) (ha : pAt s ≤ n) (h5 : (pP s).1 5 ≤ 64) (h : avS f n s = .inr s') : Gr s s' ∧ s'.2 = s.2 := by
  unfold avS at h
  split at h
  · obtain rfl := Sum.inr.inj h
    exact ⟨⟨rfl, fun _ _ _ => rfl, fun _ _ => rfl, fun _ _ => rfl, Nat.le_refl _, Nat.le_refl _, h5, Nat.le_refl _⟩, rfl⟩
  · obtain rfl := Sum.inr.inj h
    exact ⟨⟨rfl, fun _ _ _ => rfl, fun _ _ => rfl, fun _ _ => rfl, Nat.le_refl _, Nat.le_refl _, h5, (advA_at ha hf).1⟩, rfl⟩
/-- in order: at within the TEXT, KNOTS counted up to 64, no more laid than counted -/
def Okp (n : Nat) (s : PSt) : Prop := pAt s ≤ n ∧ (pP s).1 5 ≤ 64 ∧ (pP s).1 4 ≤ (pP s).1 5
theorem avS_ok {f : Nat → Nat} {n : Nat} {s s' : PSt} (hf : ∀ j, f j < 256) (ho : Okp n s) (h : avS f n s = .inr s') : Gb s s' ∧ Okp n s' ∧ s'.2 = s.2 := by
  obtain ⟨g, e⟩ := avS_gr hf ho.1 ho.2.1 h
  have eP : pP s' = pP s := congrArg Prod.fst e
  refine ⟨⟨g, by rw [eP]⟩, ⟨?_, by rw [eP]; exact ho.2.1, by rw [eP]; exact ho.2.2⟩, e⟩
  unfold avS at h
  split at h
  · obtain rfl := Sum.inr.inj h; exact ho.1
  · obtain rfl := Sum.inr.inj h
    exact (advA_at ho.1 hf).2.1
theorem knS_ok {f : Nat → Nat} {n : Nat} {s s' : PSt} (hf : ∀ j, f j < 256) (ho : Okp n s) (h : knS f n s = .inr s') : Gr s s' ∧ pAt s' ≤ n ∧ (pP s').1 5 = (pP s).1 5 + 1 ∧ (pP s').1 4 = (pP s).1 4 ∧ (pP s').1 5 ≤ 64 ∧ (pP s').2 = (pP s).2 := by
  unfold knS at h
  split at h
  · exact absurd h (by simp [flS])
  · next c =>
    have ho2 : Okp n (stP s (knP (pP s))) := ⟨ho.1, by show (if 5 = 5 then (pP s).1 5 + 1 else (pP s).1 5) ≤ 64; rw [if_pos rfl]; omega, by show (if 4 = 5 then (pP s).1 5 + 1 else (pP s).1 4) ≤ (if 5 = 5 then (pP s).1 5 + 1 else (pP s).1 5); rw [if_pos rfl, if_neg (by omega)]; have := ho.2.2; omega⟩
    obtain ⟨g, o, e⟩ := avS_ok hf ho2 h
    have eP : pP s' = knP (pP s) := congrArg Prod.fst e
    have e5 : (pP s').1 5 = (pP s).1 5 + 1 := by rw [eP]; rfl
    have e4 : (pP s').1 4 = (pP s).1 4 := by rw [eP]; rfl
    refine ⟨⟨(congrArg Prod.snd e : s'.2.2 = (stP s (knP (pP s))).2.2), fun k a b => by rw [eP]; show (if k = 5 then _ else _) = _; exact if_neg b, fun k a => by rw [eP]; rfl, fun i hi => by rw [eP]; rfl, by omega, by omega, by omega, g.1.2.2.2.2.2.2.2⟩, o.1, e5, e4, by omega, by rw [eP]; rfl⟩
/-- a KNOT counted, an E behind it, the KNOT laid -/
theorem em_ok {f : Nat → Nat} {n : Nat} {s s1 s2 : PSt} {v : Int32} (hf : ∀ j, f j < 256) (ho : Okp n s) (h1 : knS f n s = .inr s1) (h2 : Gb s1 s2) (o2 : Okp n s2) : (pP s2).1 4 < 64 ∧ emS v s2 = .inr (stP s2 (fun k => if k = 4 then (pP s2).1 4 + 1 else (pP s2).1 k, u2 (pP s2).2 13 ((pP s2).1 4) v)) ∧ ∀ s3, emS v s2 = .inr s3 → Gb s s3 ∧ Okp n s3 ∧ (pP s).1 5 < (pP s3).1 5 := by
  obtain ⟨g, a, e5, e4, b, -⟩ := knS_ok hf ho h1
  have q1 := h2.2
  have q2 := h2.1.2.2.2.2.2.1
  have q3 := ho.2.2
  have hlt : (pP s2).1 4 < 64 := by have := o2.2.1; omega
  have he : emS v s2 = .inr (stP s2 (fun k => if k = 4 then (pP s2).1 4 + 1 else (pP s2).1 k, u2 (pP s2).2 13 ((pP s2).1 4) v)) := by
    unfold emS emP
    rw [if_pos hlt]
  refine ⟨hlt, he, fun s3 h3 => ?_⟩
  rw [he] at h3
  obtain rfl := Sum.inr.inj h3
  have x5 : (pP (stP s2 (fun k => if k = 4 then (pP s2).1 4 + 1 else (pP s2).1 k, u2 (pP s2).2 13 ((pP s2).1 4) v))).1 5 = (pP s2).1 5 := rfl
  have x4 : (pP (stP s2 (fun k => if k = 4 then (pP s2).1 4 + 1 else (pP s2).1 k, u2 (pP s2).2 13 ((pP s2).1 4) v))).1 4 = (pP s2).1 4 + 1 := rfl
  have g3 : Gr s2 (stP s2 (fun k => if k = 4 then (pP s2).1 4 + 1 else (pP s2).1 k, u2 (pP s2).2 13 ((pP s2).1 4) v)) := by
    refine ⟨rfl, fun k a b => (show (if k = 4 then _ else _) = _ from if_neg a), fun k a => ?_, fun i hi => ?_, by omega, by omega, by rw [x5]; exact o2.2.1, Nat.le_refl _⟩
    · exact u2_row _ _ a
    · exact u2_nk _ _ (by omega)
  refine ⟨⟨(g.tr h2.1).tr g3, by rw [x5, x4]; omega⟩, ⟨o2.1, by rw [x5]; exact o2.2.1, by rw [x5, x4]; have := o2.2.2; omega⟩, by rw [x5]; omega⟩
theorem Gb.tr {a b c : PSt} (h : Gb a b) (g : Gb b c) : Gb a c := ⟨h.1.tr g.1, by have := h.2; have := g.2; omega⟩
theorem Gb.rf {n : Nat} {s : PSt} (h : Okp n s) : Gb s s := ⟨⟨rfl, fun _ _ _ => rfl, fun _ _ => rfl, fun _ _ => rfl, Nat.le_refl _, Nat.le_refl _, h.2.1, Nat.le_refl _⟩, rfl⟩
def ExP (n : Nat) (R : Nat → Nat → PSt → Option PR) : Prop := ∀ lv dp s s', Okp n s → R lv dp s = some (.inr s') → Gb s s' ∧ Okp n s' ∧ (lv ≤ 6 → (pP s).1 5 < (pP s').1 5)
theorem obd_inr {z : Option PR} {g : PSt → Option PR} {w : PSt} (h : obd z g = some (.inr w)) : ∃ s, z = some (.inr s) ∧ g s = some (.inr w) := by
  rcases obd_some h with ⟨e, -, h2⟩ | h
  · exact absurd h2 (by simp)
  · exact h
theorem bnd_inr {z : PR} {g : PSt → PR} {w : PSt} (h : bnd z g = .inr w) : ∃ s, z = .inr s ∧ g s = .inr w := by
  cases z with
  | inl e => exact absurd h (by simp [bnd])
  | inr s => exact ⟨s, rfl, h⟩
theorem loS_ok {f : Nat → Nat} {n : Nat} {R : Nat → Nat → PSt → Option PR} (hf : ∀ j, f j < 256) (hR : ExP n R) {sub lv dp : Nat} {s s' : PSt} (hs : sub ≤ 6) (ho : Okp n s) (h : loS f n R sub lv dp s = some (.inr s')) : Gb s s' ∧ Okp n s' ∧ (pP s).1 5 < (pP s').1 5 := by
  obtain ⟨s1, h1, h⟩ := obd_inr h
  obtain ⟨s2, h2, h⟩ := obd_inr h
  obtain ⟨s3, h3, h⟩ := obd_inr h
  have h1 := Option.some.inj h1
  have h3 := Option.some.inj h3
  obtain ⟨g, a, e5, e4, b, -⟩ := knS_ok hf ho h1
  have o1 : Okp n s1 := ⟨a, b, by have := ho.2.2; omega⟩
  obtain ⟨g2, o2, l2⟩ := hR _ _ _ _ o1 h2
  obtain ⟨-, -, em⟩ := em_ok (v := -pTk s) hf ho h1 g2 o2
  obtain ⟨g3, o3, l3⟩ := em s3 h3
  obtain ⟨g4, o4, -⟩ := hR _ _ _ _ o3 h
  exact ⟨g3.tr g4, o4, by have := g4.1.2.2.2.2.2.1; omega⟩
theorem exF_ok {f : Nat → Nat} {n : Nat} {R : Nat → Nat → PSt → Option PR} (hf : ∀ j, f j < 256) (hR : ExP n R) : ExP n (exF f n R) := by
  intro lv dp s s' ho h
  have two : ∀ a b, a ≤ 6 → obd (R a dp s) (R b dp) = some (.inr s') → Gb s s' ∧ Okp n s' ∧ (pP s).1 5 < (pP s').1 5 := by
    intro a b ha h
    obtain ⟨s1, h1, h2⟩ := obd_inr h
    obtain ⟨g1, o1, l1⟩ := hR _ _ _ _ ho h1
    obtain ⟨g2, o2, -⟩ := hR _ _ _ _ o1 h2
    exact ⟨g1.tr g2, o2, by have := l1 ha; have := g2.1.2.2.2.2.2.1; omega⟩
  have leaf : ∀ v, some (bnd (knS f n s) (emS v)) = some (.inr s') → Gb s s' ∧ Okp n s' ∧ (pP s).1 5 < (pP s').1 5 := by
    intro v h
    obtain ⟨s1, h1, h2⟩ := bnd_inr (Option.some.inj h)
    obtain ⟨g, a, e5, e4, b, -⟩ := knS_ok hf ho h1
    have o1 : Okp n s1 := ⟨a, b, by have := ho.2.2; omega⟩
    obtain ⟨-, -, em⟩ := em_ok (v := v) hf ho h1 (Gb.rf o1) o1
    exact em s' h2
  have loop : ∀ sub l2, sub ≤ 6 → ∀ (c : Prop) [Decidable c], (if c then loS f n R sub l2 dp s else some (.inr s)) = some (.inr s') → Gb s s' ∧ Okp n s' := by
    intro sub l2 hs c _ h
    split at h
    · have := loS_ok hf hR hs ho h; exact ⟨this.1, this.2.1⟩
    · obtain rfl := Sum.inr.inj (Option.some.inj h); exact ⟨Gb.rf ho, ho⟩
  match lv, h with
  | 0, h =>
    have h : ptS f n R dp s = some (.inr s') := h
    unfold ptS at h
    split at h
    · split at h
      · exact absurd (Option.some.inj h) (by simp [flS])
      · have := leaf _ h; exact ⟨this.1, this.2.1, fun _ => this.2.2⟩
    · split at h
      · have := leaf _ h; exact ⟨this.1, this.2.1, fun _ => this.2.2⟩
      · split at h
        · split at h
          · exact absurd (Option.some.inj h) (by simp [flS])
          · obtain ⟨s1, h1, h⟩ := obd_inr h
            obtain ⟨s2, h2, h⟩ := obd_inr h
            have h3 := Option.some.inj h
            obtain ⟨g1, o1, e1⟩ := avS_ok hf ho (Option.some.inj h1)
            obtain ⟨g2, o2, l2⟩ := hR _ _ _ _ o1 h2
            unfold exS at h3
            split at h3
            · obtain ⟨g3, o3, e3⟩ := avS_ok hf o2 h3
              have a1 := g1.1.2.2.2.2.2.1
              have a2 := l2 (by omega)
              have a3 := g3.1.2.2.2.2.2.1
              exact ⟨(g1.tr g2).tr g3, o3, fun _ => by omega⟩
            · exact absurd h3 (by simp [flS])
        · exact absurd (Option.some.inj h) (by simp [flS])
  | 1, h => have := two 0 7 (by omega) h; exact ⟨this.1, this.2.1, fun _ => this.2.2⟩
  | 2, h => have := two 1 8 (by omega) h; exact ⟨this.1, this.2.1, fun _ => this.2.2⟩
  | 3, h =>
    obtain ⟨s1, h1, h⟩ := obd_inr h
    obtain ⟨g1, o1, l1⟩ := hR _ _ _ _ ho h1
    unfold cpS at h
    split at h
    · obtain ⟨s2, h2, h⟩ := obd_inr h
      obtain ⟨s3, h3, h⟩ := obd_inr h
      have h2 := Option.some.inj h2
      obtain ⟨g, a, e5, e4, b, -⟩ := knS_ok hf o1 h2
      have o2 : Okp n s2 := ⟨a, b, by have := o1.2.2; omega⟩
      obtain ⟨g3, o3, l3⟩ := hR _ _ _ _ o2 h3
      obtain ⟨-, -, em⟩ := em_ok (v := -pTk s1) hf o1 h2 g3 o3
      obtain ⟨g4, o4, l4⟩ := em s' (Option.some.inj h)
      exact ⟨g1.tr g4, o4, fun _ => by have := l1 (by omega); omega⟩
    · obtain rfl := Sum.inr.inj (Option.some.inj h)
      exact ⟨g1, o1, fun _ => l1 (by omega)⟩
  | 4, h =>
    have h : dnS f n R dp s = some (.inr s') := h
    unfold dnS at h
    split at h
    · obtain ⟨s2, h2, h⟩ := obd_inr h
      obtain ⟨s3, h3, h⟩ := obd_inr h
      have h2 := Option.some.inj h2
      obtain ⟨g, a, e5, e4, b, -⟩ := knS_ok hf ho h2
      have o2 : Okp n s2 := ⟨a, b, by have := ho.2.2; omega⟩
      obtain ⟨g3, o3, l3⟩ := hR _ _ _ _ o2 h3
      obtain ⟨-, -, em⟩ := em_ok (v := -19) hf ho h2 g3 o3
      obtain ⟨g4, o4, l4⟩ := em s' (Option.some.inj h)
      exact ⟨g4, o4, fun _ => l4⟩
    · obtain ⟨g1, o1, l1⟩ := hR _ _ _ _ ho h
      exact ⟨g1, o1, fun _ => l1 (by omega)⟩
  | 5, h => have := two 4 9 (by omega) h; exact ⟨this.1, this.2.1, fun _ => this.2.2⟩
  | 6, h => have := two 5 10 (by omega) h; exact ⟨this.1, this.2.1, fun _ => this.2.2⟩
  | 7, h => have := loop 0 7 (by omega) _ (show (if _ then _ else _) = _ from h); exact ⟨this.1, this.2, fun q => absurd q (by omega)⟩
  | 8, h => have := loop 1 8 (by omega) _ (show (if _ then _ else _) = _ from h); exact ⟨this.1, this.2, fun q => absurd q (by omega)⟩
  | 9, h => have := loop 4 9 (by omega) _ (show (if _ then _ else _) = _ from h); exact ⟨this.1, this.2, fun q => absurd q (by omega)⟩
  | 10, h => have := loop 5 10 (by omega) _ (show (if _ then _ else _) = _ from h); exact ⟨this.1, this.2, fun q => absurd q (by omega)⟩
theorem exA_ok {f : Nat → Nat} {n : Nat} (hf : ∀ j, f j < 256) : ∀ k, ExP n (exA f n k)
  | 0 => fun _ _ _ _ _ h => absurd h (by simp [exA])
  | k + 1 => exF_ok hf (exA_ok hf k)
