/-! ===== days, as numbers: the plan P, the state S ===== -/
/-- v within bounds, wo for an ERROR -/
def wn (v : Int64) (lo hi wo : Int32) : Int32 := if v = MINL then wo else (if (if v < hi.toInt64 then v else hi.toInt64) < lo.toInt64 then lo.toInt64 else (if v < hi.toInt64 then v else hi.toInt64)).toInt32
abbrev SM : Type := Nat → Nat → Int32
/-- the NAMES of a TIN, with a WORTH -/
def nmS (P : Pl) (S : SM) (t : Nat) (wo : Int32) : Nat → Int32 := fun k => if k = 0 then S 1 t else if k = 1 then P.2 6 t else if k = 2 then P.2 1 (P.2 4 t).toNatClampNeg else if k = 3 then P.2 2 (P.2 4 t).toNatClampNeg else if k = 4 then wo else if k = 5 then S 4 t else S 8 0
def lawP (P : Pl) (w : Nat) (nm : Nat → Int32) : Int64 := lawV (P.2 16 0) (P.2 13) (P.2 14) (P.2 15) nm w
/-- CLOSED ones above t -/
def abS (S : SM) (t u : Nat) : Bool := decide (S 0 u = 0) && decide (S (100 + t) u = 1)
def topS (S : SM) (n t : Nat) : Bool := decide (S 0 t = 0) && decide (cnt (abS S t) n = 0)
def unsS (P : Pl) (S : SM) (t : Nat) : SM := u2 (u2 (u2 S 0 t (nI 1)) 9 0 (S 9 0 - nI 1)) 4 t (wn (lawP P 0 (nmS P S t 0)) (nI 1) (nI 9) (nI 3))
/-- one open told -/
def ot1 (P : Pl) (way sp : Int32) (n : Nat) (S : SM) (i : Nat) : SM :=
  if P.2 9 i = S 8 0 ∧ ¬ (way = nI 2 ∧ P.2 8 i = sp) then
    (if 0 < S 9 0 ∧ (if way = nI 3 then decide (S 0 (P.2 8 i).toNatClampNeg = 0) else topS S n (P.2 8 i).toNatClampNeg) = true then unsS P S (P.2 8 i).toNatClampNeg else u2 S 13 0 (S 13 0 + nI 1))
  else S
def otS (P : Pl) (way sp : Int32) (n : Nat) : Nat → Nat → SM → SM
  | _, 0, S => S
  | i, k + 1, S => otS P way sp n (i + 1) k (ot1 P way sp n S i)
/-- who serves: the first OPEN one of a KIND that isn't busy, from t on; -1 without -/
def srv (P : Pl) (S : SM) (kd busy : Int32) : Nat → Nat → Int32
  | _, 0 => -1
  | t, k + 1 => if S 0 t = nI 1 ∧ P.2 4 t = kd ∧ bitOf busy (nI t) = false then nI t else srv P S kd busy (t + 1) k
/-- one WANT of the day: who is busy then, the state then -/
def sv1 (P : Pl) (n : Nat) (busy : Int32) (S : SM) (w : Nat) : Int32 × SM :=
  if P.2 11 w = S 8 0 then
    (if srv P S (P.2 10 w) busy 0 n = -1 then (busy, u2 (u2 S 6 w (nI 2)) 12 0 (S 12 0 + nI 1))
    else (busy ||| nI 1 <<< (srv P S (P.2 10 w) busy 0 n &&& 31), u2 (u2 (u2 (u2 S 6 w (nI 1)) 11 0 (S 11 0 + nI 1)) 5 (srv P S (P.2 10 w) busy 0 n).toNatClampNeg (S 5 (srv P S (P.2 10 w) busy 0 n).toNatClampNeg + nI 1)) 10 0 (S 10 0 + wn (lawP P 1 (nmS P S (srv P S (P.2 10 w) busy 0 n).toNatClampNeg (P.2 12 w))) (nI 0) (nI 999) (P.2 12 w))))
  else (busy, S)
def svS (P : Pl) (n : Nat) : Nat → Nat → Int32 → SM → SM
  | _, 0, _, S => S
  | w, k + 1, busy, S => svS P n (w + 1) k (sv1 P n busy S w).1 (sv1 P n busy S w).2
def go1 (S : SM) (t : Nat) : SM := if S 0 t = nI 1 then (if 0 < S 4 t - nI 1 then u2 S 4 t (S 4 t - nI 1) else u2 (u2 S 4 t (nI 0)) 0 t (nI 2)) else S
def goS : Nat → Nat → SM → SM
  | _, 0, S => S
  | t, k + 1, S => goS (t + 1) k (go1 S t)
def nx32 (x : Int32) : Int32 := (nxt x.toInt64).toInt32
/-- does it rust, by odds: and the number then -/
def rsB (dr : Bool) (S : SM) (o : Int32) : Bool × SM :=
  if dr = false then (decide (nI 50 ≤ o), S)
  else if o = 0 ∨ o = nI 100 then (decide (o = nI 100), S)
  else (decide ((nxt (S 14 0).toInt64 / 65536).toInt32 - (nxt (S 14 0).toInt64 / 65536).toInt32 / nI 100 * nI 100 < o), u2 S 14 0 (nx32 (S 14 0)))
def odds (P : Pl) (S : SM) (t : Nat) : Int32 := wn (lawP P 2 (nmS P S t 0)) (nI 0) (nI 100) (P.2 20 1)
def ru1 (P : Pl) (dr : Bool) (S : SM) (t : Nat) : SM :=
  if S 0 t = 0 then (if (rsB dr S (odds P S t)).1 = true then u2 (rsB dr S (odds P S t)).2 1 t (if S 1 t + nI 1 < nI 10 then S 1 t + nI 1 else nI 10) else (rsB dr S (odds P S t)).2) else S
def ruS (P : Pl) (dr : Bool) : Nat → Nat → SM → SM
  | _, 0, S => S
  | t, k + 1, S => ruS P dr (t + 1) k (ru1 P dr S t)
def bl1 (P : Pl) (S : SM) (t : Nat) : SM := if S 0 t = 0 ∧ (P.2 6 t ≤ S 8 0 ∨ nI 10 ≤ S 1 t) then u2 S 0 t (nI 3) else S
def blS (P : Pl) : Nat → Nat → SM → SM
  | _, 0, S => S
  | t, k + 1, S => blS P (t + 1) k (bl1 P S t)
/-- a DAY -/
def paS (P : Pl) (dr : Bool) (way sp : Int32) (n : Nat) (S : SM) : SM :=
  let S1 := otS P way sp n 0 (P.1 2) S
  let S2 := svS P n 0 (P.1 3) 0 S1
  let S3 := if way = nI 5 then S2 else goS 0 n S2
  let S4 := if way = nI 1 then S3 else ruS P dr 0 n S3
  let S5 := blS P 0 n S4
  u2 S5 8 0 (S5 8 0 + nI 1)
/-- a plan that is in order -/
def wfP (P : Pl) : Prop := (∀ t, t < P.1 1 → ∃ j, j < P.1 0 ∧ P.2 4 t = nI j) ∧ (∀ i, i < P.1 2 → ∃ j, j < P.1 1 ∧ P.2 8 i = nI j) ∧ (∀ w, w < P.1 3 → ∃ j, j < P.1 0 ∧ P.2 10 w = nI j) ∧
  (∀ w, w < 3 → bitOf (P.2 16 0) (nI w) = true → ∃ f u, P.2 14 w = nI f ∧ P.2 15 w = nI u ∧ f ≤ u ∧ u ≤ 64) ∧ (∀ i, i < P.1 2 → P.2 9 i ≤ P.2 20 3) ∧ (∀ w, w < P.1 3 → P.2 11 w ≤ P.2 20 4) ∧ (∃ j, j ≤ 100 ∧ P.2 20 1 = nI j)
section SRC
variable {I : IM} {J : JM} {s n : Nat} {S : SM}

theorem RC.up0 (h : RC I J s n S) {t : Nat} (ht : t < n) (v : Int32) : RC (u2 I (s + 1) t v) J s n (u2 S 0 t v) := by
  obtain ⟨h1, h2, h3, h4, h5, ⟨k1, k2, k3, k4, k5, k6⟩, h7⟩ := h
  refine ⟨?_, h2, fun t' ht' => ?_, fun t' ht' u hu => ?_, fun w hw => ?_, ⟨?_, ?_, ?_, ?_, ?_, ?_⟩, ?_⟩
  · rw [u2_ne _ _ (by omega)]; exact h1
  · obtain ⟨e1, e2, e3, e4, e5⟩ := h3 t' ht'
    by_cases e : t' = t
    · subst e
      simp (disch := omega) only [u2_at, u2_ne]
      simp [*]
    · simp (disch := omega) only [u2_nk, u2_ne]
      exact ⟨e1, e2, e3, e4, e5⟩
  · simp (disch := omega) only [u2_ne]
    exact h4 t' ht' u hu
  · simp (disch := omega) only [u2_ne]
    exact h5 w hw
  · simp (disch := omega) only [u2_ne]; exact k1
  · simp (disch := omega) only [u2_ne]; exact k2
  · simp (disch := omega) only [u2_ne]; exact k3
  · simp (disch := omega) only [u2_ne]; exact k4
  · simp (disch := omega) only [u2_ne]; exact k5
  · simp (disch := omega) only [u2_ne]; exact k6
  · simp (disch := omega) only [u2_ne]; exact h7
theorem RC.up1 (h : RC I J s n S) {t : Nat} (ht : t < n) (v : Int32) : RC (u2 I (s + 2) t v) J s n (u2 S 1 t v) := by
  obtain ⟨h1, h2, h3, h4, h5, ⟨k1, k2, k3, k4, k5, k6⟩, h7⟩ := h
  refine ⟨?_, h2, fun t' ht' => ?_, fun t' ht' u hu => ?_, fun w hw => ?_, ⟨?_, ?_, ?_, ?_, ?_, ?_⟩, ?_⟩
  · rw [u2_ne _ _ (by omega)]; exact h1
  · obtain ⟨e1, e2, e3, e4, e5⟩ := h3 t' ht'
    by_cases e : t' = t
    · subst e
      simp (disch := omega) only [u2_at, u2_ne]
      simp [*]
    · simp (disch := omega) only [u2_nk, u2_ne]
      exact ⟨e1, e2, e3, e4, e5⟩
  · simp (disch := omega) only [u2_ne]
    exact h4 t' ht' u hu
  · simp (disch := omega) only [u2_ne]
    exact h5 w hw
  · simp (disch := omega) only [u2_ne]; exact k1
  · simp (disch := omega) only [u2_ne]; exact k2
  · simp (disch := omega) only [u2_ne]; exact k3
  · simp (disch := omega) only [u2_ne]; exact k4
  · simp (disch := omega) only [u2_ne]; exact k5
  · simp (disch := omega) only [u2_ne]; exact k6
  · simp (disch := omega) only [u2_ne]; exact h7
theorem RC.up4 (h : RC I J s n S) {t : Nat} (ht : t < n) (v : Int32) : RC (u2 I (s + 5) t v) J s n (u2 S 4 t v) := by
  obtain ⟨h1, h2, h3, h4, h5, ⟨k1, k2, k3, k4, k5, k6⟩, h7⟩ := h
  refine ⟨?_, h2, fun t' ht' => ?_, fun t' ht' u hu => ?_, fun w hw => ?_, ⟨?_, ?_, ?_, ?_, ?_, ?_⟩, ?_⟩
  · rw [u2_ne _ _ (by omega)]; exact h1
  · obtain ⟨e1, e2, e3, e4, e5⟩ := h3 t' ht'
    by_cases e : t' = t
    · subst e
      simp (disch := omega) only [u2_at, u2_ne]
      simp [*]
    · simp (disch := omega) only [u2_nk, u2_ne]
      exact ⟨e1, e2, e3, e4, e5⟩
  · simp (disch := omega) only [u2_ne]
    exact h4 t' ht' u hu
  · simp (disch := omega) only [u2_ne]
    exact h5 w hw
  · simp (disch := omega) only [u2_ne]; exact k1
  · simp (disch := omega) only [u2_ne]; exact k2
  · simp (disch := omega) only [u2_ne]; exact k3
  · simp (disch := omega) only [u2_ne]; exact k4
  · simp (disch := omega) only [u2_ne]; exact k5
  · simp (disch := omega) only [u2_ne]; exact k6
  · simp (disch := omega) only [u2_ne]; exact h7
theorem RC.up5 (h : RC I J s n S) {t : Nat} (ht : t < n) (v : Int32) : RC (u2 I (s + 6) t v) J s n (u2 S 5 t v) := by
  obtain ⟨h1, h2, h3, h4, h5, ⟨k1, k2, k3, k4, k5, k6⟩, h7⟩ := h
  refine ⟨?_, h2, fun t' ht' => ?_, fun t' ht' u hu => ?_, fun w hw => ?_, ⟨?_, ?_, ?_, ?_, ?_, ?_⟩, ?_⟩
  · rw [u2_ne _ _ (by omega)]; exact h1
  · obtain ⟨e1, e2, e3, e4, e5⟩ := h3 t' ht'
    by_cases e : t' = t
    · subst e
      simp (disch := omega) only [u2_at, u2_ne]
      simp [*]
    · simp (disch := omega) only [u2_nk, u2_ne]
      exact ⟨e1, e2, e3, e4, e5⟩
  · simp (disch := omega) only [u2_ne]
    exact h4 t' ht' u hu
  · simp (disch := omega) only [u2_ne]
    exact h5 w hw
  · simp (disch := omega) only [u2_ne]; exact k1
  · simp (disch := omega) only [u2_ne]; exact k2
  · simp (disch := omega) only [u2_ne]; exact k3
  · simp (disch := omega) only [u2_ne]; exact k4
  · simp (disch := omega) only [u2_ne]; exact k5
  · simp (disch := omega) only [u2_ne]; exact k6
  · simp (disch := omega) only [u2_ne]; exact h7
theorem RC.up6 (h : RC I J s n S) {w : Nat} (hw : w < 8) (v : Int32) : RC (u2 I (s + 7) w v) J s n (u2 S 6 w v) := by
  obtain ⟨h1, h2, h3, h4, h5, ⟨k1, k2, k3, k4, k5, k6⟩, h7⟩ := h
  refine ⟨?_, h2, fun t' ht' => ?_, fun t' ht' u hu => ?_, fun w' hw' => ?_, ⟨?_, ?_, ?_, ?_, ?_, ?_⟩, ?_⟩
  · rw [u2_ne _ _ (by omega)]; exact h1
  · simp (disch := omega) only [u2_ne]
    exact h3 t' ht'
  · simp (disch := omega) only [u2_ne]
    exact h4 t' ht' u hu
  · by_cases e : w' = w
    · subst e
      rw [u2_at, u2_at]
    · rw [u2_nk _ _ e, u2_nk _ _ e]
      exact h5 w' hw'
  · simp (disch := omega) only [u2_ne]; exact k1
  · simp (disch := omega) only [u2_ne]; exact k2
  · simp (disch := omega) only [u2_ne]; exact k3
  · simp (disch := omega) only [u2_ne]; exact k4
  · simp (disch := omega) only [u2_ne]; exact k5
  · simp (disch := omega) only [u2_ne]; exact k6
  · simp (disch := omega) only [u2_ne]; exact h7
theorem RC.up8 (h : RC I J s n S) (v : Int32) : RC (u2 I s 8 v) J s n (u2 S 8 0 v) := by
  obtain ⟨h1, h2, h3, h4, h5, ⟨k1, k2, k3, k4, k5, k6⟩, h7⟩ := h
  refine ⟨?_, h2, fun t' ht' => ?_, fun t' ht' u hu => ?_, fun w' hw' => ?_, ⟨?_, ?_, ?_, ?_, ?_, ?_⟩, ?_⟩
  · rw [u2_nk _ _ (by omega)]; exact h1
  · simp (disch := omega) only [u2_ne]
    exact h3 t' ht'
  · simp (disch := omega) only [u2_ne]
    exact h4 t' ht' u hu
  · simp (disch := omega) only [u2_ne]
    exact h5 w' hw'
  · simp (disch := omega) only [u2_at, u2_nk, u2_ne]
  · simp (disch := omega) only [u2_at, u2_nk, u2_ne]; exact k2
  · simp (disch := omega) only [u2_at, u2_nk, u2_ne]; exact k3
  · simp (disch := omega) only [u2_at, u2_nk, u2_ne]; exact k4
  · simp (disch := omega) only [u2_at, u2_nk, u2_ne]; exact k5
  · simp (disch := omega) only [u2_at, u2_nk, u2_ne]; exact k6
  · simp (disch := omega) only [u2_ne]; exact h7
theorem RC.up9 (h : RC I J s n S) (v : Int32) : RC (u2 I s 9 v) J s n (u2 S 9 0 v) := by
  obtain ⟨h1, h2, h3, h4, h5, ⟨k1, k2, k3, k4, k5, k6⟩, h7⟩ := h
  refine ⟨?_, h2, fun t' ht' => ?_, fun t' ht' u hu => ?_, fun w' hw' => ?_, ⟨?_, ?_, ?_, ?_, ?_, ?_⟩, ?_⟩
  · rw [u2_nk _ _ (by omega)]; exact h1
  · simp (disch := omega) only [u2_ne]
    exact h3 t' ht'
  · simp (disch := omega) only [u2_ne]
    exact h4 t' ht' u hu
  · simp (disch := omega) only [u2_ne]
    exact h5 w' hw'
  · simp (disch := omega) only [u2_at, u2_nk, u2_ne]; exact k1
  · simp (disch := omega) only [u2_at, u2_nk, u2_ne]
  · simp (disch := omega) only [u2_at, u2_nk, u2_ne]; exact k3
  · simp (disch := omega) only [u2_at, u2_nk, u2_ne]; exact k4
  · simp (disch := omega) only [u2_at, u2_nk, u2_ne]; exact k5
  · simp (disch := omega) only [u2_at, u2_nk, u2_ne]; exact k6
  · simp (disch := omega) only [u2_ne]; exact h7
theorem RC.up10 (h : RC I J s n S) (v : Int32) : RC (u2 I s 10 v) J s n (u2 S 10 0 v) := by
  obtain ⟨h1, h2, h3, h4, h5, ⟨k1, k2, k3, k4, k5, k6⟩, h7⟩ := h
  refine ⟨?_, h2, fun t' ht' => ?_, fun t' ht' u hu => ?_, fun w' hw' => ?_, ⟨?_, ?_, ?_, ?_, ?_, ?_⟩, ?_⟩
  · rw [u2_nk _ _ (by omega)]; exact h1
  · simp (disch := omega) only [u2_ne]
    exact h3 t' ht'
  · simp (disch := omega) only [u2_ne]
    exact h4 t' ht' u hu
  · simp (disch := omega) only [u2_ne]
    exact h5 w' hw'
  · simp (disch := omega) only [u2_at, u2_nk, u2_ne]; exact k1
  · simp (disch := omega) only [u2_at, u2_nk, u2_ne]; exact k2
  · simp (disch := omega) only [u2_at, u2_nk, u2_ne]
  · simp (disch := omega) only [u2_at, u2_nk, u2_ne]; exact k4
  · simp (disch := omega) only [u2_at, u2_nk, u2_ne]; exact k5
  · simp (disch := omega) only [u2_at, u2_nk, u2_ne]; exact k6
  · simp (disch := omega) only [u2_ne]; exact h7
theorem RC.up11 (h : RC I J s n S) (v : Int32) : RC (u2 I s 11 v) J s n (u2 S 11 0 v) := by
  obtain ⟨h1, h2, h3, h4, h5, ⟨k1, k2, k3, k4, k5, k6⟩, h7⟩ := h
  refine ⟨?_, h2, fun t' ht' => ?_, fun t' ht' u hu => ?_, fun w' hw' => ?_, ⟨?_, ?_, ?_, ?_, ?_, ?_⟩, ?_⟩
  · rw [u2_nk _ _ (by omega)]; exact h1
  · simp (disch := omega) only [u2_ne]
    exact h3 t' ht'
  · simp (disch := omega) only [u2_ne]
    exact h4 t' ht' u hu
  · simp (disch := omega) only [u2_ne]
    exact h5 w' hw'
  · simp (disch := omega) only [u2_at, u2_nk, u2_ne]; exact k1
  · simp (disch := omega) only [u2_at, u2_nk, u2_ne]; exact k2
  · simp (disch := omega) only [u2_at, u2_nk, u2_ne]; exact k3
  · simp (disch := omega) only [u2_at, u2_nk, u2_ne]
  · simp (disch := omega) only [u2_at, u2_nk, u2_ne]; exact k5
  · simp (disch := omega) only [u2_at, u2_nk, u2_ne]; exact k6
  · simp (disch := omega) only [u2_ne]; exact h7
theorem RC.up12 (h : RC I J s n S) (v : Int32) : RC (u2 I s 12 v) J s n (u2 S 12 0 v) := by
  obtain ⟨h1, h2, h3, h4, h5, ⟨k1, k2, k3, k4, k5, k6⟩, h7⟩ := h
  refine ⟨?_, h2, fun t' ht' => ?_, fun t' ht' u hu => ?_, fun w' hw' => ?_, ⟨?_, ?_, ?_, ?_, ?_, ?_⟩, ?_⟩
  · rw [u2_nk _ _ (by omega)]; exact h1
  · simp (disch := omega) only [u2_ne]
    exact h3 t' ht'
  · simp (disch := omega) only [u2_ne]
    exact h4 t' ht' u hu
  · simp (disch := omega) only [u2_ne]
    exact h5 w' hw'
  · simp (disch := omega) only [u2_at, u2_nk, u2_ne]; exact k1
  · simp (disch := omega) only [u2_at, u2_nk, u2_ne]; exact k2
  · simp (disch := omega) only [u2_at, u2_nk, u2_ne]; exact k3
  · simp (disch := omega) only [u2_at, u2_nk, u2_ne]; exact k4
  · simp (disch := omega) only [u2_at, u2_nk, u2_ne]
  · simp (disch := omega) only [u2_at, u2_nk, u2_ne]; exact k6
  · simp (disch := omega) only [u2_ne]; exact h7
theorem RC.up13 (h : RC I J s n S) (v : Int32) : RC (u2 I s 13 v) J s n (u2 S 13 0 v) := by
  obtain ⟨h1, h2, h3, h4, h5, ⟨k1, k2, k3, k4, k5, k6⟩, h7⟩ := h
  refine ⟨?_, h2, fun t' ht' => ?_, fun t' ht' u hu => ?_, fun w' hw' => ?_, ⟨?_, ?_, ?_, ?_, ?_, ?_⟩, ?_⟩
  · rw [u2_nk _ _ (by omega)]; exact h1
  · simp (disch := omega) only [u2_ne]
    exact h3 t' ht'
  · simp (disch := omega) only [u2_ne]
    exact h4 t' ht' u hu
  · simp (disch := omega) only [u2_ne]
    exact h5 w' hw'
  · simp (disch := omega) only [u2_at, u2_nk, u2_ne]; exact k1
  · simp (disch := omega) only [u2_at, u2_nk, u2_ne]; exact k2
  · simp (disch := omega) only [u2_at, u2_nk, u2_ne]; exact k3
  · simp (disch := omega) only [u2_at, u2_nk, u2_ne]; exact k4
  · simp (disch := omega) only [u2_at, u2_nk, u2_ne]; exact k5
  · simp (disch := omega) only [u2_at, u2_nk, u2_ne]
  · simp (disch := omega) only [u2_ne]; exact h7
theorem RC.up14 (h : RC I J s n S) {v : Int64} {x : Int32} (hv : v = x.toInt64) : RC I (u2 J s 14 v) s n (u2 S 14 0 x) := by
  obtain ⟨h1, h2, h3, h4, h5, ⟨k1, k2, k3, k4, k5, k6⟩, h7⟩ := h
  refine ⟨h1, h2, fun t' ht' => ?_, fun t' ht' u hu => ?_, fun w' hw' => ?_, ⟨?_, ?_, ?_, ?_, ?_, ?_⟩, ?_⟩
  · simp (disch := omega) only [u2_ne]
    exact h3 t' ht'
  · simp (disch := omega) only [u2_ne]
    exact h4 t' ht' u hu
  · simp (disch := omega) only [u2_ne]
    exact h5 w' hw'
  · simp (disch := omega) only [u2_ne]; exact k1
  · simp (disch := omega) only [u2_ne]; exact k2
  · simp (disch := omega) only [u2_ne]; exact k3
  · simp (disch := omega) only [u2_ne]; exact k4
  · simp (disch := omega) only [u2_ne]; exact k5
  · simp (disch := omega) only [u2_ne]; exact k6
  · rw [u2_at, u2_at]; exact hv
/-- other cells may change -/
theorem RC.frame {I' : IM} {J' : JM} (h : RC I J s n S) (hf : ∀ c, s ≤ c → c ≤ s + 7 → I' c = I c) (hj : J' s 14 = J s 14) : RC I' J' s n S := by
  obtain ⟨h1, h2, h3, h4, h5, ⟨k1, k2, k3, k4, k5, k6⟩, h7⟩ := h
  have e0 := hf s (by omega) (by omega)
  have e1 := hf (s + 1) (by omega) (by omega)
  have e2 := hf (s + 2) (by omega) (by omega)
  have e3 := hf (s + 3) (by omega) (by omega)
  have e4 := hf (s + 4) (by omega) (by omega)
  have e5 := hf (s + 5) (by omega) (by omega)
  have e6 := hf (s + 6) (by omega) (by omega)
  have e7 := hf (s + 7) (by omega) (by omega)
  refine ⟨by rw [e0]; exact h1, h2, fun t ht => ?_, fun t ht u hu => ?_, fun w hw => ?_, ⟨by rw [e0]; exact k1, by rw [e0]; exact k2, by rw [e0]; exact k3, by rw [e0]; exact k4, by rw [e0]; exact k5, by rw [e0]; exact k6⟩, hj.trans h7⟩
  · rw [e1, e2, e3, e5, e6]; exact h3 t ht
  · rw [e3, e4]; exact h4 t ht u hu
  · rw [e7]; exact h5 w hw
theorem cF_congr {f g : Nat → Bool} : ∀ k i, (∀ j, i ≤ j → j < i + k → f j = g j) → cF f i k = cF g i k
  | 0, _, _ => rfl
  | k + 1, i, h => by
    rw [cF, cF, h i (by omega) (by omega), cF_congr k (i + 1) (fun j h1 h2 => h j (by omega) (by omega))]
theorem RC.cnt (h : RC I J s n S) {t : Nat} (ht : t < n) : cnt (abv I s t) n = cnt (abS S t) n := by
  refine cF_congr n 0 (fun u _ hu => ?_)
  obtain ⟨h1, h2, h3, h4, -⟩ := h
  have e1 := (h3 u (by omega)).1
  have e4 := h4 t ht u (by omega)
  unfold abv abS
  rw [e1, e4]
  congr 1
  rw [Bool.eq_iff_iff]
  simp only [Bool.and_eq_true, decide_eq_true_eq, bI]
  constructor
  · intro q
    rw [if_pos q]
  · intro q
    by_cases c : I (s + 3) u = I (s + 3) t ∧ I (s + 4) t < I (s + 4) u
    · exact c
    · rw [if_neg c] at q
      exact absurd q (by decide)
end SRC
/-- what an E looks at -/
theorem stW_nm {c : Int32} {nm nm' : Nat → Int32} {pl : List Int64} (h : ∀ j, j < 7 → nm j = nm' j) : stW c nm pl = stW c nm' pl := by
  unfold stW
  split
  · rfl
  · split
    · next q =>
      obtain ⟨j, hj, ej⟩ := nI12 q.1 q.2
      rw [ej, nI_clamp (by omega), h j hj]
    · rfl
theorem evW_congr {code code' nm nm' : Nat → Int32} (hn : ∀ j, j < 7 → nm j = nm' j) : ∀ k i pl, (∀ j, i ≤ j → j < i + k → code j = code' j) → evW code nm k i pl = evW code' nm' k i pl
  | 0, _, _, _ => rfl
  | k + 1, i, pl, h => by
    rw [evW, evW, h i (by omega) (by omega), stW_nm hn]
    cases stW (code' i) nm' pl with
    | none => rfl
    | some pl' => exact evW_congr hn k (i + 1) pl' (fun j h1 h2 => h j (by omega) (by omega))

