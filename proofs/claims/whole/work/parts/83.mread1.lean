/-! ===== the reference: what a token is ===== -/
section TkR
variable {tk va so vl : Int32}
theorem sgL_is {c : Nat} (h : c ∈ sgL) : c = 40 ∨ c = 41 ∨ c = 42 ∨ c = 43 ∨ c = 45 ∨ c = 47 ∨ c = 59 ∨ c = 60 ∨ c = 61 ∨ c = 62 := by
  have h : c ∈ ([40, 41, 42, 43, 45, 47, 59, 60, 61, 62] : List Nat) := h
  simp only [List.mem_cons, List.not_mem_nil, or_false] at h
  exact h
theorem sgL_all (h : (∃ c, c ∈ sgL ∧ tk = nI c) ∨ tk = nI 256 ∨ tk = nI 257 ∨ tk = nI 258) : ∃ c, tk = nI c ∧ (c = 40 ∨ c = 41 ∨ c = 42 ∨ c = 43 ∨ c = 45 ∨ c = 47 ∨ c = 59 ∨ c = 60 ∨ c = 61 ∨ c = 62 ∨ c = 256 ∨ c = 257 ∨ c = 258) := by
  rcases h with ⟨c, hc, h⟩ | h | h | h
  · exact ⟨c, h, by have := sgL_is hc; omega⟩
  · exact ⟨256, h, by omega⟩
  · exact ⟨257, h, by omega⟩
  · exact ⟨258, h, by omega⟩
theorem nI_ne {a b : Nat} (ha : a < 2 ^ 31) (hb : b < 2 ^ 31) (h : ¬ a = b) : ¬ nI a = nI b := fun q => h ((nI_eq (by omega) (by omega)).mp q)
theorem tkR.e4 (R : tkR tk va so vl) : so = nI 4 ↔ tk = nI 0 := by
  rcases R with ⟨rfl, rfl⟩ | ⟨k, hk, rfl, rfl, rfl⟩ | ⟨rfl, rfl, rfl⟩ | ⟨rfl, rfl, v, w, rfl, rfl, h1, h2, h3⟩ | ⟨rfl, rfl⟩ | ⟨rfl, rfl, hs⟩
  · decide
  · exact ⟨fun q => absurd q (by decide), fun q => absurd q (nI_ne (by omega) (by omega) (by omega))⟩
  · decide
  · decide
  · decide
  · obtain ⟨c, rfl, hc⟩ := sgL_all hs
    exact ⟨fun q => absurd q (by decide), fun q => absurd q (nI_ne (by omega) (by omega) (by omega))⟩
theorem tkR.e2 (R : tkR tk va so vl) : so = nI 2 ↔ tk = nI 23 := by
  rcases R with ⟨rfl, rfl⟩ | ⟨k, hk, rfl, rfl, rfl⟩ | ⟨rfl, rfl, rfl⟩ | ⟨rfl, rfl, v, w, rfl, rfl, h1, h2, h3⟩ | ⟨rfl, rfl⟩ | ⟨rfl, rfl, hs⟩
  · decide
  · exact ⟨fun q => absurd q (by decide), fun q => absurd q (nI_ne (by omega) (by omega) (by omega))⟩
  · decide
  · decide
  · decide
  · obtain ⟨c, rfl, hc⟩ := sgL_all hs
    exact ⟨fun q => absurd q (by decide), fun q => absurd q (nI_ne (by omega) (by omega) (by omega))⟩
theorem tkR.e1 (R : tkR tk va so vl) : so = nI 1 ↔ tk = nI 22 := by
  rcases R with ⟨rfl, rfl⟩ | ⟨k, hk, rfl, rfl, rfl⟩ | ⟨rfl, rfl, rfl⟩ | ⟨rfl, rfl, v, w, rfl, rfl, h1, h2, h3⟩ | ⟨rfl, rfl⟩ | ⟨rfl, rfl, hs⟩
  · decide
  · exact ⟨fun q => absurd q (by decide), fun q => absurd q (nI_ne (by omega) (by omega) (by omega))⟩
  · decide
  · decide
  · decide
  · obtain ⟨c, rfl, hc⟩ := sgL_all hs
    exact ⟨fun q => absurd q (by decide), fun q => absurd q (nI_ne (by omega) (by omega) (by omega))⟩
theorem tkR.w0 (R : tkR tk va so vl) (h : so = nI 0) : ∃ k, k < 21 ∧ tk = nI (k + 1) ∧ vl = nI (mwF k) := by
  rcases R with ⟨rfl, rfl⟩ | ⟨k, hk, rfl, rfl, rfl⟩ | ⟨rfl, rfl, rfl⟩ | ⟨rfl, rfl, v, w, rfl, rfl, h1, h2, h3⟩ | ⟨rfl, rfl⟩ | ⟨rfl, rfl, hs⟩
  · exact absurd h (by decide)
  · exact ⟨k, hk, rfl, rfl⟩
  · exact absurd h (by decide)
  · exact absurd h (by decide)
  · exact absurd h (by decide)
  · exact absurd h (by decide)
theorem tkR.n0 (R : tkR tk va so vl) (h : ¬ so = nI 0) {k : Nat} (h1 : 1 ≤ k) (h2 : k ≤ 21) : ¬ tk = nI k := by
  rcases R with ⟨rfl, rfl⟩ | ⟨k, hk, rfl, rfl, rfl⟩ | ⟨rfl, rfl, rfl⟩ | ⟨rfl, rfl, v, w, rfl, rfl, h1, h2, h3⟩ | ⟨rfl, rfl⟩ | ⟨rfl, rfl, hs⟩
  · exact nI_ne (by omega) (by omega) (by omega)
  · exact absurd rfl h
  · exact nI_ne (by omega) (by omega) (by omega)
  · exact nI_ne (by omega) (by omega) (by omega)
  · exact fun q => nI_m1 (by omega) q.symm
  · obtain ⟨c, rfl, hc⟩ := sgL_all hs
    exact nI_ne (by omega) (by omega) (by omega)
theorem mwF_lt {k : Nat} (h : k < 21) : mwF k < 21 := (mw_all k h).1
theorem tkR.wd (R : tkR tk va so vl) {w : Nat} (hw : w < 21) : (so = nI 0 ∧ vl = nI w) ↔ tk = nI (mwG w + 1) := by
  have m := mw_all w hw
  by_cases c : so = nI 0
  · obtain ⟨k, hk, rfl, rfl⟩ := R.w0 c
    have mk := mw_all k hk
    constructor
    · intro q
      have := (nI_eq (by omega) (by omega)).mp q.2
      rw [← this, mk.2.1]
    · intro q
      have : k + 1 = mwG w + 1 := (nI_eq (by omega) (by omega)).mp q
      refine ⟨c, ?_⟩
      rw [show k = mwG w by omega, m.2.2.2]
  · exact ⟨fun q => absurd q.1 c, fun q => absurd q (R.n0 c (by omega) (by omega))⟩
theorem sv_of {c : Nat} (hc : c = 40 ∨ c = 41 ∨ c = 42 ∨ c = 43 ∨ c = 45 ∨ c = 47 ∨ c = 59 ∨ c = 60 ∨ c = 61 ∨ c = 62 ∨ c = 256 ∨ c = 257 ∨ c = 258) : svF (nI c) = nI (if c = 257 then 258 else if c = 258 then 257 else c) := by
  rcases hc with h | h | h | h | h | h | h | h | h | h | h | h | h <;> subst h <;> decide
theorem tkR.sn (R : tkR tk va so vl) {c : Nat} (hc : c = 40 ∨ c = 41 ∨ c = 42 ∨ c = 43 ∨ c = 45 ∨ c = 47 ∨ c = 59) : (so = nI 3 ∧ vl = nI c) ↔ tk = nI c := by
  rcases R with ⟨rfl, rfl⟩ | ⟨k, hk, rfl, rfl, rfl⟩ | ⟨rfl, rfl, rfl⟩ | ⟨rfl, rfl, v, w, rfl, rfl, h1, h2, h3⟩ | ⟨rfl, rfl⟩ | ⟨rfl, rfl, hs⟩
  · exact ⟨fun q => absurd q.1 (by decide), fun q => absurd q (nI_ne (by omega) (by omega) (by omega))⟩
  · exact ⟨fun q => absurd q.1 (by decide), fun q => absurd q (nI_ne (by omega) (by omega) (by omega))⟩
  · exact ⟨fun q => absurd q.1 (by decide), fun q => absurd q (nI_ne (by omega) (by omega) (by omega))⟩
  · exact ⟨fun q => absurd q.1 (by decide), fun q => absurd q (nI_ne (by omega) (by omega) (by omega))⟩
  · exact ⟨fun q => absurd q.1 (by decide), fun q => absurd q.symm (nI_m1 (by omega))⟩
  · obtain ⟨t, rfl, ht⟩ := sgL_all hs
    rw [sv_of ht]
    constructor
    · intro q
      have e := (nI_eq (by split <;> (try split) <;> omega) (by omega)).mp q.2
      have : t = c := by
        split at e
        · omega
        · split at e <;> omega
      rw [this]
    · intro q
      have : t = c := (nI_eq (by omega) (by omega)).mp q
      subst this
      exact ⟨rfl, by rw [if_neg (by omega), if_neg (by omega)]⟩
theorem tkR.vs (R : tkR tk va so vl) (h : so = nI 3) : vl = svF tk := by
  rcases R with ⟨rfl, rfl⟩ | ⟨k, hk, rfl, rfl, rfl⟩ | ⟨rfl, rfl, rfl⟩ | ⟨rfl, rfl, v, w, rfl, rfl, h1, h2, h3⟩ | ⟨rfl, rfl⟩ | ⟨rfl, rfl, hs⟩
  · exact absurd h (by decide)
  · exact absurd h (by decide)
  · exact absurd h (by decide)
  · exact absurd h (by decide)
  · exact absurd h (by decide)
  · rfl
theorem tkR.s3 (R : tkR tk va so vl) (h : so = nI 3) : ∃ c, tk = nI c ∧ vl = nI (if c = 257 then 258 else if c = 258 then 257 else c) ∧ (c = 40 ∨ c = 41 ∨ c = 42 ∨ c = 43 ∨ c = 45 ∨ c = 47 ∨ c = 59 ∨ c = 60 ∨ c = 61 ∨ c = 62 ∨ c = 256 ∨ c = 257 ∨ c = 258) := by
  rcases R with ⟨rfl, rfl⟩ | ⟨k, hk, rfl, rfl, rfl⟩ | ⟨rfl, rfl, rfl⟩ | ⟨rfl, rfl, v, w, rfl, rfl, h1, h2, h3⟩ | ⟨rfl, rfl⟩ | ⟨rfl, rfl, hs⟩
  · exact absurd h (by decide)
  · exact absurd h (by decide)
  · exact absurd h (by decide)
  · exact absurd h (by decide)
  · exact absurd h (by decide)
  · obtain ⟨c, rfl, hc⟩ := sgL_all hs
    exact ⟨c, rfl, sv_of hc, hc⟩
theorem isCmp_iff {c : Nat} (hc : c < 2 ^ 31) : isCmp (nI c) = true ↔ (60 ≤ c ∧ c ≤ 62 ∨ 256 ≤ c ∧ c ≤ 258) := by
  unfold isCmp
  rw [decide_eq_true_eq, nI_leI (by omega) hc, nI_leI hc (by omega), nI_leI (by omega) hc, nI_leI hc (by omega)]
theorem tkR.nc (R : tkR tk va so vl) (h : ¬ so = nI 3) : isCmp tk = false := by
  rcases R with ⟨rfl, rfl⟩ | ⟨k, hk, rfl, rfl, rfl⟩ | ⟨rfl, rfl, rfl⟩ | ⟨rfl, rfl, v, w, rfl, rfl, h1, h2, h3⟩ | ⟨rfl, rfl⟩ | ⟨rfl, rfl, hs⟩
  · decide
  · exact Bool.eq_false_iff.mpr (fun q => by have := (isCmp_iff (by omega)).mp q; omega)
  · decide
  · decide
  · decide
  · exact absurd rfl h
theorem tkR.va2 (R : tkR tk va so vl) (h : tk = nI 23) : ∃ v w, va = nI v ∧ vl = nI w ∧ v ≤ 1000000 ∧ w ≤ 1000000 ∧ (v = w ∨ 99999 < v ∧ 99999 < w) := by
  rcases R with ⟨rfl, rfl⟩ | ⟨k, hk, rfl, rfl, rfl⟩ | ⟨rfl, rfl, rfl⟩ | ⟨rfl, rfl, v, w, rfl, rfl, h1, h2, h3⟩ | ⟨rfl, rfl⟩ | ⟨rfl, rfl, hs⟩
  · exact absurd h (by decide)
  · exact absurd h (nI_ne (by omega) (by omega) (by omega))
  · exact absurd h (by decide)
  · exact ⟨v, w, rfl, rfl, h1, h2, h3⟩
  · exact absurd h (by decide)
  · obtain ⟨c, rfl, hc⟩ := sgL_all hs
    exact absurd h (nI_ne (by omega) (by omega) (by omega))
theorem tkR.va1 (R : tkR tk va so vl) (h : tk = nI 22) : vl = va := by
  rcases R with ⟨rfl, rfl⟩ | ⟨k, hk, rfl, rfl, rfl⟩ | ⟨rfl, rfl, rfl⟩ | ⟨rfl, rfl, v, w, rfl, rfl, h1, h2, h3⟩ | ⟨rfl, rfl⟩ | ⟨rfl, rfl, hs⟩
  · exact absurd h (by decide)
  · exact absurd h (nI_ne (by omega) (by omega) (by omega))
  · rfl
  · exact absurd h (by decide)
  · exact absurd h (by decide)
  · obtain ⟨c, rfl, hc⟩ := sgL_all hs
    exact absurd h (nI_ne (by omega) (by omega) (by omega))
end TkR
/-! ===== the reference: FAULTS, numerals, NAMES ===== -/
/-- the TEXT -/
def TX (I : IM) (f : Nat → Nat) (n : Nat) : Prop := I 102 23 = nI n ∧ n ≤ 700 ∧ (∀ j, j < n → I 103 j = nI (f j)) ∧ ∀ j, f j < 256
def TV (I : IM) (n : Nat) (t : Tk) : Prop := I 102 24 = nI t.1 ∧ t.1 ≤ n ∧ I 102 25 = nI t.2.2.2 ∧ tkR t.2.1 t.2.2.1 (I 102 26) (I 102 27) ∧ I 102 29 = -1
/-- a FAULT, or no FAULT and this token -/
def Tz (I : IM) (n : Nat) (zz : PR) : Prop := match zz with
  | .inl e => e.1 ≠ 0 ∧ e.1 ≤ 4 ∧ I 102 28 = nI e.1 ∧ I 102 29 = nI e.2
  | .inr s => I 102 28 = nI 0 ∧ TV I n s.1
def FT (I I' : IM) : Prop := ∀ c x, ¬ (c = 102 ∧ 24 ≤ x ∧ x ≤ 29) → I' c x = I c x
theorem FT.rf {I : IM} : FT I I := fun _ _ _ => rfl
theorem FT.tr {I I1 I2 : IM} (h : FT I I1) (g : FT I1 I2) : FT I I2 := fun c x q => (g c x q).trans (h c x q)
theorem TX.ft {I I' : IM} {f : Nat → Nat} {n : Nat} (h : TX I f n) (g : FT I I') : TX I' f n := ⟨by rw [g 102 23 (by omega)]; exact h.1, h.2.1, fun j hj => by rw [g 103 j (by omega)]; exact h.2.2.1 j hj, h.2.2.2⟩
/-- a Boolean that is asked of what is live -/
def lvB (zz : PR) (g : PSt → Bool) : Bool := match zz with
  | .inl _ => false
  | .inr s => g s
abbrev CM (l : Launch) (G : GG) (d : Nat) (M : MD) (as : List Value) (I : IM) (J : JM) (K : Kt) (n : Nat) (zz : PR) : Prop := Cw l G d M as (I, J, K) (fun r h' => r = none ∧ ∃ I', h' = (I', J, K) ∧ FT I I' ∧ Tz I' n zz)
section MRead1
variable {l : Launch} {G : GG} {d : Nat} {I : IM} {J : JM} {K : Kt} {h : Hp} {Q : Option Value → Hp → Prop} {f : Nat → Nat} {n : Nat} {zz : PR}
theorem c10_wrong (hM : MK K) (hz : Tz I n zz) {k : Nat} (hk : k ≠ 0) (hk4 : k ≤ 4) : Cw l G d m10_wrong [.ref 102, .int (nI k)] (I, J, K) (fun r h' => r = none ∧ ∃ I', h' = (I', J, K) ∧ (∀ c x, ¬ (c = 102 ∧ (x = 28 ∨ x = 29)) → I' c x = I c x) ∧ Tz I' n (bnd zz (flS k))) := by
  cases zz with
  | inl e =>
    obtain ⟨h1, h2, h3, h4⟩ := hz
    refine Cw.of ok10_wrong rfl (rfl : argL _ _ = [.ref 102, .int (nI k)]) ?_
    refine e_aload_n rfl rfl ?_
    refine e_getI rfl f10_205 hM.k rfl ?_
    rw [h3]
    first | refine e_if_eqB (tgt := 8) rfl rfl (fun z => ?_) (fun z => ?_) | refine e_if_eqN (tgt := 8) rfl rfl (by omega) (fun z => ?_) (fun z => ?_) | refine e_if_eq (tgt := 8) rfl rfl (fun z => ?_) (fun z => ?_)
    · exact absurd (by assumption) h1
    · refine e_return rfl rfl ?_
      exact ⟨rfl, I, rfl, fun _ _ _ => rfl, h1, h2, h3, h4⟩
  | inr s =>
    obtain ⟨h1, h2, h3, h4, h5⟩ := hz
    refine Cw.of ok10_wrong rfl (rfl : argL _ _ = [.ref 102, .int (nI k)]) ?_
    refine e_aload_n rfl rfl ?_
    refine e_getI rfl f10_205 hM.k rfl ?_
    rw [h1]
    first | refine e_if_eqB (tgt := 8) rfl rfl (fun z => ?_) (fun z => ?_) | refine e_if_eqN (tgt := 8) rfl rfl (by omega) (fun z => ?_) (fun z => ?_) | refine e_if_eq (tgt := 8) rfl rfl (fun z => ?_) (fun z => ?_)
    · refine e_aload_n rfl rfl ?_
      refine e_iload_n rfl rfl ?_
      refine e_putI rfl f10_205 hM.k rfl rfl ?_
      refine e_aload_n rfl rfl ?_
      refine e_aload_n rfl rfl ?_
      refine e_getI rfl f10_167 hM.k rfl ?_
      rw [u2_nk _ _ (by omega), h4]
      refine e_putI rfl f10_208 hM.k rfl rfl ?_
      refine e_return rfl rfl ?_
      exact ⟨rfl, _, rfl, fun c x q => (if_neg (fun e => q ⟨e.1, Or.inr e.2⟩)).trans (if_neg (fun e => q ⟨e.1, Or.inl e.2⟩)), hk, hk4, by rw [u2_nk _ _ (by omega), u2_at], u2_at _ _ _ _⟩
    · omega
theorem c10_wrongM (hM : MK K) (hz : Tz I n zz) {k : Nat} (hk : k ≠ 0) (hk4 : k ≤ 4) : CM l G d m10_wrong [.ref 102, .int (nI k)] I J K n (bnd zz (flS k)) := Cw.mono (c10_wrong hM hz hk hk4) (fun r h' q => by
  obtain ⟨q1, I', q2, q3, q4⟩ := q
  exact ⟨q1, I', q2, fun c x w => q3 c x (by omega), q4⟩)
theorem c10_tokenM (hM : MK K) (hX : TX I f n) {s : PSt} (hz : Tz I n (.inr s)) (ht : ¬ pTk s = -1) : CM l G (d + 5) m10_token [.ref 102] I J K n (avS f n s) := by
  refine Cw.mono (c10_token hM hX.2.1 hX.1 hz.2.1 hz.2.2.1 hX.2.2.1 hX.2.2.2 (pVa s)) (fun r h' q => ?_)
  obtain ⟨q1, I', q2, q3, q4, q5, q6⟩ := q
  refine ⟨q1, I', q2, fun c x w => q3 c x (by omega), ?_⟩
  rw [avS, if_neg ht]
  exact ⟨by rw [q3 102 28 (by omega)]; exact hz.1, q4, (advA_at hz.2.2.1 hX.2.2.2).2.1, q5, q6, by rw [q3 102 29 (by omega)]; exact hz.2.2.2.2.2⟩
theorem c10_goOn (hM : MK K) (hX : TX I f n) (hz : Tz I n zz) (ht : ∀ s, zz = .inr s → ¬ pTk s = -1) : CM l G (d + 6) m10_goOn [.ref 102] I J K n (bnd zz (avS f n)) := by
  cases zz with
  | inl e =>
    have h3 := hz.2.2.1
    have h1 := hz.1
    have h2 := hz.2.1
    refine Cw.of ok10_goOn rfl (rfl : argL _ _ = [.ref 102]) ?_
    refine e_aload_n rfl rfl ?_
    refine e_getI rfl f10_205 hM.k rfl ?_
    rw [h3]
    first | refine e_if_neB (tgt := 11) rfl rfl (fun z => ?_) (fun z => ?_) | refine e_if_neN (tgt := 11) rfl rfl (by omega) (fun z => ?_) (fun z => ?_) | refine e_if_ne (tgt := 11) rfl rfl (fun z => ?_) (fun z => ?_)
    · refine e_return rfl rfl ?_
      exact ⟨rfl, I, rfl, FT.rf, hz⟩
    · exact absurd (by assumption) h1
  | inr s =>
    have h3 := hz.1
    refine Cw.of ok10_goOn rfl (rfl : argL _ _ = [.ref 102]) ?_
    refine e_aload_n rfl rfl ?_
    refine e_getI rfl f10_205 hM.k rfl ?_
    rw [h3]
    first | refine e_if_neB (tgt := 11) rfl rfl (fun z => ?_) (fun z => ?_) | refine e_if_neN (tgt := 11) rfl rfl (by omega) (fun z => ?_) (fun z => ?_) | refine e_if_ne (tgt := 11) rfl rfl (fun z => ?_) (fun z => ?_)
    · omega
    · refine e_aload_n rfl rfl ?_
      refine e_callV (kd := 10) (M2 := m10_token) rfl v10_211 ok10_token (c10_tokenM hM hX hz (ht s rfl)) rfl hM.k rfl rfl rfl rfl (fun r1 h1 q1 => ?_)
      obtain ⟨rfl, I1, rfl, g1, L1⟩ := q1
      refine e_return rfl rfl ?_
      exact ⟨rfl, I1, rfl, g1, L1⟩
theorem c10_isWord (hM : MK K) (hz : Tz I n zz) {w : Nat} (hw : w < 21) : Cp l G d m10_isWord [.ref 102, .int (nI w)] (I, J, K) (.int (bI (lvB zz (fun s => decide (pTk s = nI (mwG w + 1)))))) := by
  cases zz with
  | inl e =>
    have h3 := hz.2.2.1
    have h1 := hz.1
    have h2 := hz.2.1
    refine Cp.of ok10_isWord rfl (rfl : argL _ _ = [.ref 102, .int (nI w)]) ?_
    refine e_aload_n rfl rfl ?_
    refine e_getI rfl f10_205 hM.k rfl ?_
    rw [h3]
    first | refine e_if_neB (tgt := 26) rfl rfl (fun z => ?_) (fun z => ?_) | refine e_if_neN (tgt := 26) rfl rfl (by omega) (fun z => ?_) (fun z => ?_) | refine e_if_ne (tgt := 26) rfl rfl (fun z => ?_) (fun z => ?_)
    · refine e_iconst (v := nI 0) rfl ic_0N ?_
      refine e_zreturn rfl rfl ?_ ?_
      · exact Or.inl rfl
      · exact ⟨rfl, rfl⟩
    · exact absurd (by assumption) h1
  | inr s =>
    have h3 := hz.1
    have R := hz.2.2.2.2.1
    have iff := R.wd hw
    show Cp l G d m10_isWord [.ref 102, .int (nI w)] (I, J, K) (.int (bI (decide (s.1.2.1 = nI (mwG w + 1)))))
    refine Cp.of ok10_isWord rfl (rfl : argL _ _ = [.ref 102, .int (nI w)]) ?_
    refine e_aload_n rfl rfl ?_
    refine e_getI rfl f10_205 hM.k rfl ?_
    rw [h3]
    first | refine e_if_neB (tgt := 26) rfl rfl (fun z => ?_) (fun z => ?_) | refine e_if_neN (tgt := 26) rfl rfl (by omega) (fun z => ?_) (fun z => ?_) | refine e_if_ne (tgt := 26) rfl rfl (fun z => ?_) (fun z => ?_)
    · omega
    · refine e_aload_n rfl rfl ?_
      refine e_getI rfl f10_170 hM.k rfl ?_
      refine e_if_ne (tgt := 26) rfl rfl (fun z => ?_) (fun z => ?_)
      · rw [decide_eq_false (fun q => z (iff.mpr q).1)]
        refine e_iconst (v := nI 0) rfl ic_0N ?_
        refine e_zreturn rfl rfl ?_ ?_
        · exact Or.inl rfl
        · exact ⟨rfl, rfl⟩
      · refine e_aload_n rfl rfl ?_
        refine e_getI rfl f10_180 hM.k rfl ?_
        refine e_iload_n rfl rfl ?_
        refine e_icmp_ne (tgt := 26) rfl rfl (fun z2 => ?_) (fun z2 => ?_)
        · rw [decide_eq_false (fun q => z2 (iff.mpr q).2)]
          refine e_iconst (v := nI 0) rfl ic_0N ?_
          refine e_zreturn rfl rfl ?_ ?_
          · exact Or.inl rfl
          · exact ⟨rfl, rfl⟩
        · rw [decide_eq_true (iff.mp ⟨z, z2⟩)]
          refine e_iconst (v := nI 1) rfl ic_1N ?_
          refine e_goto (tgt := 27) rfl rfl ?_
          refine e_zreturn rfl rfl ?_ ?_
          · exact Or.inr rfl
          · exact ⟨rfl, rfl⟩
theorem c10_isSign (hM : MK K) (hz : Tz I n zz) {w : Nat} (hw : w = 40 ∨ w = 41 ∨ w = 42 ∨ w = 43 ∨ w = 45 ∨ w = 47 ∨ w = 59) : Cp l G d m10_isSign [.ref 102, .int (nI w)] (I, J, K) (.int (bI (lvB zz (fun s => decide (pTk s = nI w))))) := by
  cases zz with
  | inl e =>
    have h3 := hz.2.2.1
    have h1 := hz.1
    have h2 := hz.2.1
    refine Cp.of ok10_isSign rfl (rfl : argL _ _ = [.ref 102, .int (nI w)]) ?_
    refine e_aload_n rfl rfl ?_
    refine e_getI rfl f10_205 hM.k rfl ?_
    rw [h3]
    first | refine e_if_neB (tgt := 27) rfl rfl (fun z => ?_) (fun z => ?_) | refine e_if_neN (tgt := 27) rfl rfl (by omega) (fun z => ?_) (fun z => ?_) | refine e_if_ne (tgt := 27) rfl rfl (fun z => ?_) (fun z => ?_)
    · refine e_iconst (v := nI 0) rfl ic_0N ?_
      refine e_zreturn rfl rfl ?_ ?_
      · exact Or.inl rfl
      · exact ⟨rfl, rfl⟩
    · exact absurd (by assumption) h1
  | inr s =>
    have h3 := hz.1
    have R := hz.2.2.2.2.1
    have iff := R.sn hw
    show Cp l G d m10_isSign [.ref 102, .int (nI w)] (I, J, K) (.int (bI (decide (s.1.2.1 = nI w))))
    refine Cp.of ok10_isSign rfl (rfl : argL _ _ = [.ref 102, .int (nI w)]) ?_
    refine e_aload_n rfl rfl ?_
    refine e_getI rfl f10_205 hM.k rfl ?_
    rw [h3]
    first | refine e_if_neB (tgt := 27) rfl rfl (fun z => ?_) (fun z => ?_) | refine e_if_neN (tgt := 27) rfl rfl (by omega) (fun z => ?_) (fun z => ?_) | refine e_if_ne (tgt := 27) rfl rfl (fun z => ?_) (fun z => ?_)
    · omega
    · refine e_aload_n rfl rfl ?_
      refine e_getI rfl f10_170 hM.k rfl ?_
      refine e_iconst (v := nI 3) rfl ic_3N ?_
      refine e_icmp_ne (tgt := 27) rfl rfl (fun z => ?_) (fun z => ?_)
      · rw [decide_eq_false (fun q => z (iff.mpr q).1)]
        refine e_iconst (v := nI 0) rfl ic_0N ?_
        refine e_zreturn rfl rfl ?_ ?_
        · exact Or.inl rfl
        · exact ⟨rfl, rfl⟩
      · refine e_aload_n rfl rfl ?_
        refine e_getI rfl f10_180 hM.k rfl ?_
        refine e_iload_n rfl rfl ?_
        refine e_icmp_ne (tgt := 27) rfl rfl (fun z2 => ?_) (fun z2 => ?_)
        · rw [decide_eq_false (fun q => z2 (iff.mpr q).2)]
          refine e_iconst (v := nI 0) rfl ic_0N ?_
          refine e_zreturn rfl rfl ?_ ?_
          · exact Or.inl rfl
          · exact ⟨rfl, rfl⟩
        · rw [decide_eq_true (iff.mp ⟨z, z2⟩)]
          refine e_iconst (v := nI 1) rfl ic_1N ?_
          refine e_goto (tgt := 28) rfl rfl ?_
          refine e_zreturn rfl rfl ?_ ?_
          · exact Or.inr rfl
          · exact ⟨rfl, rfl⟩
end MRead1
