/-! ===== the reference: what it stands for; keepNow, open, put, dent, find, undo, keep, back ===== -/
def MT (I : IM) (m : Nat) (T : SM) (kn : Int32) : Prop := I 102 59 = nI m ∧ m ≤ 24 ∧ I 102 60 = kn ∧ ∀ i, i < m → I 140 i = T 0 i ∧ I 141 i = T 1 i ∧ (T 0 i = nI 2 → I 142 i = T 2 i) ∧ (¬ T 0 i = nI 3 → I 143 i = T 3 i)
def MI (I : IM) (P : Pl) (S : SM) (im : Bool) (SI : SM) (m : Nat) (T : SM) (kn : Int32) (u : Nat) (Hs : Nat → SM) (B : Nat) : Prop :=
  MP I P ∧ wfX P ∧ RM I 0 (P.1 1) S B ∧ I 102 50 = bI im ∧ (im = true → RM I 2 (P.1 1) SI B) ∧ MT I m T kn ∧ (I 102 51 = nI u ∧ u ≤ 20 ∧ ∀ i, i < u → RM I (3 + i) (P.1 1) (Hs i) B) ∧ I 102 52 = nI 0 ∧ I 102 53 = -1
/-- all but store 0 and the object's own numbers -/
theorem MI.mk' {I I' : IM} {P : Pl} {S S' : SM} {im : Bool} {SI : SM} {m : Nat} {T : SM} {kn : Int32} {u : Nat} {Hs : Nat → SM} {B B' : Nat} (h : MI I P S im SI m T kn u Hs B) (hB : B ≤ B') (hP : ∀ c, 104 ≤ c → c ≤ 121 → I' c = I c) (h0 : RM I' 0 (P.1 1) S' B') (hf : ∀ f c i, 2 ≤ f → f < 23 → onF f c i → I' c i = I c i) (hT : ∀ c, 140 ≤ c → c ≤ 143 → I' c = I c) (ho : ∀ k, 50 ≤ k → k ≤ 60 → k ≠ 57 → k ≠ 58 → I' 102 k = I 102 k) : MI I' P S' im SI m T kn u Hs B' := by
  obtain ⟨h1, h2, h3, h4, h5, ⟨t1, t2, t3, t4⟩, ⟨u1, u2, u3⟩, h8, h9⟩ := h
  have h8n := h2.1.1.2.1
  refine ⟨h1.frame hP, h2, h0, by rw [ho 50 (by omega) (by omega) (by omega) (by omega)]; exact h4, fun q => ((h5 q).frame h8n (fun c i => hf 2 c i (by omega) (by omega))).mono hB, ⟨by rw [ho 59 (by omega) (by omega) (by omega) (by omega)]; exact t1, t2, by rw [ho 60 (by omega) (by omega) (by omega) (by omega)]; exact t3, fun i hi => ?_⟩, ⟨by rw [ho 51 (by omega) (by omega) (by omega) (by omega)]; exact u1, u2, fun i hi => ((u3 i hi).frame h8n (fun c x => hf (3 + i) c x (by omega) (by omega))).mono hB⟩, by rw [ho 52 (by omega) (by omega) (by omega) (by omega)]; exact h8, by rw [ho 53 (by omega) (by omega) (by omega) (by omega)]; exact h9⟩
  rw [hT 140 (by omega) (by omega), hT 141 (by omega) (by omega), hT 142 (by omega) (by omega), hT 143 (by omega) (by omega)]
  exact t4 i hi
/-- of what a question may change -/
def FQm (I : IM) (J : JM) (I' : IM) (J' : JM) : Prop := (∀ c i, ¬ onF 1 c i → ¬ (c = 102 ∧ (i = 0 ∨ i = 36 ∨ i = 57 ∨ i = 58)) → c ≠ 137 → c ≠ 138 → c ≠ 139 → c ≠ 144 → I' c i = I c i) ∧ ∀ c, c ≠ 122 → c ≠ 123 → J' c = J c
theorem FQm.rf {I : IM} {J : JM} : FQm I J I J := ⟨fun _ _ _ _ _ _ _ _ => rfl, fun _ _ _ => rfl⟩
theorem FQm.tr {I I1 I2 : IM} {J J1 J2 : JM} (h : FQm I J I1 J1) (g : FQm I1 J1 I2 J2) : FQm I J I2 J2 := ⟨fun c i a b e1 e2 e3 e4 => (g.1 c i a b e1 e2 e3 e4).trans (h.1 c i a b e1 e2 e3 e4), fun c a b => (g.2 c a b).trans (h.2 c a b)⟩
theorem FM.fq {I I' : IM} {J J' : JM} (h : FM 1 I J I' J') : FQm I J I' J' := ⟨fun c i a b _ _ _ _ => h.1 c i a (fun q => b ⟨q.1, Or.inr (Or.inl q.2)⟩), h.2⟩
theorem FQm.w0 {I : IM} {J : JM} {v : Int32} : FQm I J (u2 I 102 0 v) J := ⟨fun c i _ b _ _ _ _ => if_neg (fun q => b ⟨q.1, Or.inl q.2⟩), fun _ _ _ => rfl⟩
theorem FQm.row {I I' : IM} {J J' : JM} (h : FQm I J I' J') {c : Nat} (hc : c < 102 ∨ 102 < c ∧ c < 124 ∨ 139 < c ∧ c < 144 ∨ 144 < c) : I' c = I c := funext fun i => h.1 c i (by unfold onF; omega) (by omega) (by omega) (by omega) (by omega) (by omega)
theorem FQm.obj {I I' : IM} {J J' : JM} (h : FQm I J I' J') {k : Nat} (h1 : k ≠ 0) (h2 : k ≠ 36) (h3 : k ≠ 57) (h4 : k ≠ 58) : I' 102 k = I 102 k := h.1 102 k (by unfold onF; omega) (by omega) (by omega) (by omega) (by omega) (by omega)
theorem FQm.on {I I' : IM} {J J' : JM} (h : FQm I J I' J') {f c i : Nat} (hf : f ≠ 1) (ho : onF f c i) : I' c i = I c i := h.1 c i (by unfold onF at ho ⊢; omega) (by unfold onF at ho; omega) (by unfold onF at ho; omega) (by unfold onF at ho; omega) (by unfold onF at ho; omega) (by unfold onF at ho; omega)
theorem MP.fq {I I' : IM} {J J' : JM} {P : Pl} (hP : MP I P) (h : FQm I J I' J') : MP I' P := hP.frame (fun c a b => h.row (by omega))
theorem RM.fq {I I' : IM} {J J' : JM} {f n B : Nat} {S : SM} (hR : RM I f n S B) (hn : n ≤ 8) (h : FQm I J I' J') (hf : f ≠ 1) : RM I' f n S B := hR.frame hn (fun c i q => h.on hf q)
theorem MI.fq {I I' : IM} {J J' : JM} {P : Pl} {S : SM} {im : Bool} {SI : SM} {m : Nat} {T : SM} {kn : Int32} {u : Nat} {Hs : Nat → SM} {B : Nat} (h : MI I P S im SI m T kn u Hs B) (g : FQm I J I' J') : MI I' P S im SI m T kn u Hs (B + 1) :=
  h.mk' (by omega) (fun c a b => g.row (by omega)) ((h.2.2.1.fq h.2.1.1.1.2.1 g (by omega)).mono (by omega)) (fun f c i a b q => g.on (by omega) q) (fun c a b => g.row (by omega)) (fun k a b c e => g.obj (by omega) (by omega) c e)
/-- of what any call but feed and text may change -/
def FZ (I : IM) (J : JM) (I' : IM) (J' : JM) : Prop := (∀ c, (c < 102 ∨ c = 103 ∨ 144 < c) → I' c = I c) ∧ (∀ c, (c < 102 ∨ 144 < c) → J' c = J c) ∧ ∀ k, (k = 2 ∨ k = 30 ∨ k = 31) → I' 102 k = I 102 k
theorem FZ.rf {I : IM} {J : JM} : FZ I J I J := ⟨fun _ _ => rfl, fun _ _ => rfl, fun _ _ => rfl⟩
theorem FZ.tr {I I1 I2 : IM} {J J1 J2 : JM} (h : FZ I J I1 J1) (g : FZ I1 J1 I2 J2) : FZ I J I2 J2 := ⟨fun c a => (g.1 c a).trans (h.1 c a), fun c a => (g.2.1 c a).trans (h.2.1 c a), fun k a => (g.2.2 k a).trans (h.2.2 k a)⟩
theorem FQm.fz {I I' : IM} {J J' : JM} (h : FQm I J I' J') : FZ I J I' J' := ⟨fun c a => h.row (by omega), fun c a => h.2 c (by omega) (by omega), fun k a => h.obj (by omega) (by omega) (by omega) (by omega)⟩
theorem FM.fz {f : Nat} {I I' : IM} {J J' : JM} (h : FM f I J I' J') : FZ I J I' J' := ⟨fun c a => h.row (by omega) (by omega), fun c a => h.2 c (by omega) (by omega), fun k a => h.obj (by omega)⟩
theorem FZ.wf {I : IM} {J : JM} {f c i : Nat} {v : Int32} (h : onF f c i) : FZ I J (u2 I c i v) J := (FM.w h).fz
theorem FZ.wo {I : IM} {J : JM} {k : Nat} {v : Int32} (h : k ≠ 2 ∧ k ≠ 30 ∧ k ≠ 31) : FZ I J (u2 I 102 k v) J := ⟨fun c a => u2_row _ _ (by omega), fun _ _ => rfl, fun q a => u2_nk _ _ (by omega)⟩
theorem RM.z {I : IM} {n B : Nat} {S : SM} (h : RM I 0 n S B) {t : Nat} (ht : t < n) : I 133 t = S 0 t ∧ I 132 t = S 1 t ∧ I 131 t = S 2 t ∧ I 134 t = S 4 t ∧ I 135 t = S 5 t := by
  have := h.1 t ht
  rw [show 8 * 0 + t = t by omega] at this
  exact this
theorem RM.w1z {I : IM} {n B : Nat} {S : SM} (h : RM I 0 n S B) {t : Nat} (ht : t < 8) (v : Int32) : RM (u2 I 132 t v) 0 n (u2 S 1 t v) B := by
  have := h.w1 ht v
  rw [show 8 * 0 + t = t by omega] at this
  exact this
theorem RM.put {I : IM} {n B p : Nat} {S : SM} (h : RM I 0 n S B) (h8 : n ≤ 8) {t : Nat} (ht : t < n) (x : Int32) (hp : I 129 0 = nI p) (hB : B < 2 ^ 30) : RM (u2 (u2 (u2 I 131 t x) 130 t (nI p)) 129 0 (nI (p + 1))) 0 n (putS S t x) (B + 1) := by
  obtain ⟨h1, h2, ⟨k1, k2, k3, k4, k5⟩, h4, q, h5, h6, h7⟩ := h
  have row : ∀ c, c ≠ 129 → c ≠ 130 → c ≠ 131 → (u2 (u2 (u2 I 131 t x) 130 t (nI p)) 129 0 (nI (p + 1))) c = I c := fun c a b e => by rw [u2_row _ _ a, u2_row _ _ b, u2_row _ _ e]
  have r131 : ∀ i, (u2 (u2 (u2 I 131 t x) 130 t (nI p)) 129 0 (nI (p + 1))) 131 i = if i = t then x else I 131 i := fun i => by
    rw [u2_ne _ _ (by omega), u2_ne _ _ (by omega)]
    by_cases c : i = t
    · subst c; rw [u2_at, if_pos rfl]
    · rw [u2_nk _ _ c, if_neg c]
  have r130 : ∀ i, (u2 (u2 (u2 I 131 t x) 130 t (nI p)) 129 0 (nI (p + 1))) 130 i = if i = t then nI p else I 130 i := fun i => by
    rw [u2_ne _ _ (by omega)]
    by_cases c : i = t
    · subst c; rw [u2_at, if_pos rfl]
    · rw [u2_nk _ _ c, u2_ne _ _ (by omega), if_neg c]
  have ep : nI p = nI q := hp.symm.trans h5
  refine ⟨fun t' ht' => ?_, fun w hw => ?_, ⟨?_, ?_, ?_, ?_, ?_⟩, fun a ha b hb => ?_, q + 1, ?_, by omega, fun t' ht' => ?_⟩
  · rw [row 133 (by omega) (by omega) (by omega), row 132 (by omega) (by omega) (by omega), row 134 (by omega) (by omega) (by omega), row 135 (by omega) (by omega) (by omega), r131]
    obtain ⟨e1, e2, e3, e4, e5⟩ := h1 t' ht'
    rw [show 8 * 0 + t' = t' by omega] at *
    refine ⟨e1, e2, ?_, e4, e5⟩
    unfold putS
    by_cases c : t' = t
    · rw [if_pos c, if_pos ⟨rfl, c⟩]
    · rw [if_neg c, if_neg (fun q => c q.2), if_neg (by omega)]; exact e3
  · rw [row 136 (by omega) (by omega) (by omega)]; exact h2 w hw
  · rw [row 124 (by omega) (by omega) (by omega)]; exact k1
  · rw [row 126 (by omega) (by omega) (by omega)]; exact k2
  · rw [row 127 (by omega) (by omega) (by omega)]; exact k3
  · rw [row 128 (by omega) (by omega) (by omega)]; exact k4
  · rw [row 125 (by omega) (by omega) (by omega)]; exact k5
  · rw [show 8 * 0 + a = a by omega, show 8 * 0 + b = b by omega, r131, r131, r130, r130]
    have e4 := h4 a ha b hb
    rw [show 8 * 0 + a = a by omega, show 8 * 0 + b = b by omega] at e4
    obtain ⟨ja, ja1, ja2⟩ := h7 a (by omega)
    obtain ⟨jb, jb1, jb2⟩ := h7 b (by omega)
    rw [show 8 * 0 + a = a by omega] at ja2
    rw [show 8 * 0 + b = b by omega] at jb2
    unfold putS
    rw [if_neg (by omega), if_pos (by omega), show 100 + a - 100 = a by omega]
    by_cases ca : a = t
    · subst ca
      rw [if_pos rfl, if_pos rfl, if_pos rfl]
      by_cases cb : b = a
      · rw [if_pos cb, if_pos cb, decide_eq_false (fun z => Int32.lt_irrefl z.2)]; rfl
      · rw [if_neg cb, if_neg cb, ep, jb2, decide_eq_false (fun z => absurd ((nI_ltI (by omega) (by omega)).mp z.2) (by omega))]; rfl
    · rw [if_neg (by omega), if_neg ca, if_neg ca]
      by_cases cb : b = t
      · rw [if_pos cb, if_pos cb, if_pos cb, ep, ja2]
        congr 1
        rw [Bool.eq_iff_iff, decide_eq_true_eq, decide_eq_true_eq]
        have e2 := (h1 a ha).2.2.1
        rw [show 8 * 0 + a = a by omega] at e2
        rw [e2]
        exact ⟨fun z => ⟨z, (nI_ltI (by omega) (by omega)).mpr (by omega)⟩, fun z => z.1⟩
      · rw [if_neg cb, if_neg cb, if_neg cb]; exact e4
  · rw [u2_at, ← nI_add, ep, nI_add]
  · rw [show 8 * 0 + t' = t' by omega, r130]
    obtain ⟨j, j1, j2⟩ := h7 t' ht'
    rw [show 8 * 0 + t' = t' by omega] at j2
    by_cases c : t' = t
    · rw [if_pos c, ep]; exact ⟨q, by omega, rfl⟩
    · rw [if_neg c]; exact ⟨j, by omega, j2⟩
def MPst (I : IM) (J : JM) (K : Kt) (h' : Hp) (P : Pl) (S : SM) (im : Bool) (SI : SM) (m : Nat) (T : SM) (kn : Int32) (u : Nat) (Hs : Nat → SM) (B : Nat) : Prop := ∃ I' J', h' = (I', J', K) ∧ FZ I J I' J' ∧ MI I' P S im SI m T kn u Hs B
section MStt
variable {l : Launch} {G : GG} {d : Nat} {I : IM} {J : JM} {K : Kt} {Q : Option Value → Hp → Prop} {P : Pl} {S : SM} {im : Bool} {SI : SM} {m : Nat} {T : SM} {kn : Int32} {u : Nat} {Hs : Nat → SM} {B n : Nat}
/-- only stores to go back to, and how many -/
def FB (I I' : IM) : Prop := ∀ c i, (∀ f, 3 ≤ f → f < 23 → ¬ onF f c i) → ¬ (c = 102 ∧ i = 51) → I' c i = I c i
theorem FB.fz {I I' : IM} (h : FB I I') : FZ I J I' J := ⟨fun c a => funext fun i => h c i (fun f _ _ => by unfold onF; omega) (by omega), fun _ _ => rfl, fun k a => h 102 k (fun f _ _ => by unfold onF; omega) (by omega)⟩
theorem FB.tr {I I1 I2 : IM} (h : FB I I1) (g : FB I1 I2) : FB I I2 := fun c i a b => (g c i a b).trans (h c i a b)
theorem cp_fb {I I' : IM} {to as : Nat} (h : CP I I' to as 8 8) (h3 : 3 ≤ to) (ht : to < 23) : FB I I' := fun c i a _ => h.1 c i (a to h3 ht)
def FBs (I I' : IM) : Prop := ∀ c i, (∀ f, 3 ≤ f → f < 23 → ¬ onF f c i) → I' c i = I c i
theorem FBs.tr {I I1 I2 : IM} (h : FBs I I1) (g : FBs I1 I2) : FBs I I2 := fun c i a => (g c i a).trans (h c i a)
theorem keep_loop (hM : MK K) (h8 : n ≤ 8) {I0 : IM} : ∀ k i I, i + k = 20 → 1 ≤ i → FBs I0 I → (∀ j, j + 1 < i → RM I (3 + j) n (Hs (j + 1)) B) → (∀ j, i ≤ j + 1 → j < 20 → RM I (3 + j) n (Hs j) B) → (∀ I', FBs I0 I' → (∀ j, j < 19 → RM I' (3 + j) n (Hs (j + 1)) B) → ∀ v, Gw l G (d + 1) m10_keepNow 35 [.ref 102, v] [] (I', J, K) Q) → Gw l G (d + 1) m10_keepNow 11 [.ref 102, .int (nI i)] [] (I, J, K) Q := by
  intro k
  induction k with
  | zero =>
    intro i I hi h1 g ha hb kk
    obtain rfl : i = 20 := by omega
    refine e_iload_n rfl rfl ?_
    refine e_bipush (v := nI 20) rfl bp_20N ?_
    first | refine e_icmp_geN (tgt := 35) rfl rfl (by omega) (by omega) (fun z => ?_) (fun z => ?_) | refine e_icmp_ge (tgt := 35) rfl rfl (fun z => ?_) (fun z => ?_)
    · exact kk I g (fun j hj => ha j (by omega)) _
    · omega
  | succ k ih =>
    intro i I hi h1 g ha hb kk
    refine e_iload_n rfl rfl ?_
    refine e_bipush (v := nI 20) rfl bp_20N ?_
    first | refine e_icmp_geN (tgt := 35) rfl rfl (by omega) (by omega) (fun z => ?_) (fun z => ?_) | refine e_icmp_ge (tgt := 35) rfl rfl (fun z => ?_) (fun z => ?_)
    · omega
    · refine e_aload_n rfl rfl ?_
      refine e_iconst (v := nI 3) rfl ic_3N ?_
      refine e_iload_n rfl rfl ?_
      first | refine e_iaddN rfl ?_ | refine e_iadd rfl ?_
      refine e_iconst (v := nI 1) rfl ic_1N ?_
      first | refine e_isubN rfl (by omega) ?_ | refine e_isub rfl ?_
      refine e_iconst (v := nI 3) rfl ic_3N ?_
      refine e_iload_n rfl rfl ?_
      first | refine e_iaddN rfl ?_ | refine e_iadd rfl ?_
      refine e_callV (kd := 10) (M2 := m10_copies) rfl v10_391 ok10_copies (c10_copies (d := d) (to := 3 + i - 1) (as := 3 + i) hM (by omega) (by omega) (by omega)) rfl hM.k rfl rfl rfl rfl (fun r1 h1 q1 => ?_)
      obtain ⟨rfl, I1, rfl, C1⟩ := q1
      first | refine e_inc1 rfl rfl rfl (incN1 _) ?_ | refine e_inc1 rfl rfl rfl rfl ?_
      refine e_goto (tgt := 11) rfl rfl ?_
      refine ih (i + 1) I1 (by omega) (by omega) (g.tr (fun c i a => C1.1 c i (a _ (by omega) (by omega)))) (fun j hj => ?_) (fun j a b => ?_) kk
      · by_cases q : j + 1 = i
        · have := (hb i (by omega) (by omega)).cp h8 C1
          rw [show 3 + j = 3 + i - 1 by omega, q]
          exact this
        · exact (ha j (by omega)).frame h8 (fun c x o => C1.1 c x (by unfold onF at o ⊢; omega))
      · exact (hb j (by omega) b).frame h8 (fun c x o => C1.1 c x (by unfold onF at o ⊢; omega))
theorem c10_keepNow (hM : MK K) (hR : RM I 0 n S B) (h8 : n ≤ 8) (hu : I 102 51 = nI u) (hu20 : u ≤ 20) (hH : ∀ i, i < u → RM I (3 + i) n (Hs i) B) : Cw l G (d + 1) m10_keepNow [.ref 102] (I, J, K) (fun r h' => r = none ∧ ∃ I', h' = (I', J, K) ∧ FB I I' ∧ I' 102 51 = nI (u1 u) ∧ ∀ i, i < u1 u → RM I' (3 + i) n (H1 u Hs S i) B) := by
  have tail : ∀ q I1, q < 20 → FB I I1 → I1 102 51 = nI q → u1 u = q + 1 → (∀ j, j < q → RM I1 (3 + j) n (H1 u Hs S j) B) → H1 u Hs S q = S → ∀ v, Gw l G (d + 1) m10_keepNow 45 [.ref 102, v] [] (I1, J, K) (fun r h' => r = none ∧ ∃ I', h' = (I', J, K) ∧ FB I I' ∧ I' 102 51 = nI (u1 u) ∧ ∀ i, i < u1 u → RM I' (3 + i) n (H1 u Hs S i) B) := by
    intro q I1 hq g1 e1 eu h1 hS v
    have R1 : RM I1 0 n S B := hR.frame h8 (fun c i o => g1 c i (fun f _ _ => by unfold onF at o ⊢; omega) (by unfold onF at o; omega))
    refine e_aload_n rfl rfl ?_
    refine e_iconst (v := nI 3) rfl ic_3N ?_
    refine e_aload_n rfl rfl ?_
    refine e_getI rfl f10_307 hM.k rfl ?_
    rw [e1]
    first | refine e_iaddN rfl ?_ | refine e_iadd rfl ?_
    refine e_iconst (v := nI 0) rfl ic_0N ?_
    refine e_callV (kd := 10) (M2 := m10_copies) rfl v10_391 ok10_copies (c10_copies (d := d) (to := 3 + q) (as := 0) hM (by omega) (by omega) (by omega)) rfl hM.k rfl rfl rfl rfl (fun r1 h1 q1 => ?_)
    obtain ⟨rfl, I2, rfl, C2⟩ := q1
    have e2 : I2 102 51 = nI q := by rw [C2.1 _ _ (by unfold onF; omega)]; exact e1
    refine e_aload_n rfl rfl ?_
    refine e_dup rfl rfl ?_
    refine e_getI rfl f10_307 hM.k rfl ?_
    rw [e2]
    refine e_iconst (v := nI 1) rfl ic_1N ?_
    first | refine e_iaddN rfl ?_ | refine e_iadd rfl ?_
    refine e_putI rfl f10_307 hM.k rfl rfl ?_
    refine e_return rfl rfl ?_
    refine ⟨rfl, _, rfl, (g1.tr (cp_fb C2 (by omega) (by omega))).tr (fun c i _ b => if_neg b), by rw [u2_at, eu], fun i hi => ?_⟩
    have fr : ∀ f c x, onF f c x → u2 I2 102 51 (nI (q + 1)) c x = I2 c x := fun f c x o => u2_ne _ _ (by unfold onF at o; omega)
    by_cases c : i = q
    · subst c
      rw [hS]
      exact (R1.cp h8 C2).frame h8 (fr _)
    · exact ((h1 i (by omega)).frame h8 (fun c x o => C2.1 c x (by unfold onF at o ⊢; omega))).frame h8 (fr _)
  refine Cw.of ok10_keepNow rfl (rfl : argL _ _ = [.ref 102, .null]) ?_
  refine e_aload_n rfl rfl ?_
  refine e_getI rfl f10_307 hM.k rfl ?_
  rw [hu]
  refine e_bipush (v := nI 20) rfl bp_20N ?_
  first | refine e_icmp_neN (tgt := 45) rfl rfl (by omega) (by omega) (fun z => ?_) (fun z => ?_) | refine e_icmp_ne (tgt := 45) rfl rfl (fun z => ?_) (fun z => ?_)
  · have y : u ≠ 20 := by assumption
    have e1 : u1 u = u + 1 := if_neg y
    refine tail u I (by omega) (fun _ _ _ _ => rfl) hu e1 (fun j hj => ?_) (by unfold H1; rw [if_neg y, if_pos rfl]) _
    unfold H1
    rw [if_neg y, if_neg (by omega), if_neg y]
    exact hH j hj
  · have y : u = 20 := by assumption
    subst y
    refine e_iconst (v := nI 1) rfl ic_1N ?_
    refine e_ist1 rfl rfl rfl ?_
    refine keep_loop (I0 := I) (Hs := Hs) (B := B) hM h8 19 1 I (by omega) (by omega) (fun _ _ _ => rfl) (fun j hj => absurd hj (by omega)) (fun j _ b => hH j b) (fun I1 g1 R1 v => ?_)
    have e1 : I1 102 51 = nI 20 := by rw [g1 102 51 (fun f _ _ => by unfold onF; omega)]; exact hu
    refine e_aload_n rfl rfl ?_
    refine e_dup rfl rfl ?_
    refine e_getI rfl f10_307 hM.k rfl ?_
    rw [e1]
    refine e_iconst (v := nI 1) rfl ic_1N ?_
    first | refine e_isubN rfl (by omega) ?_ | refine e_isub rfl ?_
    refine e_putI rfl f10_307 hM.k rfl rfl ?_
    refine tail 19 _ (by omega) (fun c i a b => (if_neg b).trans (g1 c i a)) (u2_at _ _ _ _) rfl (fun j hj => ?_) rfl _
    have eH : H1 20 Hs S j = Hs (j + 1) := by
      unfold H1
      rw [if_neg (by rw [if_pos rfl]; omega), if_pos rfl]
    rw [eH]
    exact (R1 j hj).frame h8 (fun c x o => u2_ne _ _ (by unfold onF at o; omega))
end MStt
