/-! ===== the law: what holds between two calls ===== -/
section LawFr
variable {I I' : IM} {J J' : JM} {P : Pl} {S : SM} {im : Bool} {SI : SM} {m : Nat} {T : SM} {kn : Int32} {u : Nat} {Hs : Nat → SM} {B t : Nat} {f : Nat → Nat} {fk : Nat} {fp : Int32}
theorem CI.lo (h : CI I J P S im SI m T kn u Hs B) (f : ∀ c, c ≤ 101 → I' c = I c) (g : ∀ c, c ≤ 101 → J' c = J c) : CI I' J' P S im SI m T kn u Hs B := by
  obtain ⟨h1, h2, h3, h4, h5, h6, h7, h8⟩ := h
  refine ⟨h1.frame (fun c a b => f c (by omega)), h2, h3.frame (fun c a b => f c (by omega)) (by rw [g 62 (by omega)]), h4.frame (f _ (by omega)) (f _ (by omega)), by rw [f 0 (by omega)]; exact h5, fun hi => ?_, h7.frame (fun c a b => f c (by omega)), (by
    obtain ⟨U, u1, u2⟩ := h8
    refine ⟨U, u1.frame (fun c a b => f c (by omega)), u2.sm (by have := h3.2.1; omega) (by rw [g 62 (by omega)]) (Nat.le_refl _) ⟨fun r r1 r2 t ht => ?_, fun w hw => ?_, fun k a b => ?_⟩⟩ <;> rw [f _ (by omega)])⟩
  obtain ⟨a1, a2⟩ := h6 hi
  exact ⟨a1.frame (fun c a b => f c (by omega)) (by rw [g 78 (by omega)]), a2.frame (f _ (by omega)) (f _ (by omega))⟩
theorem TP.lo (h : TP I t f fk fp) (g : ∀ c, c ≤ 101 → I' c = I c) : TP I' t f fk fp := by
  obtain ⟨h1, h2, h3, h4, h5, ⟨m1, m2, m3, m4⟩, h7, h8⟩ := h
  exact ⟨by rw [g 0 (by omega)]; exact h1, h2, fun j hj => by rw [g 1 (by omega)]; exact h3 j hj, h4, fun k hk => by rw [g 31 (by omega)]; exact h5 k hk, ⟨by rw [g _ (by omega)]; exact m1, by rw [g _ (by omega)]; exact m2, by rw [g _ (by omega)]; exact m3, by rw [g _ (by omega)]; exact m4⟩, by rw [g 2 (by omega)]; exact h7, by rw [g 2 (by omega)]; exact h8⟩
theorem MI.hi (h : MI I P S im SI m T kn u Hs B) (g : ∀ c, 102 ≤ c → I' c = I c) : MI I' P S im SI m T kn u Hs B :=
  h.mk' (Nat.le_refl _) (fun c a b => g c (by omega)) (h.2.2.1.frame h.2.1.1.1.2.1 (fun c i o => by rw [g c (by unfold onF at o; omega)])) (fun f c i a b o => by rw [g c (by unfold onF at o; omega)]) (fun c a b => g c (by omega)) (fun k a b _ _ => by rw [g 102 (by omega)])
theorem TQ.hi (h : TQ I t f fk fp) (g : ∀ c, 102 ≤ c → I' c = I c) : TQ I' t f fk fp := by
  obtain ⟨h1, h2, h3, h4, h5, h6⟩ := h
  exact ⟨by rw [g 102 (by omega)]; exact h1, h2, fun j hj => by rw [g 103 (by omega)]; exact h3 j hj, h4, by rw [g 102 (by omega)]; exact h5, by rw [g 102 (by omega)]; exact h6⟩
end LawFr
/-- the cells of both, and the law's row -/
def AK' (K : Kt) : Prop := GK K ∧ MK K ∧ K.2.1 145 = (23, 1) ∧ 146 ≤ K.2.2
/-- both stand for the same -/
def Ivc (I : IM) (J : JM) (P : Pl) (S : SM) (im : Bool) (SI : SM) (m : Nat) (T : SM) (kn : Int32) (u : Nat) (Hs : Nat → SM) (B t : Nat) (f : Nat → Nat) (fk : Nat) (fp : Int32) : Prop := CI I J P S im SI m T kn u Hs B ∧ TP I t f fk fp ∧ MI I P S im SI m T kn u Hs B ∧ TQ I t f fk fp ∧ OS P S im SI m T kn u Hs
def Inv (h : Hp) (B : Nat) : Prop := ∃ I J K P S im SI m T kn u Hs t f fk fp, h = (I, J, K) ∧ AK' K ∧ Ivc I J P S im SI m T kn u Hs B t f fk fp
/-- a call of each, to the same answer -/
def TC (l : Launch) (G : GG) (d : Nat) (M9 M10 : MD) (as : List Value) (h : Hp) (V : Value) (B : Nat) : Prop := ∃ h1, Ct l G (d + 128) 0 0 M9 (.ref 0 :: as) h (some V) h1 ∧ ∃ h2, Ct l G (d + 128) 0 0 M10 (.ref 102 :: as) h1 (some V) h2 ∧ Inv h2 (B + 2) ∧ (mS h 0).1 = 9 ∧ (mS h1 102).1 = 10
section LawTC
variable {l : Launch} {G : GG} {d : Nat} {I : IM} {J : JM} {K : Kt} {P : Pl} {S S' : SM} {im im' : Bool} {SI SI' : SM} {m m' : Nat} {T T' : SM} {kn kn' : Int32} {u u' : Nat} {Hs Hs' : Nat → SM} {B t : Nat} {f : Nat → Nat} {fk : Nat} {fp : Int32} {M9 M10 : MD} {as : List Value} {V : Value}
/-- behind the class's call -/
theorem Ivc.mid {I1 : IM} {J1 : JM} (h : Ivc I J P S im SI m T kn u Hs B t f fk fp) (g : FX I J I1 J1) : MI I1 P S im SI m T kn u Hs B ∧ TQ I1 t f fk fp ∧ TP I1 t f fk fp := ⟨h.2.2.1.hi (fun c hc => g.1 c (by omega)), h.2.2.2.1.hi (fun c hc => g.1 c (by omega)), h.2.1.fx g⟩
theorem tc_w (hK : AK' K) (h : Ivc I J P S im SI m T kn u Hs B t f fk fp) (c : Cw l G (d + 128) M9 (.ref 0 :: as) (I, J, K) (fun r h' => r = some V ∧ Pst I J K h' P S' im' SI' m' T' kn' u' Hs' (B + 1))) (c2 : ∀ I1 J1, MI I1 P S im SI m T kn u Hs B → TQ I1 t f fk fp → Cw l G (d + 128) M10 (.ref 102 :: as) (I1, J1, K) (fun r h' => r = some V ∧ MPst I1 J1 K h' P S' im' SI' m' T' kn' u' Hs' (B + 2))) (hO : OS P S' im' SI' m' T' kn' u' Hs') : TC l G d M9 M10 as (I, J, K) V B := by
  obtain ⟨r1, h1, k1, e1, I1, J1, e2, g1, C1⟩ := c
  subst e1
  subst e2
  obtain ⟨m1, m2, m3⟩ := h.mid g1
  obtain ⟨r2, h2, k2, e3, I2, J2, e4, g2, M2⟩ := c2 I1 J1 m1 m2
  subst e3
  subst e4
  refine ⟨_, k1, _, k2, ⟨I2, J2, K, P, S', im', SI', m', T', kn', u', Hs', t, f, fk, fp, rfl, hK, ?_, ?_, M2, m2.fz g2, hO⟩, hK.1.1.1, hK.2.1.k⟩
  · exact (C1.lo (fun c hc => g2.1 c (by omega)) (fun c hc => g2.2.1 c (by omega))).mono (by omega)
  · exact m3.lo (fun c hc => g2.1 c (by omega))
theorem tc_p (hK : AK' K) (h : Ivc I J P S im SI m T kn u Hs B t f fk fp) (c : Cp l G (d + 128) M9 (.ref 0 :: as) (I, J, K) V) (c2 : Cw l G (d + 128) M10 (.ref 102 :: as) (I, J, K) (fun r h' => r = some V ∧ MPst I J K h' P S im SI m T kn u Hs (B + 2))) : TC l G d M9 M10 as (I, J, K) V B := by
  obtain ⟨r2, h2, k2, e3, I2, J2, e4, g2, M2⟩ := c2
  subst e3
  subst e4
  refine ⟨_, c, _, k2, ⟨I2, J2, K, P, S, im, SI, m, T, kn, u, Hs, t, f, fk, fp, rfl, hK, ?_, ?_, M2, h.2.2.2.1.fz g2, h.2.2.2.2⟩, hK.1.1.1, hK.2.1.k⟩
  · exact (h.1.lo (fun c hc => g2.1 c (by omega)) (fun c hc => g2.2.1 c (by omega))).mono (by omega)
  · exact h.2.1.lo (fun c hc => g2.1 c (by omega))
theorem tc_named (hK : AK' K) (h : Ivc I J P S im SI m T kn u Hs B t f fk fp) (w x : Int32) : TC l G d m9_named m10_named [.int w, .int x] (I, J, K) (.int (a_named P w x)) B :=
  tc_p hK h (by have := c9_named (l := l) (G := G) (d := d + 126) (J := J) hK.1 h.1.1 w x; rw [show fnd (I 36) x (P.1 0) 0 = fnd (P.2 0) x (P.1 0) 0 from fnd_congr _ _ (fun j _ hj => h.1.1.2.2.2.2.2.1 0 (by omega) j (by omega)), show fnd (I 41) x (P.1 1) 0 = fnd (P.2 3) x (P.1 1) 0 from fnd_congr _ _ (fun j _ hj => h.1.1.2.2.2.2.2.2.1 0 (by omega) j (by omega))] at this; exact this) (c10_named hK.2.1 h.2.2.1 w x)
theorem tc_fault (hK : AK' K) (h : Ivc I J P S im SI m T kn u Hs B t f fk fp) (w : Int32) : TC l G d m9_fault m10_fault [.int w] (I, J, K) (.int (a_fault fk fp w)) B :=
  tc_p hK h (by have := c9_fault (l := l) (G := G) (d := d + 128) (I := I) (J := J) hK.1 w; rw [h.2.1.2.2.2.2.2.2.1, h.2.1.2.2.2.2.2.2.2] at this; exact this) (c10_fault hK.2.1 h.2.2.1 h.2.2.2.1.2.2.2.2.1 h.2.2.2.1.2.2.2.2.2 w)
theorem tc_kind (hK : AK' K) (h : Ivc I J P S im SI m T kn u Hs B t f fk fp) (k w : Int32) : TC l G d m9_kind m10_kind [.int k, .int w] (I, J, K) (.int (a_kind P S (P.1 1) k w)) B :=
  tc_p hK h (c9_kind hK.1 h.1.1 h.1.2.2.1 rfl k w) (c10_kind hK.2.1 h.2.2.1 rfl k w)
theorem tc_want (hK : AK' K) (h : Ivc I J P S im SI m T kn u Hs B t f fk fp) (k w : Int32) : TC l G d m9_want m10_want [.int k, .int w] (I, J, K) (.int (a_want P S k w)) B :=
  tc_p hK h (c9_want hK.1 h.1.1 h.1.2.2.1 k w) (c10_want hK.2.1 h.2.2.1 k w)
theorem tc_top (hK : AK' K) (h : Ivc I J P S im SI m T kn u Hs B t f fk fp) (x : Int32) : TC l G d m9_top m10_top [.int x] (I, J, K) (.int (a_top S (P.1 1) x)) B :=
  tc_p hK h (c9_top hK.1 h.1.2.2.1 x) (c10_top hK.2.1 h.2.2.1 rfl x)
theorem tc_above (hK : AK' K) (h : Ivc I J P S im SI m T kn u Hs B t f fk fp) (x : Int32) : TC l G d m9_above m10_above [.int x] (I, J, K) (.int (a_above S (P.1 1) x)) B :=
  tc_p hK h (c9_above hK.1 h.1.2.2.1 x) (c10_above hK.2.1 h.2.2.1 rfl x)
theorem tc_tidy (hK : AK' K) (h : Ivc I J P S im SI m T kn u Hs B t f fk fp) (x : Int32) : TC l G d m9_tidy m10_tidy [.int x] (I, J, K) (.int (a_tidy P S (P.1 1) x)) B :=
  tc_p hK h (c9_tidy hK.1 h.1.1 h.1.2.2.1 rfl x) (c10_tidy hK.2.1 h.2.2.1 rfl x)
theorem tc_rests (hK : AK' K) (h : Ivc I J P S im SI m T kn u Hs B t f fk fp) (x : Int32) : TC l G d m9_rests m10_rests [.int x] (I, J, K) (.int (a_rests S (P.1 1) x)) B :=
  tc_p hK h (c9_rests hK.1 h.1.2.2.1 (h.2.2.2.2.1.wfS (by omega)) rfl x) (c10_rests hK.2.1 h.2.2.1 rfl h.2.2.2.2.1.1 x)
theorem tc_rest (hK : AK' K) (h : Ivc I J P S im SI m T kn u Hs B t f fk fp) (x y : Int32) : TC l G d m9_rest m10_rest [.int x, .int y] (I, J, K) (.int (a_rest S (P.1 1) x y)) B :=
  tc_p hK h (c9_rest hK.1 h.1.2.2.1 (h.2.2.2.2.1.wfS (by omega)) rfl x y) (c10_rest hK.2.1 h.2.2.1 rfl h.2.2.2.2.1.1 x y)
theorem tc_whole (hK : AK' K) (h : Ivc I J P S im SI m T kn u Hs B t f fk fp) (x y : Int32) : TC l G d m9_whole m10_whole [.int x, .int y] (I, J, K) (.long (a_whole P x y)) B :=
  tc_p hK h (c9_whole hK.1 h.1.1 h.1.2.1 x y) (c10_whole hK.2.1 h.2.2.1 x y)
theorem tc_unmet (hK : AK' K) (h : Ivc I J P S im SI m T kn u Hs B t f fk fp) : TC l G d m9_unmet m10_unmet [] (I, J, K) (.int (a_unmet P S (P.1 1))) B :=
  tc_p hK h (c9_unmet hK.1 h.1.1 h.1.2.2.1 rfl) (c10_unmet hK.2.1 h.2.2.1 rfl)
theorem tc_which (hK : AK' K) (h : Ivc I J P S im SI m T kn u Hs B t f fk fp) : TC l G d m9_which m10_which [] (I, J, K) (.int (a_which P m T kn)) B :=
  tc_p hK h (c9_which hK.1 h.1.1 h.1.2.2.2.2.2.2.1 h.2.2.2.2.2.2.2.1) (c10_which hK.2.1 h.2.2.1 h.2.2.2.2.2.2.2.1 h.2.2.2.2.2.2.2.2.1)
theorem tc_ask (hK : AK' K) (h : Ivc I J P S im SI m T kn u Hs B t f fk fp) (x : Int32) : TC l G d m9_ask m10_ask [.int x] (I, J, K) (.int (a_ask P m T kn x)) B :=
  tc_p hK h (c9_ask hK.1 h.1.1 h.1.2.2.2.2.2.2.1 h.2.2.2.2.2.2.2.1 x) (c10_ask hK.2.1 h.2.2.1 h.2.2.2.2.2.2.2.1 h.2.2.2.2.2.2.2.2.1 x)
theorem tc_count (hK : AK' K) (h : Ivc I J P S im SI m T kn u Hs B t f fk fp) (x : Int32) : TC l G d m9_count m10_count [.int x] (I, J, K) (.int (a_count P S (P.1 1) m kn u x)) B :=
  tc_p hK h (c9_count hK.1 h.1 rfl x) (c10_count hK.2.1 h.2.2.1 rfl h.2.2.2.2.1.2.1 h.2.2.2.2.2.2.2.1.2.2.2.1 x)
theorem tc_law (hK : AK' K) (h : Ivc I J P S im SI m T kn u Hs B t f fk fp) (x y z : Int32) : TC l G d m9_law m10_law [.int x, .int y, .int z] (I, J, K) (.long (a_law P S (P.1 1) x y z)) B :=
  tc_w hK h (c9_law hK.1 h.1 rfl x y z) (fun I1 J1 m1 m2 => c10_law hK.2.1 m1 rfl x y z) (h.2.2.2.2)
theorem tc_ahead (hK : AK' K) (h : Ivc I J P S im SI m T kn u Hs B t f fk fp) (x y : Int32) : TC l G d m9_ahead m10_ahead [.int x, .int y] (I, J, K) (.int (a_ahead P (P.1 1) S x y)) B :=
  tc_w hK h (c9_ahead hK.1 h.1 rfl x y) (fun I1 J1 m1 m2 => c10_ahead hK.2.1 m1 rfl h.2.2.2.2.1 x y) (h.2.2.2.2)
theorem tc_order (hK : AK' K) (h : Ivc I J P S im SI m T kn u Hs B t f fk fp) (x : Int32) : TC l G d m9_order m10_order [.int x] (I, J, K) (.int (a_order P (P.1 1) S x)) B :=
  tc_w hK h (c9_order hK.1 h.1 (h.2.2.2.2.1.wfS (by omega)) (WF_wfQ h.2.2.1.2.1.1) rfl x) (fun I1 J1 m1 m2 => c10_order hK.2.1 m1 rfl h.2.2.2.2.1.1 x) (h.2.2.2.2)
theorem tc_best (hK : AK' K) (h : Ivc I J P S im SI m T kn u Hs B t f fk fp) (x y : Int32) : TC l G d m9_best m10_best [.int x, .int y] (I, J, K) (.int (a_best P (P.1 1) S x y)) B :=
  tc_w hK h (c9_best hK.1 h.1 (h.2.2.2.2.1.wfS (by omega)) rfl x y) (fun I1 J1 m1 m2 => c10_best hK.2.1 m1 rfl h.2.2.2.2.1.1 x y) (h.2.2.2.2)
theorem tc_blows (hK : AK' K) (h : Ivc I J P S im SI m T kn u Hs B t f fk fp) (x : Int32) : TC l G d m9_blows m10_blows [.int x] (I, J, K) (.int (a_blows P (P.1 1) S x)) B :=
  tc_w hK h (c9_blows hK.1 h.1 rfl x) (fun I1 J1 m1 m2 => c10_blows hK.2.1 m1 rfl h.2.2.2.2.1.1 x) (h.2.2.2.2)
theorem tc_dented (hK : AK' K) (h : Ivc I J P S im SI m T kn u Hs B t f fk fp) (x : Int32) : TC l G d m9_dented m10_dented [.int x] (I, J, K) (.int (a_dented P (P.1 1) m T kn x)) B :=
  tc_w hK h (c9_dented hK.1 h.1 h.2.2.2.2.2.2.2.1 rfl x) (fun I1 J1 m1 m2 => c10_dented hK.2.1 m1 rfl h.2.2.2.2.2.2.2.1 h.2.2.2.2.2.2.2.2.1 x) (h.2.2.2.2)
theorem tc_chance (hK : AK' K) (h : Ivc I J P S im SI m T kn u Hs B t f fk fp) (x y z : Int32) : TC l G d m9_chance m10_chance [.int x, .int y, .int z] (I, J, K) (.int (a_chance P (P.1 1) S x y z)) B :=
  tc_w hK h (c9_chance hK.1 h.1 rfl x y z) (fun I1 J1 m1 m2 => c10_chance hK.2.1 m1 rfl h.2.2.2.2.1.1 x y z) (h.2.2.2.2)
theorem tc_tried (hK : AK' K) (h : Ivc I J P S im SI m T kn u Hs B t f fk fp) (x y z : Int32) : TC l G d m9_tried m10_tried [.int x, .int y, .int z] (I, J, K) (.int (a_tried P (P.1 1) S x y z)) B :=
  tc_w hK h (c9_tried hK.1 h.1 (h.2.2.2.2.1.wfS (by omega)) rfl x y z) (fun I1 J1 m1 m2 => c10_tried hK.2.1 m1 rfl h.2.2.2.2.1.1 x y z) (h.2.2.2.2)
theorem tc_open (hK : AK' K) (h : Ivc I J P S im SI m T kn u Hs B t f fk fp) (x : Int32) : TC l G d m9_open m10_open [.int x] (I, J, K) (.int (a_open P S (P.1 1) x)) B :=
  tc_w hK h (c9_openP hK.1 h.1 (h.2.2.2.2.1.wfS (by omega)) rfl x) (fun I1 J1 m1 m2 => c10_open hK.2.1 m1 rfl h.2.2.2.2.1.1 x) (by
    by_cases c : isOp S (P.1 1) x = true
    · simp only [if_pos c]; exact h.2.2.2.2.push (h.2.2.2.2.1.uns (of_decide_eq_true (Bool.and_eq_true_iff.mp (Bool.and_eq_true_iff.mp c).2).2))
    · simp only [if_neg c]; exact h.2.2.2.2)
theorem tc_put (hK : AK' K) (h : Ivc I J P S im SI m T kn u Hs B t f fk fp) (hB : B < 2 ^ 28) (x y : Int32) : TC l G d m9_put m10_put [.int x, .int y] (I, J, K) (.int (bI (isPut S (P.1 1) x y))) B :=
  tc_w hK h (c9_put hK.1 h.1 (by omega) rfl x y) (fun I1 J1 m1 m2 => c10_put hK.2.1 m1 rfl (by omega) x y) (by
    by_cases c : isPut S (P.1 1) x y = true
    · simp only [if_pos c]; exact h.2.2.2.2.push (h.2.2.2.2.1.put _ _)
    · simp only [if_neg c]; exact h.2.2.2.2)
theorem tc_dent_o (h : Ivc I J P S im SI m T kn u Hs B t f fk fp) (x : Int32) : OS P (if isDent S (P.1 1) x = true then u2 S 1 x.toNatClampNeg (S 1 x.toNatClampNeg + nI 1) else S) im SI m T kn (if isDent S (P.1 1) x = true then u1 u else u) (if isDent S (P.1 1) x = true then H1 u Hs S else Hs) := by
  by_cases c : isDent S (P.1 1) x = true
  · rw [if_pos c, if_pos c, if_pos c]
    unfold isDent at c
    rw [Bool.and_eq_true, Bool.and_eq_true] at c
    have h8 := h.2.2.1.2.1.1.1.2.1
    obtain ⟨j, j1, rfl⟩ := inN_is (by omega) c.1
    have hd := of_decide_eq_true c.2.2
    rw [nI_clamp (by omega)] at hd ⊢
    exact h.2.2.2.2.push (h.2.2.2.2.1.dent hd j1)
  · rw [if_neg c, if_neg c, if_neg c]; exact h.2.2.2.2
theorem tc_go_o (h : Ivc I J P S im SI m T kn u Hs B t f fk fp) (x : Int32) : OS P (if isGo S x = true then itS (pa0 P true (P.1 1)) x.toNatClampNeg S else S) im SI m T kn (if isGo S x = true ∧ ¬ x = nI 0 then 0 else u) Hs := by
  obtain ⟨o1, o2, o3, o4, o5, o6⟩ := h.2.2.2.2
  refine ⟨?_, o2, fun i hi => ?_, o4, o5, ?_⟩
  · split
    · exact o1.go h.2.2.1.2.1.1 (by assumption)
    · exact o1
  · by_cases c : isGo S x = true ∧ ¬ x = nI 0
    · rw [if_pos c] at hi; omega
    · rw [if_neg c] at hi; exact o3 i hi
  · split <;> omega
theorem tc_dent (hK : AK' K) (h : Ivc I J P S im SI m T kn u Hs B t f fk fp) (x : Int32) : TC l G d m9_dent m10_dent [.int x] (I, J, K) (.int (a_dent S (P.1 1) x)) B :=
  tc_w hK h (c9_dent hK.1 h.1 rfl x) (fun I1 J1 m1 m2 => c10_dent hK.2.1 m1 rfl h.2.2.2.2.1.1 x) (tc_dent_o h x)
theorem tc_find (hK : AK' K) (h : Ivc I J P S im SI m T kn u Hs B t f fk fp) (x : Int32) : TC l G d m9_find m10_find [.int x] (I, J, K) (.int (a_find S x)) B :=
  tc_w hK h (c9_find hK.1 h.1 rfl x) (fun I1 J1 m1 m2 => c10_find hK.2.1 m1 rfl x) (by
    by_cases c : isFind S x = true
    · simp only [if_pos c]; exact h.2.2.2.2.push (h.2.2.2.2.1.find c)
    · simp only [if_neg c]; exact h.2.2.2.2)
theorem tc_go (hK : AK' K) (h : Ivc I J P S im SI m T kn u Hs B t f fk fp) (x : Int32) : TC l G d m9_go m10_go [.int x] (I, J, K) (.int (a_go P (P.1 1) S x)) B :=
  tc_w hK h (c9_go hK.1 h.1 rfl x) (fun I1 J1 m1 m2 => c10_go hK.2.1 m1 rfl h.2.2.2.2.1.1 x) (tc_go_o h x)
theorem tc_strike (hK : AK' K) (h : Ivc I J P S im SI m T kn u Hs B t f fk fp) (x : Int32) : TC l G d m9_strike m10_strike [.int x] (I, J, K) (.int (if inN m x = true then addA m else -1)) B :=
  tc_w hK h (c9_strike hK.1 h.1 x) (fun I1 J1 m1 m2 => c10_strike hK.2.1 m1 x) (by
    by_cases c : inN m x = true
    · simp only [if_pos c]; exact h.2.2.2.2.strike c
    · simp only [if_neg c]; exact h.2.2.2.2)
theorem tc_known (hK : AK' K) (h : Ivc I J P S im SI m T kn u Hs B t f fk fp) (x : Int32) : TC l G d m9_known m10_known [.int x] (I, J, K) (.int (bI (isKnown m x))) B :=
  tc_w hK h (c9_known hK.1 h.1 x) (fun I1 J1 m1 m2 => c10_known hK.2.1 m1 x) (by
    by_cases c : isKnown m x = true
    · simp only [if_pos c]; exact h.2.2.2.2.known c
    · simp only [if_neg c]; exact h.2.2.2.2)
theorem tc_note (hK : AK' K) (h : Ivc I J P S im SI m T kn u Hs B t f fk fp) (w x : Int32) (is : Bool) : TC l G d m9_note m10_note [.int w, .int x, .int (bI is)] (I, J, K) (.int (if isNote w x = true then addA m else -1)) B :=
  tc_w hK h (c9_note hK.1 h.1 w x is) (fun I1 J1 m1 m2 => c10_note hK.2.1 m1 w x is) (by
    by_cases c : isNote w x = true
    · simp only [if_pos c]; exact h.2.2.2.2.note c
    · simp only [if_neg c]; exact h.2.2.2.2)
theorem tc_see (hK : AK' K) (h : Ivc I J P S im SI m T kn u Hs B t f fk fp) (x y : Int32) (is : Bool) : TC l G d m9_see m10_see [.int x, .int y, .int (bI is)] (I, J, K) (.int (if isSee (P.1 1) x y = true then addA m else -1)) B :=
  tc_w hK h (c9_see hK.1 h.1 rfl x y is) (fun I1 J1 m1 m2 => c10_see hK.2.1 m1 rfl x y is) (by
    by_cases c : isSee (P.1 1) x y = true
    · simp only [if_pos c]; exact h.2.2.2.2.see h.2.2.1.2.1.1.1.2.1 c
    · simp only [if_neg c]; exact h.2.2.2.2)
theorem tc_undo (hK : AK' K) (h : Ivc I J P S im SI m T kn u Hs B t f fk fp) : TC l G d m9_undo m10_undo [] (I, J, K) (.int (if u = 0 then -1 else nI (u - 1))) B :=
  tc_w hK h (c9_undo hK.1 h.1 rfl) (fun I1 J1 m1 m2 => c10_undo hK.2.1 m1 rfl) (by
    obtain ⟨o1, o2, o3, o4, o5, o6⟩ := h.2.2.2.2
    refine ⟨?_, o2, fun i hi => o3 i (by omega), o4, o5, by omega⟩
    split
    · exact o1
    · exact o3 _ (by omega))
theorem tc_keep (hK : AK' K) (h : Ivc I J P S im SI m T kn u Hs B t f fk fp) : TC l G d m9_keep m10_keep [] (I, J, K) (.int (S 8 0)) B :=
  tc_w hK h (c9_keep hK.1 h.1 rfl) (fun I1 J1 m1 m2 => c10_keep hK.2.1 m1 rfl) (by
    obtain ⟨o1, o2, o3, o4, o5, o6⟩ := h.2.2.2.2
    exact ⟨o1, fun _ => o1, o3, o4, o5, o6⟩)
theorem tc_back (hK : AK' K) (h : Ivc I J P S im SI m T kn u Hs B t f fk fp) : TC l G d m9_back m10_back [] (I, J, K) (.int (if im = true then SI 8 0 else -1)) B :=
  tc_w hK h (c9_back hK.1 h.1 rfl) (fun I1 J1 m1 m2 => c10_back hK.2.1 m1 rfl) (by
    obtain ⟨o1, o2, o3, o4, o5, o6⟩ := h.2.2.2.2
    by_cases c : im = true
    · rw [if_pos c, if_pos c]; exact ⟨o2 c, o2, fun i hi => absurd hi (by omega), o4, o5, by omega⟩
    · rw [if_neg c, if_neg c]; exact ⟨o1, o2, o3, o4, o5, o6⟩)
theorem tc_feed (hK : AK' K) (h : Ivc I J P S im SI m T kn u Hs B t f fk fp) (a b c e g : Int32) : TC l G d m9_feed m10_feed [.int a, .int b, .int c, .int e, .int g] (I, J, K) (.int (if t + 20 ≤ 700 then nI (t + 20) else -1)) B := by
  obtain ⟨r1, h1, k1, e1, I1, e2, f1, f2, T1⟩ := c9_feed (l := l) (G := G) (d := d + 127) (J := J) hK.1 h.2.1 a b c e g
  subst e1
  subst e2
  have m1 : MI I1 P S im SI m T kn u Hs B := h.2.2.1.hi (fun c hc => f1 c (by omega) (by omega))
  have m2 : TQ I1 t f fk fp := h.2.2.2.1.hi (fun c hc => f1 c (by omega) (by omega))
  obtain ⟨r2, h2, k2, e3, I2, e4, g2, q2, M2⟩ := c10_feed (l := l) (G := G) (d := d + 128) (J := J) hK.2.1 m1 m2 a b c e g
  subst e3
  subst e4
  refine ⟨_, k1, _, k2, ⟨I2, J, K, P, S, im, SI, m, T, kn, u, Hs, _, _, fk, fp, rfl, hK, ?_, T1.lo (fun c hc => g2 c (by omega)), M2, q2, h.2.2.2.2⟩, hK.1.1.1, hK.2.1.k⟩
  exact ((h.1.fr0 (fun c hc => f1 c (by omega) (by omega)) (f2 8 (by omega))).lo (fun c hc => g2 c (by omega)) (fun _ _ => rfl)).mono (by omega)
theorem tc_text (hK : AK' K) (h : Ivc I J P S im SI m T kn u Hs B t f fk fp) (hB : 6 ≤ B) (x : Int32) : ∃ v, TC l G d m9_text m10_text [.int x] (I, J, K) (.int v) B := by
  obtain ⟨r1, h1, k1, I1, J1, K1', e1, gk, gs, gp, fr, q⟩ := c9_text (l := l) (G := G) (d := d + 44) hK.1 h.1 h.2.1 x
  subst e1
  have hM : MK K1' := by
    refine ⟨by rw [gs]; exact hK.2.1.1, fun q hq => ?_⟩
    rw [gs, gp 102 (by omega)]
    exact hK.2.1.2 q hq
  have hK1 : AK' K1' := ⟨gk, hM, by rw [gs]; exact hK.2.2.1, by rw [gs]; exact hK.2.2.2⟩
  have m1 : MI I1 P S im SI m T kn u Hs B := h.2.2.1.hi (fun c hc => (fr c (by omega)).1)
  have m2 : TQ I1 t f fk fp := h.2.2.2.1.hi (fun c hc => (fr c (by omega)).1)
  have two : ∀ g va, ∃ r2 h2, Ct l G (d + 128) 0 0 m10_text [.ref 102, .int x] (I1, J1, K1') r2 h2 ∧ mtxQ I1 J1 K1' f t fk fp P S im SI m T kn u Hs B x g va r2 h2 := fun g va => c10_text (l := l) (G := G) (d := d) hM m1 m2 x g va
  by_cases c : 0 ≤ x ∧ x ≤ nI t
  · rw [if_pos c] at q
    obtain ⟨g, va, q⟩ := q
    obtain ⟨r2, h2, k2, I2, e2, f2, q2⟩ := two g va
    subst e2
    rw [if_pos c] at q2
    cases ez : txR f x.toNatClampNeg g va with
    | inl e =>
      rw [ez] at q q2
      obtain ⟨rfl, C1, T1⟩ := q
      obtain ⟨rfl, M2, Q2⟩ := q2
      exact ⟨_, _, k1, _, k2, ⟨I2, J1, K1', P, S, im, SI, m, T, kn, u, Hs, _, _, _, _, rfl, hK1, (C1.lo (fun c hc => f2 c (by omega)) (fun _ _ => rfl)).mono (by omega), T1.lo (fun c hc => f2 c (by omega)), M2.mono (by omega), Q2, h.2.2.2.2⟩, hK.1.1.1, hM.k⟩
    | inr s =>
      rw [ez] at q q2
      obtain ⟨rfl, C1, T1⟩ := q
      obtain ⟨rfl, M2, Q2⟩ := q2
      exact ⟨_, _, k1, _, k2, ⟨I2, J1, K1', pP s, beg (pP s), false, SI, 0, T, -1, 0, Hs, _, _, _, _, rfl, hK1, (C1.lo (fun c hc => f2 c (by omega)) (fun _ _ => rfl)).mono (by omega), T1.lo (fun c hc => f2 c (by omega)), M2.mono (by omega), Q2, OS.fresh M2.2.1.1⟩, hK.1.1.1, hM.k⟩
  · rw [if_neg c] at q
    obtain ⟨rfl, C1, T1⟩ := q
    obtain ⟨r2, h2, k2, I2, e2, f2, q2⟩ := two (fun _ _ => 0) 0
    subst e2
    rw [if_neg c] at q2
    obtain ⟨rfl, M2, Q2⟩ := q2
    exact ⟨_, _, k1, _, k2, ⟨I2, J1, K1', P, S, im, SI, m, T, kn, u, Hs, _, _, _, _, rfl, hK1, (C1.lo (fun c hc => f2 c (by omega)) (fun _ _ => rfl)).mono (by omega), T1.lo (fun c hc => f2 c (by omega)), M2.mono (by omega), Q2, h.2.2.2.2⟩, hK.1.1.1, hM.k⟩
end LawTC
