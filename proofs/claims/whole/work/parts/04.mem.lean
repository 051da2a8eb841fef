section RowsD
variable {l : Launch} {G : GG} {d mc ms kc ks pc npc : Nat} {M : MD} {L st : List Value} {h h2 h' : Hp} {r : Option Value} {a k kd n i : Nat} {H H1 : Heap}
/-- a field's link: class, entry, the kind of the object, the place -/
def Fl (own : String) (i kd k : Nat) : Prop := kd < 11 ∧ k < kN kd ∧ Cond.fieldLink own i (kC kd) (kT kd k).2.1 (kT kd k).2.2.1 ∈ gtbl ∧ (kT kd k).1 = kC kd
theorem HR.lt (hH : HR G h H) (hk : (mS h a).1 < 30) : a < mN h := by
  obtain ⟨-, -, -, h4⟩ := hH
  by_cases q : a < mN h
  · exact q
  · have := h4 a (Nat.not_lt.mp q)
    omega
theorem HR.obj (hH : HR G h H) (hs : (mS h a).1 = kd) (hkd : kd < 11) : t_OB (gB G + a) ((gD G).1 kd) (kN kd) ((gD G).2 kd) H (cv G h kd a) := by
  have hlt := hH.lt (a := a) (by omega)
  have h3 := hH.2.2.1 a hlt
  unfold cAt at h3
  rw [if_pos (by omega), hs] at h3
  exact h3
theorem HR.arr (hH : HR G h H) (hs : mS h a = (kd, n)) (h1 : 11 ≤ kd) (h2 : kd < 30) : H[gB G + a]? = some (arrV (gC G kd) n (cv G h kd a)) := by
  have e1 : (mS h a).1 = kd := by rw [hs]
  have e2 : (mS h a).2 = n := by rw [hs]
  have hlt := hH.lt (a := a) (by omega)
  have h3 := hH.2.2.1 a hlt
  unfold cAt at h3
  rw [if_neg (by omega), if_pos (by omega), e1, e2] at h3
  exact h3
theorem cAt.kept (hS : mS h2 = mS h) (hv : ∀ kd, cv G h2 kd a = cv G h kd a) (hq : H1[gB G + a]? = H[gB G + a]?) (hc : cAt G h a H) : cAt G h2 a H1 := by
  unfold cAt at hc ⊢
  rw [hS, hv]
  split
  · next q =>
    rw [if_pos q] at hc
    exact hc.kept hq
  · next q =>
    rw [if_neg q] at hc
    split
    · next q2 =>
      rw [if_pos q2] at hc
      rw [hq]
      exact hc
    · trivial
theorem HR.upd (hH : HR G h H) (z : H1.size = H.size) (oq : ∀ q : Nat, q ≠ gB G + a → H1[q]? = H[q]?) (hS : mS h2 = mS h) (hN : mN h2 = mN h) (hv : ∀ a' kd, a' ≠ a → cv G h2 kd a' = cv G h kd a') (ha : cAt G h2 a H1) : HR G h2 H1 := by
  obtain ⟨h1, h3, h4, h5⟩ := hH
  refine ⟨by rw [z, h1, hN], fun q hq => (oq q (by omega)).trans (h3 q hq), fun a' ha' => ?_, fun a' ha' => by rw [hS]; exact h5 a' (by rw [hN] at ha'; exact ha')⟩
  by_cases e : a' = a
  · subst e; exact ha
  · exact cAt.kept hS (fun kd => hv a' kd e) (oq _ (by omega)) (h4 a' (by rw [hN] at ha'; exact ha'))
theorem cv_wI (hk : sty kd k = 0) (v : Int32) : updV (cv G h kd a) k (.int v) = cv G (wI h a k v) kd a := by
  funext j
  unfold updV cv
  by_cases e : j = k
  · subst e
    simp [hk, mI_wI]
  · simp [e, mI_wI, mJ_wI, mP_wI]
theorem cv_wI_ne {a' : Nat} (e : a' ≠ a) (v : Int32) : cv G (wI h a k v) kd a' = cv G h kd a' := by
  funext j
  unfold cv
  simp [e, mI_wI, mJ_wI, mP_wI]
theorem cv_wJ (hk : sty kd k = 1) (v : Int64) : updV (cv G h kd a) k (.long v) = cv G (wJ h a k v) kd a := by
  funext j
  unfold updV cv
  by_cases e : j = k
  · subst e
    simp [hk, mJ_wJ]
  · simp [e, mJ_wJ, mI_wJ, mP_wJ]
theorem cv_wJ_ne {a' : Nat} (e : a' ≠ a) (v : Int64) : cv G (wJ h a k v) kd a' = cv G h kd a' := by
  funext j
  unfold cv
  simp [e, mJ_wJ, mI_wJ, mP_wJ]
theorem mJ_wP (h : Hp) (a k : Nat) (v : Option Nat) : mJ (wP h a k v) = mJ h := rfl
theorem cv_wP (hk : sty kd k = 2) (b : Nat) : updV (cv G h kd a) k (.ref (gB G + b)) = cv G (wP h a k (some b)) kd a := by
  funext j
  unfold updV cv
  by_cases e : j = k
  · subst e
    simp [hk, mP_wP, va_rf]
  · simp [e, mP_wP, mI_wP, mJ_wP]
theorem cv_wP_ne {a' : Nat} (e : a' ≠ a) (b : Option Nat) : cv G (wP h a k b) kd a' = cv G h kd a' := by
  funext j
  unfold cv
  simp [e, mP_wP, mI_wP, mJ_wP]
theorem cv_wR (hk : ∀ j, sty kd j = 0) (f : Nat → Int32) : cv G (wR h a f) kd a = fun j => .int (f j) := by
  funext j
  unfold cv
  simp [hk j, mI_wR]
theorem cv_wR_ne {a' : Nat} (e : a' ≠ a) (f : Nat → Int32) : cv G (wR h a f) kd a' = cv G h kd a' := by
  funext j
  unfold cv
  simp [e, mI_wR, mJ_wR, mP_wR]

theorem go_getV {w : Value} (hc : lk M pc = some (.getfield i, npc, 3)) (hf : Fl M.1.cls i kd k) (hs : (mS h a).1 = kd) (hw : cv G h kd a k = tv G w) (kk : Go l G d mc ms M kc ks npc L (w :: st) h r h') : Go l G d mc ms M kc ks pc L (.ref a :: st) h r h' := by
  intro p e s m args below meth c ls H locs C hL hH hlc
  obtain ⟨hd, rfl⟩ := C.dec hc
  have hx := C.1
  have hb := C.2.1
  have hts : ∀ w ∈ gtbl, w.before args s = true := fun w hw => C.word hw
  have hown : s.vm.findClass M.1.cls = some m.cls := C.2.2.2.2.2.1
  have hK : KX G s := C.2.2.2.2.2.2.2.1
  obtain ⟨hkd, hk, hlk, hde⟩ := hf
  obtain ⟨cell, q1, q2, q3, q4⟩ := hH.obj hs hkd
  obtain ⟨hS, hfc, kC1, hkC, hkind⟩ := hK.1.1 kd _ (k_cl kd hkd)
  dsimp only at hS
  obtain ⟨cf, kf, fi, f, hi, hsl⟩ := hS k hk
  have hst := (u_facts hfc hkC (u_lays hts (k_in kd hkd) hk) hi).1
  rw [hde] at hi
  exact W.getf hx hb hown (hts _ hlk) hi hst q1 (by rw [q3]; exact fun z => by cases z) (v := tv G w) (by rw [hsl, q4 k hk, hw]) rfl rfl hd (kk p e s m args below meth c ls H locs C hL hH hlc)

theorem go_getI (hc : lk M pc = some (.getfield i, npc, 3)) (hf : Fl M.1.cls i kd k) (hs : (mS h a).1 = kd) (ht : sty kd k = 0) (kk : Go l G d mc ms M kc ks npc L (.int (mI h a k) :: st) h r h') : Go l G d mc ms M kc ks pc L (.ref a :: st) h r h' := go_getV hc hf hs (by simp [cv, ht, tv]) kk
theorem go_getJ (hc : lk M pc = some (.getfield i, npc, 3)) (hf : Fl M.1.cls i kd k) (hs : (mS h a).1 = kd) (ht : sty kd k = 1) (kk : Go l G d mc ms M kc ks npc L (.long (mJ h a k) :: st) h r h') : Go l G d mc ms M kc ks pc L (.ref a :: st) h r h' := go_getV hc hf hs (by simp [cv, ht, tv]) kk
theorem go_getP {b : Nat} (hc : lk M pc = some (.getfield i, npc, 3)) (hf : Fl M.1.cls i kd k) (hs : (mS h a).1 = kd) (ht : sty kd k = 2) (hp : mP h a k = some b) (kk : Go l G d mc ms M kc ks npc L (.ref b :: st) h r h') : Go l G d mc ms M kc ks pc L (.ref a :: st) h r h' := go_getV hc hf hs (by simp [cv, ht, tv, hp, va_rf]) kk
theorem go_putV {w : Value} (hc : lk M pc = some (.putfield i, npc, 3)) (hf : Fl M.1.cls i kd k) (hs : (mS h a).1 = kd) (hfin : (kT kd k).2.2.2 = false) (hn : narrow (kTy kd k) (tv G w) = tv G w) (hfit : fits (kTy kd k) (tv G w) = true) (hS2 : mS h2 = mS h) (hN2 : mN h2 = mN h) (hv2 : ∀ a' kd, a' ≠ a → cv G h2 kd a' = cv G h kd a') (hu : updV (cv G h kd a) k (tv G w) = cv G h2 kd a) (kk : Go l G d mc ms M kc ks npc L st h2 r h') : Go l G d mc ms M kc ks pc L (w :: .ref a :: st) h r h' := by
  intro p e s m args below meth c ls H locs C hL hH hlc
  obtain ⟨hd, rfl⟩ := C.dec hc
  have hx := C.1
  have hb := C.2.1
  have hts : ∀ w ∈ gtbl, w.before args s = true := fun w hw => C.word hw
  have hown : s.vm.findClass M.1.cls = some m.cls := C.2.2.2.2.2.1
  have hK : KX G s := C.2.2.2.2.2.2.2.1
  obtain ⟨hkd, hk, hlk, hde⟩ := hf
  obtain ⟨cell, q1, q2, q3, q4⟩ := hH.obj hs hkd
  have hKn := hK.1.1 kd _ (k_cl kd hkd)
  have hap := va_apart (own := M.1.cls) hts (k_in kd hkd) (kTy kd) (k_ty kd hkd) (k_nm kd hkd) hK.1 (k_cl kd hkd)
  obtain ⟨hS, hfc, kC1, hkC, hkind⟩ := hKn
  dsimp only at hS
  obtain ⟨cf, kf, fi, f, hi, hsl⟩ := hS k hk
  have hlay := hts _ (k_in kd hkd _ (u_in_lay hk))
  unfold u_lay at hlay
  rw [if_neg (by rw [hfin]; decide)] at hlay
  have hst := (u_facts hfc hkC (u_lays hts (k_in kd hkd) hk) hi).1
  have h6 := u_store hfc hkC hkind hlay hi (k_ty kd hkd k hk) hn hfit
  rw [hde] at hi
  refine W.putK hx hb (f := f) ⟨hown, hts _ hlk, ⟨_, _, _, hi⟩, hst⟩ (by rw [q2]; exact h6) q1 q3 (by rw [hsl]; exact k2_hasslot (q4 k hk)) rfl rfl hd fun H' e1 e2 e3 => ?_
  rw [hsl] at e1 ⊢
  refine kk p e s m args below meth c ls H' _ C hL (hH.upd e2 e3 hS2 hN2 hv2 ?_) (fun q hq => ?_)
  · unfold cAt
    rw [hS2, hs, if_pos hkd]
    exact t_OB.to (V := updV (cv G h kd a) k (tv G w)) ⟨_, e1, q2, q3, t_set q4 hap hk _⟩ (fun j _ => by rw [hu])
  · rcases List.mem_append.mp hq with z | z
    · exact hlc q z
    · rw [List.mem_singleton.mp z]
      exact Nat.le_add_right _ _

theorem go_putF {w : Value} (hc : lk M pc = some (.putfield i, npc, 3)) (hf : Fl M.1.cls i kd k) (hs : (mS h a).1 = kd) (hfin : (kT kd k).2.2.2 = true) (hnm : M.1.name = "<init>") (hcl : kC kd = M.1.cls) (hn : narrow (kTy kd k) (tv G w) = tv G w) (hfit : fits (kTy kd k) (tv G w) = true) (hS2 : mS h2 = mS h) (hN2 : mN h2 = mN h) (hv2 : ∀ a' kd, a' ≠ a → cv G h2 kd a' = cv G h kd a') (hu : updV (cv G h kd a) k (tv G w) = cv G h2 kd a) (kk : Go l G d mc ms M kc ks npc L st h2 r h') : Go l G d mc ms M kc ks pc L (w :: .ref a :: st) h r h' := by
  intro p e s m args below meth c ls H locs C hL hH hlc
  obtain ⟨hd, rfl⟩ := C.dec hc
  have hx := C.1
  have hb := C.2.1
  have hts : ∀ w ∈ gtbl, w.before args s = true := fun w hw => C.word hw
  have hown : s.vm.findClass M.1.cls = some m.cls := C.2.2.2.2.2.1
  have hK : KX G s := C.2.2.2.2.2.2.2.1
  obtain ⟨hkd, hk, hlk, hde⟩ := hf
  obtain ⟨cell, q1, q2, q3, q4⟩ := hH.obj hs hkd
  have hKn := hK.1.1 kd _ (k_cl kd hkd)
  have hap := va_apart (own := M.1.cls) hts (k_in kd hkd) (kTy kd) (k_ty kd hkd) (k_nm kd hkd) hK.1 (k_cl kd hkd)
  obtain ⟨hS, hfc, kC1, hkC, hkind⟩ := hKn
  dsimp only at hS
  obtain ⟨cf, kf, fi, f, hi, hsl⟩ := hS k hk
  have hlay := hts _ (k_in kd hkd _ (u_in_lay hk))
  unfold u_lay at hlay
  rw [if_pos hfin] at hlay
  have hst := (u_facts hfc hkC (u_lays hts (k_in kd hkd) hk) hi).1
  have hcf : m.cls = cf := by
    obtain ⟨_, _, c', _, _, _, -, -, hf', -, -, -, hown2, -⟩ := Cond.laysFinal_spec hlay
    have e1 : c' = cf := by have := hi.symm.trans hf'; simp at this; exact this.1.symm
    rw [hde, hcl] at hown2
    rw [← e1]; exact Option.some.inj (hown.symm.trans hown2)
  have h6 := u_fits hfc hkC hkind (Or.inr hlay) hi (k_ty kd hkd k hk) hn hfit
  rw [hde] at hi
  refine W.putFinK hx hb hown (hts _ hlk) hi hst hcf (C.2.2.2.2.2.2.2.2.2.trans hnm) (by rw [q2]; exact h6) q1 q3 (by rw [hsl]; exact k2_hasslot (q4 k hk)) rfl rfl hd fun H' e1 e2 e3 => ?_
  rw [hsl] at e1 ⊢
  refine kk p e s m args below meth c ls H' _ C hL (hH.upd e2 e3 hS2 hN2 hv2 ?_) (fun q hq => ?_)
  · unfold cAt
    rw [hS2, hs, if_pos hkd]
    exact t_OB.to (V := updV (cv G h kd a) k (tv G w)) ⟨_, e1, q2, q3, t_set q4 hap hk _⟩ (fun j _ => by rw [hu])
  · rcases List.mem_append.mp hq with z | z
    · exact hlc q z
    · rw [List.mem_singleton.mp z]
      exact Nat.le_add_right _ _

theorem sty_of_int (hkd : kd < 11) (ht : kTy kd k = .int) : sty kd k = 0 := by unfold sty; rw [if_pos hkd, ht]
theorem sty_of_bool (hkd : kd < 11) (ht : kTy kd k = .boolean) : sty kd k = 0 := by unfold sty; rw [if_pos hkd, ht]
theorem sty_of_long (hkd : kd < 11) (ht : kTy kd k = .long) : sty kd k = 1 := by unfold sty; rw [if_pos hkd, ht]
theorem nar_bool {v : Int32} (hv : v = 0 ∨ v = 1) : narrow .boolean (.int v) = .int v ∧ fits .boolean (.int v) = true := by
  rcases hv with rfl | rfl <;> exact ⟨by decide, by decide⟩

theorem go_putI {v : Int32} (hc : lk M pc = some (.putfield i, npc, 3)) (hf : Fl M.1.cls i kd k) (hs : (mS h a).1 = kd) (hfin : (kT kd k).2.2.2 = false) (ht : kTy kd k = .int) (kk : Go l G d mc ms M kc ks npc L st (wI h a k v) r h') : Go l G d mc ms M kc ks pc L (.int v :: .ref a :: st) h r h' := go_putV (w := .int v) (h2 := wI h a k v) hc hf hs hfin (by rw [ht]; rfl) (by rw [ht]; rfl) rfl rfl (fun a' kd e => cv_wI_ne e v) (cv_wI (sty_of_int hf.1 ht) v) kk
theorem go_putZ {v : Int32} (hc : lk M pc = some (.putfield i, npc, 3)) (hf : Fl M.1.cls i kd k) (hs : (mS h a).1 = kd) (hfin : (kT kd k).2.2.2 = false) (ht : kTy kd k = .boolean) (hv : v = 0 ∨ v = 1) (kk : Go l G d mc ms M kc ks npc L st (wI h a k v) r h') : Go l G d mc ms M kc ks pc L (.int v :: .ref a :: st) h r h' := go_putV (w := .int v) (h2 := wI h a k v) hc hf hs hfin (by rw [ht]; exact (nar_bool hv).1) (by rw [ht]; exact (nar_bool hv).2) rfl rfl (fun a' kd e => cv_wI_ne e v) (cv_wI (sty_of_bool hf.1 ht) v) kk
theorem go_putJ {v : Int64} (hc : lk M pc = some (.putfield i, npc, 3)) (hf : Fl M.1.cls i kd k) (hs : (mS h a).1 = kd) (hfin : (kT kd k).2.2.2 = false) (ht : kTy kd k = .long) (kk : Go l G d mc ms M kc ks npc L st (wJ h a k v) r h') : Go l G d mc ms M kc ks pc L (.long v :: .ref a :: st) h r h' := go_putV (w := .long v) (h2 := wJ h a k v) hc hf hs hfin (by rw [ht]; rfl) (by rw [ht]; rfl) rfl rfl (fun a' kd e => cv_wJ_ne e v) (cv_wJ (sty_of_long hf.1 ht) v) kk
end RowsD
section RowsE
variable {l : Launch} {G : GG} {d mc ms kc ks pc npc : Nat} {M : MD} {L st : List Value} {h h2 h' : Hp} {r : Option Value} {a k kd n i : Nat} {H H1 : Heap}
theorem sty_arr (h1 : 11 ≤ kd) (h2 : kd ≠ 23) (h3 : kd ≠ 24) (k : Nat) : sty kd k = 0 := by unfold sty; rw [if_neg (by omega), if_neg h2, if_neg h3]
theorem sty_23 (k : Nat) : sty 23 k = 1 := rfl
theorem sty_24 (k : Nat) : sty 24 k = 2 := rfl

theorem go_iaload {x : Int32} (hc : lk M pc = some (.iaload, npc, 1)) (hs : mS h a = (20, n)) (hin : vp_in x n) (kk : Go l G d mc ms M kc ks npc L (.int (mI h a x.toNatClampNeg) :: st) h r h') : Go l G d mc ms M kc ks pc L (.int x :: .ref a :: st) h r h' := by
  intro p e s m args below meth c ls H locs C hL hH hlc
  obtain ⟨hd, rfl⟩ := C.dec hc
  have hx := C.1
  have hb := C.2.1
  have hts : ∀ w ∈ gtbl, w.before args s = true := fun w hw => C.word hw
  have hown : s.vm.findClass M.1.cls = some m.cls := C.2.2.2.2.2.1
  have hK : KX G s := C.2.2.2.2.2.2.2.1
  have hlt : x.toNatClampNeg < n := Nat.not_le.mp fun q => hin (Or.inr q)
  exact W.iald (v := .int (mI h a x.toNatClampNeg)) hx hb (hH.arr hs (by omega) (by omega)) ((hK.2.1 20 (by omega) (by omega)).1 n _) (fun q => by cases q) (by rw [arrV_size]; exact hin) (by rw [arrV_read _ _ hlt]; rfl) rfl rfl hd (kk p e s m args below meth c ls H locs C hL hH hlc)

theorem go_baload {x : Int32} (hc : lk M pc = some (.baload, npc, 1)) (hs : mS h a = (21, n)) (hin : vp_in x n) (kk : Go l G d mc ms M kc ks npc L (.int (mI h a x.toNatClampNeg) :: st) h r h') : Go l G d mc ms M kc ks pc L (.int x :: .ref a :: st) h r h' := by
  intro p e s m args below meth c ls H locs C hL hH hlc
  obtain ⟨hd, rfl⟩ := C.dec hc
  have hx := C.1
  have hb := C.2.1
  have hts : ∀ w ∈ gtbl, w.before args s = true := fun w hw => C.word hw
  have hown : s.vm.findClass M.1.cls = some m.cls := C.2.2.2.2.2.1
  have hK : KX G s := C.2.2.2.2.2.2.2.1
  have hlt : x.toNatClampNeg < n := Nat.not_le.mp fun q => hin (Or.inr q)
  exact W.bald (v := .int (mI h a x.toNatClampNeg)) hx hb (hH.arr hs (by omega) (by omega)) ((hK.2.1 21 (by omega) (by omega)).1 n _) (fun q => by cases q) (by rw [arrV_size]; exact hin) (by rw [arrV_read _ _ hlt]; rfl) rfl rfl hd (kk p e s m args below meth c ls H locs C hL hH hlc)

theorem go_zaload {x : Int32} (hc : lk M pc = some (.baload, npc, 1)) (hs : mS h a = (22, n)) (hin : vp_in x n) (kk : Go l G d mc ms M kc ks npc L (.int (mI h a x.toNatClampNeg) :: st) h r h') : Go l G d mc ms M kc ks pc L (.int x :: .ref a :: st) h r h' := by
  intro p e s m args below meth c ls H locs C hL hH hlc
  obtain ⟨hd, rfl⟩ := C.dec hc
  have hx := C.1
  have hb := C.2.1
  have hts : ∀ w ∈ gtbl, w.before args s = true := fun w hw => C.word hw
  have hown : s.vm.findClass M.1.cls = some m.cls := C.2.2.2.2.2.1
  have hK : KX G s := C.2.2.2.2.2.2.2.1
  have hlt : x.toNatClampNeg < n := Nat.not_le.mp fun q => hin (Or.inr q)
  exact W.zald (v := .int (mI h a x.toNatClampNeg)) hx hb (hH.arr hs (by omega) (by omega)) ((hK.2.1 22 (by omega) (by omega)).1 n _) (fun q => by cases q) (by rw [arrV_size]; exact hin) (by rw [arrV_read _ _ hlt]; rfl) rfl rfl hd (kk p e s m args below meth c ls H locs C hL hH hlc)

theorem go_laload {x : Int32} (hc : lk M pc = some (.laload, npc, 1)) (hs : mS h a = (23, n)) (hin : vp_in x n) (kk : Go l G d mc ms M kc ks npc L (.long (mJ h a x.toNatClampNeg) :: st) h r h') : Go l G d mc ms M kc ks pc L (.int x :: .ref a :: st) h r h' := by
  intro p e s m args below meth c ls H locs C hL hH hlc
  obtain ⟨hd, rfl⟩ := C.dec hc
  have hx := C.1
  have hb := C.2.1
  have hts : ∀ w ∈ gtbl, w.before args s = true := fun w hw => C.word hw
  have hown : s.vm.findClass M.1.cls = some m.cls := C.2.2.2.2.2.1
  have hK : KX G s := C.2.2.2.2.2.2.2.1
  have hlt : x.toNatClampNeg < n := Nat.not_le.mp fun q => hin (Or.inr q)
  exact W.lald (v := .long (mJ h a x.toNatClampNeg)) hx hb (hH.arr hs (by omega) (by omega)) ((hK.2.1 23 (by omega) (by omega)).1 n _) (fun q => by cases q) (by rw [arrV_size]; exact hin) (by rw [arrV_read _ _ hlt]; rfl) rfl rfl hd (kk p e s m args below meth c ls H locs C hL hH hlc)

theorem go_aaload {x : Int32} {b : Nat} (hc : lk M pc = some (.aaload, npc, 1)) (hs : mS h a = (24, n)) (hin : vp_in x n) (hp : mP h a x.toNatClampNeg = some b) (kk : Go l G d mc ms M kc ks npc L (.ref b :: st) h r h') : Go l G d mc ms M kc ks pc L (.int x :: .ref a :: st) h r h' := by
  intro p e s m args below meth c ls H locs C hL hH hlc
  obtain ⟨hd, rfl⟩ := C.dec hc
  have hx := C.1
  have hb := C.2.1
  have hts : ∀ w ∈ gtbl, w.before args s = true := fun w hw => C.word hw
  have hown : s.vm.findClass M.1.cls = some m.cls := C.2.2.2.2.2.1
  have hK : KX G s := C.2.2.2.2.2.2.2.1
  have hlt : x.toNatClampNeg < n := Nat.not_le.mp fun q => hin (Or.inr q)
  exact W.aald (v := .ref (gB G + b)) (ty := .array .int) hx hb (hH.arr hs (by omega) (by omega)) ((hK.2.1 24 (by omega) (by omega)).1 n _) rfl (fun q => by cases q) (by rw [arrV_size]; exact hin) (by rw [arrV_read _ _ hlt]; simp [cv, sty_24, hp, va_rf]) rfl rfl hd (kk p e s m args below meth c ls H locs C hL hH hlc)

theorem go_alen {v : Int32} (hc : lk M pc = some (.arraylength, npc, 1)) (hs : mS h a = (kd, n)) (h20 : 20 ≤ kd) (h25 : kd < 25) (hv : Int32.ofNat n = v) (kk : Go l G d mc ms M kc ks npc L (.int v :: st) h r h') : Go l G d mc ms M kc ks pc L (.ref a :: st) h r h' := by
  intro p e s m args below meth c ls H locs C hL hH hlc
  obtain ⟨hd, rfl⟩ := C.dec hc
  have hx := C.1
  have hb := C.2.1
  have hts : ∀ w ∈ gtbl, w.before args s = true := fun w hw => C.word hw
  have hown : s.vm.findClass M.1.cls = some m.cls := C.2.2.2.2.2.1
  have hK : KX G s := C.2.2.2.2.2.2.2.1
  exact W.alen (n := v) hx hb (hH.arr hs (by omega) (by omega)) ((hK.2.1 kd h20 h25).1 n _) (by rw [arrV_size]; exact hv) rfl rfl hd (kk p e s m args below meth c ls H locs C hL hH hlc)

theorem go_iastore {x y : Int32} (hc : lk M pc = some (.iastore, npc, 1)) (hs : mS h a = (20, n)) (hin : vp_in x n) (kk : Go l G d mc ms M kc ks npc L st (wI h a x.toNatClampNeg y) r h') : Go l G d mc ms M kc ks pc L (.int y :: .int x :: .ref a :: st) h r h' := by
  intro p e s m args below meth c ls H locs C hL hH hlc
  obtain ⟨hd, rfl⟩ := C.dec hc
  have hx := C.1
  have hb := C.2.1
  have hts : ∀ w ∈ gtbl, w.before args s = true := fun w hw => C.word hw
  have hown : s.vm.findClass M.1.cls = some m.cls := C.2.2.2.2.2.1
  have hK : KX G s := C.2.2.2.2.2.2.2.1
  refine W.iast hx hb (hH.arr hs (by omega) (by omega)) ((hK.2.1 20 (by omega) (by omega)).1 n _) (fun q => by cases q) (by rw [arrV_size]; exact hin) rfl rfl hd fun H' e1 e2 e3 => ?_
  refine kk p e s m args below meth c ls H' _ C hL (hH.upd e2 e3 rfl rfl (fun a' kd e => cv_wI_ne e y) ?_) (fun q hq => ?_)
  · unfold cAt
    have e4 : mS (wI h a x.toNatClampNeg y) a = (20, n) := hs
    rw [e4, if_neg (by omega), if_pos (by omega), e1, arrV_store]
    exact congrArg (fun z => some (arrV (gC G 20) n z)) (cv_wI (sty_arr (by omega) (by omega) (by omega) _) y)
  · rcases List.mem_append.mp hq with z | z
    · exact hlc q z
    · rw [List.mem_singleton.mp z]
      exact Nat.le_add_right _ _

theorem go_lastore {x : Int32} {y : Int64} (hc : lk M pc = some (.lastore, npc, 1)) (hs : mS h a = (23, n)) (hin : vp_in x n) (kk : Go l G d mc ms M kc ks npc L st (wJ h a x.toNatClampNeg y) r h') : Go l G d mc ms M kc ks pc L (.long y :: .int x :: .ref a :: st) h r h' := by
  intro p e s m args below meth c ls H locs C hL hH hlc
  obtain ⟨hd, rfl⟩ := C.dec hc
  have hx := C.1
  have hb := C.2.1
  have hts : ∀ w ∈ gtbl, w.before args s = true := fun w hw => C.word hw
  have hown : s.vm.findClass M.1.cls = some m.cls := C.2.2.2.2.2.1
  have hK : KX G s := C.2.2.2.2.2.2.2.1
  refine W.last hx hb (hH.arr hs (by omega) (by omega)) ((hK.2.1 23 (by omega) (by omega)).1 n _) (fun q => by cases q) (by rw [arrV_size]; exact hin) rfl rfl hd fun H' e1 e2 e3 => ?_
  refine kk p e s m args below meth c ls H' _ C hL (hH.upd e2 e3 rfl rfl (fun a' kd e => cv_wJ_ne e y) ?_) (fun q hq => ?_)
  · unfold cAt
    have e4 : mS (wJ h a x.toNatClampNeg y) a = (23, n) := hs
    rw [e4, if_neg (by omega), if_pos (by omega), e1, arrV_store]
    exact congrArg (fun z => some (arrV (gC G 23) n z)) (cv_wJ (sty_23 _) y)
  · rcases List.mem_append.mp hq with z | z
    · exact hlc q z
    · rw [List.mem_singleton.mp z]
      exact Nat.le_add_right _ _

theorem go_bastore {x y : Int32} (hc : lk M pc = some (.bastore, npc, 1)) (hs : mS h a = (21, n)) (hin : vp_in x n) (kk : Go l G d mc ms M kc ks npc L st (wI h a x.toNatClampNeg (vp_nar .byte y)) r h') : Go l G d mc ms M kc ks pc L (.int y :: .int x :: .ref a :: st) h r h' := by
  intro p e s m args below meth c ls H locs C hL hH hlc
  obtain ⟨hd, rfl⟩ := C.dec hc
  have hx := C.1
  have hb := C.2.1
  have hts : ∀ w ∈ gtbl, w.before args s = true := fun w hw => C.word hw
  have hown : s.vm.findClass M.1.cls = some m.cls := C.2.2.2.2.2.1
  have hK : KX G s := C.2.2.2.2.2.2.2.1
  refine W.bast hx hb (hH.arr hs (by omega) (by omega)) ((hK.2.1 21 (by omega) (by omega)).1 n _) (fun q => by cases q) (by rw [arrV_size]; exact hin) rfl rfl hd fun H' e1 e2 e3 => ?_
  refine kk p e s m args below meth c ls H' _ C hL (hH.upd e2 e3 rfl rfl (fun a' kd e => cv_wI_ne e _) ?_) (fun q hq => ?_)
  · unfold cAt
    have e4 : mS (wI h a x.toNatClampNeg (vp_nar .byte y)) a = (21, n) := hs
    rw [e4, if_neg (by omega), if_pos (by omega), e1, arrV_store]
    exact congrArg (fun z => some (arrV (gC G 21) n z)) (cv_wI (sty_arr (by omega) (by omega) (by omega) _) _)
  · rcases List.mem_append.mp hq with z | z
    · exact hlc q z
    · rw [List.mem_singleton.mp z]
      exact Nat.le_add_right _ _

theorem go_zastore {x y : Int32} (hc : lk M pc = some (.bastore, npc, 1)) (hs : mS h a = (22, n)) (hin : vp_in x n) (kk : Go l G d mc ms M kc ks npc L st (wI h a x.toNatClampNeg (vp_nar .boolean y)) r h') : Go l G d mc ms M kc ks pc L (.int y :: .int x :: .ref a :: st) h r h' := by
  intro p e s m args below meth c ls H locs C hL hH hlc
  obtain ⟨hd, rfl⟩ := C.dec hc
  have hx := C.1
  have hb := C.2.1
  have hts : ∀ w ∈ gtbl, w.before args s = true := fun w hw => C.word hw
  have hown : s.vm.findClass M.1.cls = some m.cls := C.2.2.2.2.2.1
  have hK : KX G s := C.2.2.2.2.2.2.2.1
  refine W.zast hx hb (hH.arr hs (by omega) (by omega)) ((hK.2.1 22 (by omega) (by omega)).1 n _) (fun q => by cases q) (by rw [arrV_size]; exact hin) rfl rfl hd fun H' e1 e2 e3 => ?_
  refine kk p e s m args below meth c ls H' _ C hL (hH.upd e2 e3 rfl rfl (fun a' kd e => cv_wI_ne e _) ?_) (fun q hq => ?_)
  · unfold cAt
    have e4 : mS (wI h a x.toNatClampNeg (vp_nar .boolean y)) a = (22, n) := hs
    rw [e4, if_neg (by omega), if_pos (by omega), e1, arrV_store]
    exact congrArg (fun z => some (arrV (gC G 22) n z)) (cv_wI (sty_arr (by omega) (by omega) (by omega) _) _)
  · rcases List.mem_append.mp hq with z | z
    · exact hlc q z
    · rw [List.mem_singleton.mp z]
      exact Nat.le_add_right _ _

end RowsE
