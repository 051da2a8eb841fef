/-! ===== the start: less room, and the end as the claim has it ===== -/
section Start
variable {p : Program} {l : Launch} {e : Env} {R R' : Room} {s : State} {m : MethodId} {args : Array Value} {below : List Frame} {meth : Method} {c : Code} {locs : List Loc} {cells slots : Nat} {G : GG}
theorem ws_less {T : State} (hf : R'.frames ≤ R.frames) (hl : R'.locals ≤ R.locals) (hc : R'.cells ≤ R.cells) (hs : R'.slots ≤ R.slots) (X : Stand p l e R s m args below meth c T locs cells slots) : Stand p l e R' s m args below meth c T locs cells slots :=
  { X with room := (by
      have h := X.room
      simp only [State.hasRoom, Bool.and_eq_true, decide_eq_true_eq] at h ⊢
      obtain ⟨⟨⟨⟨h1, h2, h3, h4, h5, h6⟩, h7⟩, h8⟩, h9⟩ := h
      exact ⟨⟨⟨⟨by omega, by omega, by omega, by omega, by omega, h6⟩, by omega⟩, by omega⟩, h9⟩) }
theorem ws_end {h' : Hp} {t : State} (hG : gB G = s.heap.size) (h : MQ below (Qx G (some (.int 1)) h') args s 601024 7293033 (fun q => gB G ≤ q) t) : lw_Z below args s t := by
  obtain ⟨o, a, b, ⟨ho, -⟩, L, fe, hL⟩ := h
  exact ⟨o, a, b, ho, fe.1, fe.2.1, fe.2.2.weaken (fun y hy hlt => absurd hlt (Nat.not_lt.mpr (by rw [← hG]; exact hL y hy))) (Nat.le_refl _) (Nat.le_refl _)⟩
theorem ws_W {h' : Hp} {H : Heap} {g : JFrame} (hG : gB G = s.heap.size) (k : W p l e (rmm 140 601024 7293033) s m args below meth c H [] 0 0 (MQ below (Qx G (some (.int 1)) h') args s 601024 7293033 (fun q => gB G ≤ q)) g) : W p l e room_1 s m args below meth c H [] 0 0 (lw_Z below args s) g := by
  intro T hT X
  obtain ⟨t, a, b⟩ := k T hT (ws_less (by decide) (by decide) (by decide) (by decide) X)
  exact ⟨t, a, ws_end hG b⟩
/-- the texts' terms, in the order of strs -/
def tmS : Nat → Term
  | 0 => .string "TinNation$Scanner" 19
  | 1 => .string "TinNation$Scanner" 59
  | 2 => .string "TinNation" 127
  | 3 => .string "TinNation" 153
  | _ => .string "TinNationModel" 194
def FLAT : List Cond := flatC (Jvm.Cond.and given_1 narrow_1)
theorem ws_q1 : ∀ i : Nat, i < 5 → Cond.exactly (tmS i) "java/lang/String" ∈ FLAT := by decide +kernel
theorem ws_q2 : ∀ i : Nat, i < 5 → Cond.eq (.field (tmS i) "java/lang/String" "coder" "B") (.int 0) ∈ FLAT := by decide +kernel
theorem ws_q3 : ∀ i : Nat, i < 5 → Cond.arrayOf (.field (tmS i) "java/lang/String" "value" "[B") .byte ∈ FLAT := by decide +kernel
theorem ws_q4 : ∀ i : Nat, i < 5 → Cond.eq (.length (.field (tmS i) "java/lang/String" "value" "[B")) (.int (Int32.ofNat (lenS.getD i 0))) ∈ FLAT := by decide +kernel
def elS (i j : Nat) : Cond := Cond.eq (.elem (.field (tmS i) "java/lang/String" "value" "[B") (.int (Int32.ofNat j))) (.int ((bytS.getD i []).getD j 0))
theorem ws_e0 : (FLAT.drop 39).take 126 = (List.range 126).map (elS 0) := by decide +kernel
theorem ws_e1 : (FLAT.drop 169).take 10 = (List.range 10).map (elS 1) := by decide +kernel
theorem ws_e2 : (FLAT.drop 184).take 11 = (List.range 11).map (elS 2) := by decide +kernel
theorem ws_e3 : (FLAT.drop 201).take 22 = (List.range 22).map (elS 3) := by decide +kernel
theorem ws_e4 : (FLAT.drop 230).take 106 = (List.range 106).map (elS 4) := by decide +kernel
theorem ws_el {b n i : Nat} (h : (FLAT.drop b).take n = (List.range n).map (elS i)) {j : Nat} (hj : j < n) : elS i j ∈ FLAT := by
  have q : elS i j ∈ (List.range n).map (elS i) := List.mem_map.mpr ⟨j, List.mem_range.mpr hj, rfl⟩
  rw [← h] at q
  exact List.mem_of_mem_drop (List.mem_of_mem_take q)
theorem ws_q5 : ∀ i : Nat, i < 5 → ∀ j : Nat, j < lenS.getD i 0 → elS i j ∈ FLAT
  | 0, _ => fun j hj => ws_el ws_e0 hj
  | 1, _ => fun j hj => ws_el ws_e1 hj
  | 2, _ => fun j hj => ws_el ws_e2 hj
  | 3, _ => fun j hj => ws_el ws_e3 hj
  | 4, _ => fun j hj => ws_el ws_e4 hj
  | n + 5, h => absurd h (by omega)
theorem ws_q6 : ∀ i : Nat, i < 5 → ∀ j : Nat, j < 5 → i ≠ j → Cond.not (Cond.eq (tmS i) (tmS j)) ∈ FLAT ∨ Cond.not (Cond.eq (tmS j) (tmS i)) ∈ FLAT := by decide +kernel
theorem ws_S (hs : ∀ w ∈ FLAT, w.before args s = true) : ∃ adK adV : Nat → Nat, vk_S 5 lenS bytS adK adV (fun q => s.heap.size ≤ q) s s.heap ∧ ∀ i : Nat, i < 5 → (tmS i).eval args s none [] s = some (.ref (adK i)) :=
  vk_Sof (by decide) (fun i hi => hs _ (ws_q1 i hi)) (fun i hi => hs _ (ws_q2 i hi)) (fun i hi => hs _ (ws_q3 i hi)) (fun i hi => hs _ (ws_q4 i hi)) (fun i hi j hj => hs _ (ws_q5 i hi j hj)) (fun i j hi hj hij => (ws_q6 i hi j hj hij).imp (hs _) (hs _)) (fun a ha => Nat.not_le.mpr ha)
theorem ws_ins : ∀ kd : Nat, kd < 11 → Cond.instantiable (kC kd) (kN kd) ∈ gtbl
  | 0, _ => ins0
  | 1, _ => ins1
  | 2, _ => ins2
  | 3, _ => ins3
  | 4, _ => ins4
  | 5, _ => ins5
  | 6, _ => ins6
  | 7, _ => ins7
  | 8, _ => ins8
  | 9, _ => ins9
  | 10, _ => ins10
  | n + 11, h => absurd h (by omega)
theorem ws_D (hts : ∀ w ∈ gtbl, w.before args s = true) : ∃ D : va_G, va_K D vwCl [] s := by
  have h : ∀ kd : Nat, ∃ q : ClassId × (Nat → Nat), kd < 11 → u_Kn s (kC kd) (kT kd) (kN kd) q.1 q.2 := fun kd => by
    by_cases hk : kd < 11
    · obtain ⟨a, b, c⟩ := u_known (ws := gtbl) (n := kN kd) hts (k_in kd hk) (hts _ (ws_ins kd hk))
      exact ⟨(a, b), fun _ => c⟩
    · exact ⟨(0, fun _ => 0), fun z => absurd z hk⟩
  refine ⟨(fun kd => (h kd).choose.1, fun kd => (h kd).choose.2), fun c q hq => ?_, fun k q h => by simp at h⟩
  have hc : c < 11 := (List.getElem?_eq_some_iff.mp hq).1
  have e := k_cl c hc
  rw [hq] at e
  cases e
  exact (h c).choose_spec hc
theorem ws_one {ty : FieldType} (hw : (Cond.arrayClass ty).before args s = true) : ∃ cA : ClassId, ArrOfT s cA ty ∧ s.vm.findClass ("[" ++ ty.toString) = some cA := by
  obtain ⟨c, k, comp, h1, h2, h3⟩ := Cond.arrayClass_spec hw
  exact ⟨c, fun n z => ⟨fun k h => (by cases h), k, h2, comp, h3⟩, h1⟩
theorem ws_A (hts : ∀ w ∈ gtbl, w.before args s = true) (ho : (Cond.arrayOver (.array .int)).before args s = true) : ∃ C : Nat → ClassId, ∀ kd : Nat, 20 ≤ kd → kd < 25 → ArrOfT s (C kd) (aTy kd) ∧ s.vm.findClass ("[" ++ (aTy kd).toString) = some (C kd) := by
  have h : ∀ kd : Nat, ∃ cA : ClassId, 20 ≤ kd → kd < 25 → ArrOfT s cA (aTy kd) ∧ s.vm.findClass ("[" ++ (aTy kd).toString) = some cA := fun kd => by
    by_cases hk : 20 ≤ kd ∧ kd < 25
    · rcases (show kd = 20 ∨ kd = 21 ∨ kd = 22 ∨ kd = 23 ∨ kd = 24 by omega) with rfl | rfl | rfl | rfl | rfl
      · exact (ws_one (hts _ arr20)).imp fun c z _ _ => z
      · exact (ws_one (hts _ arr21)).imp fun c z _ _ => z
      · exact (ws_one (hts _ arr22)).imp fun c z _ _ => z
      · exact (ws_one (hts _ arr23)).imp fun c z _ _ => z
      · obtain ⟨comp, c, k, h1, h2, h3, h4⟩ := Cond.arrayOver_specA ho
        exact ⟨c, fun _ _ => ⟨fun n z => ⟨fun k h => (by cases h), k, h2, comp, h3⟩, h4⟩⟩
    · exact ⟨0, fun a b => absurd ⟨a, b⟩ hk⟩
  exact ⟨fun kd => (h kd).choose, fun kd => (h kd).choose_spec⟩
theorem ws_F (hl : (Cond.laysStatic "jdk/internal/util/Preconditions" "SIOOBE_FORMATTER" "Ljava/util/function/BiFunction;").before args s = true) (hi : (Cond.initialized "jdk/internal/util/Preconditions").before args s = true) (h : (Cond.isRef (.static "jdk/internal/util/Preconditions" "SIOOBE_FORMATTER" "Ljava/util/function/BiFunction;")).before args s = true) :
    ∃ t : Nat, va_Z "jdk/internal/util/Preconditions" "SIOOBE_FORMATTER" "Ljava/util/function/BiFunction;" .null (fun q => s.heap.size ≤ q) s s.heap ∨ va_Z "jdk/internal/util/Preconditions" "SIOOBE_FORMATTER" "Ljava/util/function/BiFunction;" (.ref t) (fun q => s.heap.size ≤ q) s s.heap := by
  rcases va_Zqof hl hi h (fun a ha => Nat.not_le.mpr ha) with q | ⟨t, q⟩
  · exact ⟨0, Or.inl q⟩
  · exact ⟨t, Or.inr q⟩
theorem ws_t1 : Cond.laysStatic "jdk/internal/util/Preconditions" "SIOOBE_FORMATTER" "Ljava/util/function/BiFunction;" ∈ lw_tbl ∧ Cond.initialized "jdk/internal/util/Preconditions" ∈ lw_tbl ∧ Cond.laysStatic "java/lang/String" "COMPACT_STRINGS" "Z" ∈ lw_tbl ∧ Cond.initialized "java/lang/String" ∈ lw_tbl ∧ Cond.arrayOver (.array .int) ∈ lw_tbl := by decide +kernel
theorem ws_t2 : Cond.laysStatic Bundle.tN "UNASSIGNED_STACK" Bundle.steD ∈ lw_tbl ∧ Cond.laysStatic Bundle.tN "SUPPRESSED_SENTINEL" Bundle.listD ∈ lw_tbl ∧ Cond.initialized Bundle.tN ∈ lw_tbl := by decide +kernel
theorem ws_t3 : ∀ q ∈ strs, Cond.stringRef q.1 q.2.1 q.2.2.1 ∈ lw_tbl := by decide +kernel
theorem ws_t3' : ∀ q ∈ strs, tmS q.2.2.2 = .string q.1 q.2.1 ∧ q.2.2.2 < 5 := by decide +kernel
theorem ws_t4 : ∀ w ∈ nws, Cond.methodLinkNest w.1 w.2.1 w.2.2 "TinNation" ∈ lw_tbl := by decide +kernel
theorem ws_t5 : ∀ w ∈ fws, w ∈ lw_tbl := by decide +kernel
theorem ws_f1 : Cond.isRef (.static "jdk/internal/util/Preconditions" "SIOOBE_FORMATTER" "Ljava/util/function/BiFunction;") ∈ FLAT ∧ Cond.eq (.static "java/lang/String" "COMPACT_STRINGS" "Z") (.int 1) ∈ FLAT ∧ Cond.isRef (.static Bundle.tN "UNASSIGNED_STACK" Bundle.steD) ∈ FLAT ∧ Cond.isRef (.static Bundle.tN "SUPPRESSED_SENTINEL" Bundle.listD) ∈ FLAT ∧ Cond.not (.castable eNo eIx) ∈ FLAT := by decide +kernel
def gAd (adK adV : Nat → Nat) (t b : Nat) (i : Nat) : Nat := if i < 5 then adK i else if i < 15 then adV (i - 10) else if i = 50 then t else b
theorem HR.first {H : Heap} (h1 : gB G = H.size) (h2 : gH G = H) : HR G e0 H := ⟨h1.symm, fun q _ => by rw [h2], fun a ha => absurd ha (Nat.not_lt_zero a), fun a _ => Nat.le_refl _⟩
theorem ws_G {b L : Nat} {xs : Nat → Int32} (hts : ∀ w ∈ lw_tbl, w.before args s = true) (hX : va_X b L xs s s.heap) (hbl : b < s.heap.size) (hfl : ∀ w ∈ FLAT, w.before args s = true) :
    ∃ G : GG, gB G = s.heap.size ∧ gH G = s.heap ∧ gA G 100 = b ∧ gL G = L ∧ KX G s := by
  have hg : ∀ w ∈ gtbl, w.before args s = true := fun w hw => hts w (List.mem_filter.mp hw).1
  obtain ⟨t1, t2, t3, t4, t5⟩ := ws_t1
  obtain ⟨t6, t7, t8⟩ := ws_t2
  obtain ⟨f1, f2, f3, f4, f5⟩ := ws_f1
  obtain ⟨D, hD⟩ := ws_D hg
  obtain ⟨C, hC⟩ := ws_A hg (hts _ t5)
  obtain ⟨adK, adV, hS, hE⟩ := ws_S hfl
  obtain ⟨t, hF⟩ := ws_F (hts _ t1) (hts _ t2) (hfl _ f1)
  have hA : ∀ a : Nat, a < s.heap.size → ¬ s.heap.size ≤ a := fun a ha => Nat.not_le.mpr ha
  refine ⟨(D, C, s.heap.size, s.heap, gAd adK adV t b, L, xs), rfl, rfl, rfl, rfl, hD, hC, fun w hw => va_Nw.of rfl (hts _ (ws_t4 w hw)), ?_⟩
  refine ⟨?_, fun q hq => ?_, va_Zof (hts _ t3) (hts _ t4) (va_eqi (hfl _ f2)) hA, hX, hbl, vx_Zqof (hts _ t6) (hts _ t8) (hfl _ f3) hA, vx_Zqof (hts _ t7) (hts _ t8) (hfl _ f4) hA, ⟨hts _ t5, fun w hw => va_tabs (fws_ok w hw).1 rfl (hts _ (ws_t5 w hw)), va_Nc.of (hfl _ f5)⟩, hF⟩
  · refine ⟨fun i hi => ?_, fun i j hi hj z => hS.2 i j hi hj ?_⟩
    · have e1 : gAd adK adV t b i = adK i := if_pos hi
      have e2 : gAd adK adV t b (10 + i) = adV i := by
        unfold gAd
        rw [if_neg (by omega), if_pos (by omega), Nat.add_sub_cancel_left]
      have q := hS.1 i hi
      show va_O "java/lang/String" (gAd adK adV t b i) _ s s.heap ∧ va_OF "java/lang/String" "coder" "B" (.int 0) (gAd adK adV t b i) _ s s.heap ∧ va_OF "java/lang/String" "value" "[B" (.ref (gAd adK adV t b (10 + i))) (gAd adK adV t b i) _ s s.heap ∧ va_T .byte (gAd adK adV t b (10 + i)) _ _ _ s s.heap
      rw [e1, e2]
      exact q
    · have e1 : gAd adK adV t b i = adK i := if_pos hi
      have e2 : gAd adK adV t b j = adK j := if_pos hj
      have z : gAd adK adV t b i = gAd adK adV t b j := z
      rw [← e1, ← e2]
      exact z
  · obtain ⟨e, h5⟩ := ws_t3' q hq
    have e1 : gAd adK adV t b q.2.2.2 = adK q.2.2.2 := if_pos h5
    show vk_R q.1 q.2.1 q.2.2.1 (gAd adK adV t b q.2.2.2) s
    rw [e1]
    have ev := hE q.2.2.2 h5
    rw [e] at ev
    exact vk_R.of (hts _ (ws_t3 q hq)) ev
/-- THE LAW, from its entry -/
theorem whole_start (hl : l.stackTraces = false) {b L : Nat} {xs : Nat → Int32} (hL : L ≤ 3072) (hnm : meth.name = yL_law.name) (C0 : lw_At p s m meth c b L xs) : W p l e room_1 s m #[Value.ref b] below meth c s.heap [] 0 0 (lw_Z below #[Value.ref b] s) (entryFrame m ([Value.ref b] : List Value).toArray 7) := by
  obtain ⟨hx, hb, hr, hml, hown, hts, hX, hbl, hlocks, hgv⟩ := C0
  obtain ⟨G, g1, g2, g3, g4, hK⟩ := ws_G hts hX hbl (flat_of_before _ hgv)
  obtain ⟨h', k⟩ := law_go (d := 11) (G := G) hl (by rw [g4]; exact hL)
  have hlr := LR.entry (G := G) (as := [.retAddr 100]) (n := 7) (by decide)
  have e1 : ([.retAddr 100] : List Value).map (tv G) = [.ref b] := by
    show [Value.ref (gA G 100)] = _
    rw [g3]
  rw [e1] at hlr
  rw [lg_entry_eq]
  exact ws_W g1 (k p e s m #[Value.ref b] below meth c _ s.heap [] ⟨hx, hb, hr, hml, fun w hw => hts w (List.mem_filter.mp hw).1, hown, hlocks, hK, mL_0_d, hnm⟩ hlr (HR.first g1 g2) (fun q hq => by cases hq))
end Start
