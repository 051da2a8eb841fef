/-! ===== the reference: feed ===== -/
/-- its tape holds t bytes f; the last FAULT -/
def TQ (I : IM) (t : Nat) (f : Nat → Nat) (fk : Nat) (fp : Int32) : Prop := I 102 2 = nI t ∧ t ≤ 700 ∧ (∀ j, j < t → I 103 j = nI (f j)) ∧ (∀ j, f j < 256) ∧ I 102 30 = nI fk ∧ I 102 31 = fp
theorem TQ.fz {I I' : IM} {J J' : JM} {t : Nat} {f : Nat → Nat} {fk : Nat} {fp : Int32} (h : TQ I t f fk fp) (g : FZ I J I' J') : TQ I' t f fk fp := by
  obtain ⟨h1, h2, h3, h4, h5, h6⟩ := h
  obtain ⟨g1, -, g3⟩ := g
  exact ⟨by rw [g3 2 (by omega)]; exact h1, h2, fun j hj => by rw [g1 103 (by omega)]; exact h3 j hj, h4, by rw [g3 30 (by omega)]; exact h5, by rw [g3 31 (by omega)]; exact h6⟩
theorem rem4 : ∀ k, k < 20 → nI k - nI k / nI 4 * nI 4 = nI (k % 4) := by decide
section MFeed
variable {l : Launch} {G : GG} {d : Nat} {I : IM} {J : JM} {K : Kt} {Q : Option Value → Hp → Prop} {P : Pl} {S : SM} {im : Bool} {SI : SM} {m : Nat} {T : SM} {kn : Int32} {u : Nat} {Hs : Nat → SM} {B n t : Nat} {f : Nat → Nat}
theorem mfeed_loop (hM : MK K) {I0 : IM} (h2 : I0 102 2 = nI t) (ht : t + 20 ≤ 700) {a b c e g : Int32} : ∀ k i I v7, i + k = 20 → (∀ j, j < t + i → I 103 j = nI (fdF (v5F a b c e g) t i f j)) → (∀ c, c ≠ 103 → I c = I0 c) → (∀ I', (∀ j, j < t + 20 → I' 103 j = nI (fdF (v5F a b c e g) t 20 f j)) → (∀ c, c ≠ 103 → I' c = I0 c) → ∀ v6 v7, Gw l G d m10_feed 110 [.ref 102, .int a, .int b, .int c, .int e, .int g, v6, v7] [] (I', J, K) Q) → Gw l G d m10_feed 20 [.ref 102, .int a, .int b, .int c, .int e, .int g, .int (nI i), v7] [] (I, J, K) Q := by
  intro k
  induction k with
  | zero =>
    intro i I v7 hi h1 hc kk
    obtain rfl : i = 20 := by omega
    refine e_iload rfl rfl ?_
    refine e_bipush (v := nI 20) rfl bp_20N ?_
    first | refine e_icmp_geN (tgt := 110) rfl rfl (by omega) (by omega) (fun z => ?_) (fun z => ?_) | refine e_icmp_ge (tgt := 110) rfl rfl (fun z => ?_) (fun z => ?_)
    · exact kk I h1 hc _ _
    · omega
  | succ k ih =>
    intro i I v7 hi h1 hc kk
    have tail : ∀ x, v5F a b c e g (i / 4) = x → Gw l G d m10_feed 73 [.ref 102, .int a, .int b, .int c, .int e, .int g, .int (nI i), v7] [.int x] (I, J, K) Q := by
      intro x hx
      refine e_ist7 rfl rfl rfl ?_
      refine e_aload_n rfl rfl ?_
      refine e_getP rfl f10_7 hM.k rfl hM.p1 ?_
      refine e_aload_n rfl rfl ?_
      refine e_getI rfl f10_154 hM.k rfl ?_
      rw [hc 102 (by omega), h2]
      refine e_iload rfl rfl ?_
      first | refine e_iaddN rfl ?_ | refine e_iadd rfl ?_
      refine e_iload rfl rfl ?_
      refine e_bipush (v := nI 24) rfl bp_24N ?_
      refine e_bipush (v := nI 8) rfl bp_8N ?_
      refine e_iload rfl rfl ?_
      refine e_iconst (v := nI 4) rfl ic_4N ?_
      refine e_irem rfl (by first | assumption | decide) ?_
      rw [rem4 i (by omega)]
      first | refine e_imulN rfl ?_ | refine e_imul rfl ?_
      first | refine e_isubN rfl (by omega) ?_ | refine e_isub rfl ?_
      refine e_ishr rfl ?_
      refine e_sipush (v := nI 255) rfl sp_255N ?_
      refine e_iand rfl ?_
      rw [by8_and]
      first | refine e_iastoreN rfl hM.a1 (by omega) (by omega) ?_ | (refine e_iastore rfl hM.a1 ?_ ?_; rotate_left)
      first | refine e_inc6 rfl rfl rfl (incN1 _) ?_ | refine e_inc6 rfl rfl rfl rfl ?_
      refine e_goto (tgt := 20) rfl rfl ?_
      refine ih (i + 1) _ _ (by omega) (fun j hj => ?_) (fun c hc' => (u2_row _ _ hc').trans (hc c hc')) kk
      by_cases q : j = t + i
      · subst q
        rw [u2_at]
        unfold fdF fdB
        rw [if_pos ⟨by omega, by omega⟩, show t + i - t = i by omega, hx]
      · rw [u2_nk _ _ q, h1 j (by omega)]
        unfold fdF
        by_cases w : t ≤ j
        · rw [if_pos ⟨w, by omega⟩, if_pos ⟨w, by omega⟩]
        · rw [if_neg (by omega), if_neg (by omega)]
    refine e_iload rfl rfl ?_
    refine e_bipush (v := nI 20) rfl bp_20N ?_
    first | refine e_icmp_geN (tgt := 110) rfl rfl (by omega) (by omega) (fun z => ?_) (fun z => ?_) | refine e_icmp_ge (tgt := 110) rfl rfl (fun z => ?_) (fun z => ?_)
    · omega
    · refine e_iload rfl rfl ?_
      refine e_iconst (v := nI 4) rfl ic_4N ?_
      first | refine e_icmp_geN (tgt := 37) rfl rfl (by omega) (by omega) (fun z => ?_) (fun z => ?_) | refine e_icmp_ge (tgt := 37) rfl rfl (fun z => ?_) (fun z => ?_)
      · refine e_iload rfl rfl ?_
        refine e_bipush (v := nI 8) rfl bp_8N ?_
        first | refine e_icmp_geN (tgt := 48) rfl rfl (by omega) (by omega) (fun z => ?_) (fun z => ?_) | refine e_icmp_ge (tgt := 48) rfl rfl (fun z => ?_) (fun z => ?_)
        · refine e_iload rfl rfl ?_
          refine e_bipush (v := nI 12) rfl bp_12N ?_
          first | refine e_icmp_geN (tgt := 59) rfl rfl (by omega) (by omega) (fun z => ?_) (fun z => ?_) | refine e_icmp_ge (tgt := 59) rfl rfl (fun z => ?_) (fun z => ?_)
          · refine e_iload rfl rfl ?_
            refine e_bipush (v := nI 16) rfl bp_16N ?_
            first | refine e_icmp_geN (tgt := 71) rfl rfl (by omega) (by omega) (fun z => ?_) (fun z => ?_) | refine e_icmp_ge (tgt := 71) rfl rfl (fun z => ?_) (fun z => ?_)
            · refine e_iload rfl rfl ?_
              exact tail g (by unfold v5F; rw [if_neg (by omega), if_neg (by omega), if_neg (by omega), if_neg (by omega)])
            · refine e_iload rfl rfl ?_
              refine e_goto (tgt := 73) rfl rfl ?_
              exact tail e (by unfold v5F; rw [if_neg (by omega), if_neg (by omega), if_neg (by omega), if_pos (by omega)])
          · refine e_iload_n rfl rfl ?_
            refine e_goto (tgt := 73) rfl rfl ?_
            exact tail c (by unfold v5F; rw [if_neg (by omega), if_neg (by omega), if_pos (by omega)])
        · refine e_iload_n rfl rfl ?_
          refine e_goto (tgt := 73) rfl rfl ?_
          exact tail b (by unfold v5F; rw [if_neg (by omega), if_pos (by omega)])
      · refine e_iload_n rfl rfl ?_
        refine e_goto (tgt := 73) rfl rfl ?_
        exact tail a (by unfold v5F; rw [if_pos (by omega)])
theorem c10_feed (hM : MK K) (hI : MI I P S im SI m T kn u Hs B) {fk : Nat} {fp : Int32} (hT : TQ I t f fk fp) (a b c e g : Int32) : Cw l G d m10_feed [.ref 102, .int a, .int b, .int c, .int e, .int g] (I, J, K) (fun r h' => r = some (.int (if t + 20 ≤ 700 then nI (t + 20) else -1)) ∧ ∃ I', h' = (I', J, K) ∧ (∀ c, (c < 102 ∨ 144 < c) → I' c = I c) ∧ TQ I' (if t + 20 ≤ 700 then t + 20 else t) (if t + 20 ≤ 700 then fdF (v5F a b c e g) t 20 f else f) fk fp ∧ MI I' P S im SI m T kn u Hs (B + 2)) := by
  obtain ⟨h1, h2, h3, h4, h5, h6⟩ := hT
  have g0 : FQm I J (u2 I 102 0 (nI 0)) J := FQm.w0
  have e2 : (u2 I 102 0 (nI 0)) 102 2 = nI t := by rw [u2_nk _ _ (by omega)]; exact h1
  refine Cw.of ok10_feed rfl (rfl : argL _ _ = [.ref 102, .int a, .int b, .int c, .int e, .int g, .null, .null]) ?_
  refine e_aload_n rfl rfl ?_
  refine e_iconst (v := nI 0) rfl ic_0N ?_
  refine e_putI rfl f10_151 hM.k rfl rfl ?_
  refine e_aload_n rfl rfl ?_
  refine e_getI rfl f10_154 hM.k rfl ?_
  rw [e2]
  refine e_sipush (v := nI 680) rfl sp_680N ?_
  first | refine e_icmp_leN (tgt := 17) rfl rfl (by omega) (by omega) (fun z => ?_) (fun z => ?_) | refine e_icmp_le (tgt := 17) rfl rfl (fun z => ?_) (fun z => ?_)
  · have y : t + 20 ≤ 700 := by omega
    rw [if_pos y, if_pos y, if_pos y]
    refine e_iconst (v := nI 0) rfl ic_0N ?_
    refine e_ist6 rfl rfl rfl ?_
    refine mfeed_loop (f := f) hM e2 y 20 0 _ _ (by omega) (fun j hj => ?_) (fun _ _ => rfl) (fun I1 k1 k2 v6 v7 => ?_)
    · rw [u2_ne _ _ (by omega), h3 j (by omega)]
      unfold fdF
      rw [if_neg (by omega)]
    · refine e_aload_n rfl rfl ?_
      refine e_dup rfl rfl ?_
      refine e_getI rfl f10_154 hM.k rfl ?_
      rw [k2 102 (by omega), e2]
      refine e_bipush (v := nI 20) rfl bp_20N ?_
      first | refine e_iaddN rfl ?_ | refine e_iadd rfl ?_
      refine e_putI rfl f10_154 hM.k rfl rfl ?_
      refine e_aload_n rfl rfl ?_
      refine e_getI rfl f10_154 hM.k rfl ?_
      rw [u2_at]
      refine e_ireturn rfl rfl ?_
      have rw1 : ∀ c, c ≠ 102 → c ≠ 103 → u2 I1 102 2 (nI (t + 20)) c = I c := fun c a b => by rw [u2_row _ _ a, k2 c b, u2_row _ _ a]
      have ob : ∀ k, k ≠ 0 → k ≠ 2 → u2 I1 102 2 (nI (t + 20)) 102 k = I 102 k := fun k a b => by rw [u2_nk _ _ b, k2 102 (by omega), u2_nk _ _ a]
      refine ⟨rfl, _, rfl, fun c hc => rw1 c (by omega) (by omega), ⟨u2_at _ _ _ _, y, fun j hj => by rw [u2_ne _ _ (by omega)]; exact k1 j hj, fun j => ?_, by rw [ob 30 (by omega) (by omega)]; exact h5, by rw [ob 31 (by omega) (by omega)]; exact h6⟩, hI.mk' (by omega) (fun c a b => rw1 c (by omega) (by omega)) ((hI.2.2.1.frame hI.2.1.1.1.2.1 (fun c i o => by rw [rw1 c (by unfold onF at o; omega) (by unfold onF at o; omega)])).mono (by omega)) (fun f c i a b o => by rw [rw1 c (by unfold onF at o; omega) (by unfold onF at o; omega)]) (fun c a b => rw1 c (by omega) (by omega)) (fun k a b _ _ => ob k (by omega) (by omega))⟩
      unfold fdF
      split
      · exact by8_lt _
      · exact h4 j
  · have y : ¬ t + 20 ≤ 700 := by omega
    rw [if_neg y, if_neg y, if_neg y]
    refine e_iconst rfl ic_m1 ?_
    refine e_ireturn rfl rfl ?_
    exact ⟨rfl, _, rfl, fun c hc => u2_row _ _ (by omega), TQ.fz (J := J) (J' := J) ⟨h1, h2, h3, h4, h5, h6⟩ g0.fz, (hI.fq g0).mono (by omega)⟩
end MFeed
