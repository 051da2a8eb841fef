/-! ===== E ends; LINES ===== -/
theorem obd_tot {z : Option PR} {g : PSt → Option PR} (hz : ∃ w, z = some w) (hg : ∀ s, z = some (.inr s) → ∃ w, g s = some w) : ∃ w, obd z g = some w := by
  obtain ⟨w, rfl⟩ := hz
  cases w with
  | inl e => exact ⟨_, rfl⟩
  | inr s => exact hg s rfl
def rk (lv : Nat) : Nat := if lv ≤ 6 then lv + 1 else 0
theorem exA_tot {f : Nat → Nat} {n : Nat} (hf : ∀ j, f j < 256) : ∀ m lv dp s, lv ≤ 10 → dp ≤ 8 → Okp n s → (64 - (pP s).1 5) * 100 + (8 - dp) * 10 + rk lv < m → ∃ w, exA f n m lv dp s = some w
  | 0, _, _, _, _, _, _, h => absurd h (by omega)
  | m + 1, lv, dp, s, hl, hd, ho, h => by
    have hE := exA_ok (n := n) hf m
    have ih := exA_tot (n := n) hf m
    have kn : ∀ s s1, Okp n s → knS f n s = .inr s1 → Okp n s1 ∧ (pP s1).1 5 = (pP s).1 5 + 1 := fun s s1 ho h1 => by
      obtain ⟨g, a, e5, e4, b, -⟩ := knS_ok hf ho h1
      exact ⟨⟨a, b, by have := ho.2.2; omega⟩, e5⟩
    have two : ∀ a b, a ≤ 6 → 7 ≤ b → b ≤ 10 → rk a < rk lv → ∃ w, obd (exA f n m a dp s) (exA f n m b dp) = some w := by
      intro a b h1 h2 h2' h3
      refine obd_tot (ih a dp s (by omega) hd ho (by omega)) (fun s1 q => ?_)
      obtain ⟨g, o, l⟩ := hE _ _ _ _ ho q
      have := l h1
      have := o.2.1
      have eb : rk b = 0 := if_neg (by omega)
      exact ih b dp s1 (by omega) hd o (by rw [eb]; omega)
    have lo : ∀ a b, a ≤ 6 → 7 ≤ b → b ≤ 10 → ∃ w, loS f n (exA f n m) a b dp s = some w := by
      intro a b h1 h2 h2'
      have ea : rk a ≤ 7 := by unfold rk; split <;> omega
      have eb : rk b = 0 := if_neg (by omega)
      refine obd_tot ⟨_, rfl⟩ (fun s1 q1 => ?_)
      have q1 := Option.some.inj q1
      obtain ⟨o1, e1⟩ := kn s s1 ho q1
      have := o1.2.1
      refine obd_tot (ih a dp s1 (by omega) hd o1 (by omega)) (fun s2 q2 => ?_)
      obtain ⟨g2, o2, l2⟩ := hE _ _ _ _ o1 q2
      refine obd_tot ⟨_, rfl⟩ (fun s3 q3 => ?_)
      obtain ⟨g3, o3, l3⟩ := (em_ok (v := -pTk s) hf ho q1 g2 o2).2.2 s3 (Option.some.inj q3)
      have := o3.2.1
      exact ih b dp s3 (by omega) hd o3 (by rw [eb]; omega)
    show ∃ w, exF f n (exA f n m) lv dp s = some w
    match lv, hl, h, two with
    | 0, _, h, _ =>
      show ∃ w, ptS f n (exA f n m) dp s = some w
      unfold ptS
      split
      · split <;> exact ⟨_, rfl⟩
      · split
        · exact ⟨_, rfl⟩
        · split
          · split
            · exact ⟨_, rfl⟩
            · refine obd_tot ⟨_, rfl⟩ (fun s1 q1 => ?_)
              obtain ⟨g1, o1, e1⟩ := avS_ok hf ho (Option.some.inj q1)
              have eP : pP s1 = pP s := congrArg Prod.fst e1
              refine obd_tot (ih 6 (dp + 1) s1 (by omega) (by omega) o1 ?_) (fun s2 _ => ⟨_, rfl⟩)
              have r0 : rk 0 = 1 := rfl
              have r6 : rk 6 = 7 := rfl
              rw [eP]
              omega
          · exact ⟨_, rfl⟩
    | 1, _, _, two => exact two 0 7 (by omega) (by omega) (by omega) (by decide)
    | 2, _, _, two => exact two 1 8 (by omega) (by omega) (by omega) (by decide)
    | 3, _, h, _ =>
      have r3 : rk 3 = 4 := rfl
      have r2 : rk 2 = 3 := rfl
      refine obd_tot (ih 2 dp s (by omega) hd ho (by omega)) (fun s1 q1 => ?_)
      obtain ⟨g1, o1, l1⟩ := hE _ _ _ _ ho q1
      unfold cpS
      split
      · refine obd_tot ⟨_, rfl⟩ (fun s2 q2 => ?_)
        obtain ⟨o2, e2⟩ := kn s1 s2 o1 (Option.some.inj q2)
        have := o2.2.1
        have := l1 (by omega)
        exact obd_tot (ih 2 dp s2 (by omega) hd o2 (by omega)) (fun s3 _ => ⟨_, rfl⟩)
      · exact ⟨_, rfl⟩
    | 4, _, h, _ =>
      have r4 : rk 4 = 5 := rfl
      have r3 : rk 3 = 4 := rfl
      show ∃ w, dnS f n (exA f n m) dp s = some w
      unfold dnS
      split
      · refine obd_tot ⟨_, rfl⟩ (fun s1 q1 => ?_)
        obtain ⟨o1, e1⟩ := kn s s1 ho (Option.some.inj q1)
        have := o1.2.1
        exact obd_tot (ih 4 dp s1 (by omega) hd o1 (by omega)) (fun s3 _ => ⟨_, rfl⟩)
      · exact ih 3 dp s (by omega) hd ho (by omega)
    | 5, _, _, two => exact two 4 9 (by omega) (by omega) (by omega) (by decide)
    | 6, _, _, two => exact two 5 10 (by omega) (by omega) (by omega) (by decide)
    | 7, _, _, _ =>
      show ∃ w, l7S f n (exA f n m) dp s = some w
      unfold l7S
      split
      · exact lo 0 7 (by omega) (by omega) (by omega)
      · exact ⟨_, rfl⟩
    | 8, _, _, _ =>
      show ∃ w, l8S f n (exA f n m) dp s = some w
      unfold l8S
      split
      · exact lo 1 8 (by omega) (by omega) (by omega)
      · exact ⟨_, rfl⟩
    | 9, _, _, _ =>
      show ∃ w, l9S f n (exA f n m) dp s = some w
      unfold l9S
      split
      · exact lo 4 9 (by omega) (by omega) (by omega)
      · exact ⟨_, rfl⟩
    | 10, _, _, _ =>
      show ∃ w, l10S f n (exA f n m) dp s = some w
      unfold l10S
      split
      · exact lo 5 10 (by omega) (by omega) (by omega)
      · exact ⟨_, rfl⟩
def exT (f : Nat → Nat) (n : Nat) (s : PSt) : PR := (exA f n 6500 6 0 s).getD (.inl (0, 0))
theorem exT_eq {f : Nat → Nat} {n : Nat} (hf : ∀ j, f j < 256) {s : PSt} (ho : Okp n s) : exA f n 6500 6 0 s = some (exT f n s) := by
  obtain ⟨w, h⟩ := exA_tot (n := n) hf 6500 6 0 s (by omega) (by omega) ho (by have : rk 6 = 7 := rfl; omega)
  rw [exT, h]
  rfl
/-- law w begins, ends -/
def bgP (P : Pl) (w : Nat) : Pl := (P.1, u2 (u2 (u2 P.2 16 0 (P.2 16 0 ||| nI 1 <<< (nI w &&& 31))) 14 w (nI (P.1 4))) 15 w (nI (P.1 4)))
def edP (P : Pl) (w : Nat) : Pl := (P.1, u2 P.2 15 w (nI (P.1 4)))
def lwN (s : PSt) : Nat := (pTk s - nI 9).toNatClampNeg
def lwS (f : Nat → Nat) (n : Nat) (s : PSt) : PR := bnd (avS f n s) fun s1 => if nI 9 ≤ pTk s1 ∧ pTk s1 ≤ nI 11 then (if bitOf ((pP s1).2 16 0) (nI (lwN s1)) = true then flS 3 s1 else bnd (avS f n s1) fun s2 => bnd (exT f n (stP s2 (bgP (pP s2) (lwN s1)))) fun s3 => .inr (stP s3 (edP (pP s3) (lwN s1)))) else flS 1 s1
def lnS (f : Nat → Nat) (n : Nat) (s : PSt) : PR :=
  if pTk s = nI 1 then kiS f n s else if pTk s = nI 2 then tiS f n s else if pTk s = nI 3 then opS f n s else if pTk s = nI 4 then waS f n s
  else if pTk s = nI 5 then onS f n 5 0 (nI 20) s else if pTk s = nI 6 then onS f n 6 1 (nI 100) s else if pTk s = nI 7 then onS f n 7 2 (nI 99999) s
  else if pTk s = nI 8 then lwS f n s else flS 1 s
def rdS (f : Nat → Nat) (n : Nat) : Nat → PSt → PR
  | 0, s => .inr s
  | k + 1, s => if pTk s = nI 0 then .inr s else bnd (lnS f n s) fun s1 => bnd (exS f n (nI 59) s1) fun s2 => rdS f n k (s2.1, s2.2.1, s2.2.2.1, s2.2.2.2 + 1)
/-- the first state of a TEXT, over what lies in code, from, upTo -/
def ps0 (f : Nat → Nat) (n : Nat) (g : Nat → Nat → Int32) (va : Int32) : PSt := (advA f n 0 va, P0 g, fun _ => false, 0)
