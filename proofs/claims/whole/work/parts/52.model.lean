/-! ===== the reference: its cells ===== -/
/-- field, cell, kind, length -/
def mdl : List (Nat × Nat × Nat × Nat) := [(1, 103, 20, 700), (3, 104, 20, 16), (4, 105, 20, 12), (5, 106, 20, 12), (6, 107, 20, 12), (7, 108, 20, 16), (8, 109, 20, 16), (9, 110, 20, 16), (10, 111, 20, 16), (11, 112, 20, 16), (12, 113, 20, 20), (13, 114, 20, 20), (14, 115, 20, 16), (15, 116, 20, 16), (16, 117, 20, 16), (17, 118, 20, 6), (18, 119, 20, 6), (19, 120, 20, 128), (20, 121, 20, 128), (34, 122, 23, 7), (35, 123, 23, 64), (37, 124, 20, 23), (38, 125, 20, 23), (39, 126, 20, 23), (40, 127, 20, 23), (41, 128, 20, 23), (42, 129, 20, 23), (43, 130, 20, 184), (44, 131, 20, 184), (45, 132, 20, 184), (46, 133, 20, 184), (47, 134, 20, 184), (48, 135, 20, 184), (49, 136, 20, 184), (54, 137, 20, 4), (55, 138, 20, 4), (56, 139, 20, 4), (61, 140, 20, 24), (62, 141, 20, 24), (63, 142, 20, 24), (64, 143, 22, 24), (65, 144, 22, 24)]
def MK (K : Kt) : Prop := (K.2.1 102).1 = 10 ∧ ∀ q ∈ mdl, K.1 102 q.1 = some q.2.1 ∧ K.2.1 q.2.1 = (q.2.2.1, q.2.2.2)
theorem MK.k {K : Kt} (h : MK K) : (K.2.1 102).1 = 10 := h.1
theorem MK.p1 {K : Kt} (h : MK K) : K.1 102 1 = some 103 := (h.2 (1, 103, 20, 700) (by decide)).1
theorem MK.a1 {K : Kt} (h : MK K) : K.2.1 103 = (20, 700) := (h.2 (1, 103, 20, 700) (by decide)).2
theorem MK.p3 {K : Kt} (h : MK K) : K.1 102 3 = some 104 := (h.2 (3, 104, 20, 16) (by decide)).1
theorem MK.a3 {K : Kt} (h : MK K) : K.2.1 104 = (20, 16) := (h.2 (3, 104, 20, 16) (by decide)).2
theorem MK.p4 {K : Kt} (h : MK K) : K.1 102 4 = some 105 := (h.2 (4, 105, 20, 12) (by decide)).1
theorem MK.a4 {K : Kt} (h : MK K) : K.2.1 105 = (20, 12) := (h.2 (4, 105, 20, 12) (by decide)).2
theorem MK.p5 {K : Kt} (h : MK K) : K.1 102 5 = some 106 := (h.2 (5, 106, 20, 12) (by decide)).1
theorem MK.a5 {K : Kt} (h : MK K) : K.2.1 106 = (20, 12) := (h.2 (5, 106, 20, 12) (by decide)).2
theorem MK.p6 {K : Kt} (h : MK K) : K.1 102 6 = some 107 := (h.2 (6, 107, 20, 12) (by decide)).1
theorem MK.a6 {K : Kt} (h : MK K) : K.2.1 107 = (20, 12) := (h.2 (6, 107, 20, 12) (by decide)).2
theorem MK.p7 {K : Kt} (h : MK K) : K.1 102 7 = some 108 := (h.2 (7, 108, 20, 16) (by decide)).1
theorem MK.a7 {K : Kt} (h : MK K) : K.2.1 108 = (20, 16) := (h.2 (7, 108, 20, 16) (by decide)).2
theorem MK.p8 {K : Kt} (h : MK K) : K.1 102 8 = some 109 := (h.2 (8, 109, 20, 16) (by decide)).1
theorem MK.a8 {K : Kt} (h : MK K) : K.2.1 109 = (20, 16) := (h.2 (8, 109, 20, 16) (by decide)).2
theorem MK.p9 {K : Kt} (h : MK K) : K.1 102 9 = some 110 := (h.2 (9, 110, 20, 16) (by decide)).1
theorem MK.a9 {K : Kt} (h : MK K) : K.2.1 110 = (20, 16) := (h.2 (9, 110, 20, 16) (by decide)).2
theorem MK.p10 {K : Kt} (h : MK K) : K.1 102 10 = some 111 := (h.2 (10, 111, 20, 16) (by decide)).1
theorem MK.a10 {K : Kt} (h : MK K) : K.2.1 111 = (20, 16) := (h.2 (10, 111, 20, 16) (by decide)).2
theorem MK.p11 {K : Kt} (h : MK K) : K.1 102 11 = some 112 := (h.2 (11, 112, 20, 16) (by decide)).1
theorem MK.a11 {K : Kt} (h : MK K) : K.2.1 112 = (20, 16) := (h.2 (11, 112, 20, 16) (by decide)).2
theorem MK.p12 {K : Kt} (h : MK K) : K.1 102 12 = some 113 := (h.2 (12, 113, 20, 20) (by decide)).1
theorem MK.a12 {K : Kt} (h : MK K) : K.2.1 113 = (20, 20) := (h.2 (12, 113, 20, 20) (by decide)).2
theorem MK.p13 {K : Kt} (h : MK K) : K.1 102 13 = some 114 := (h.2 (13, 114, 20, 20) (by decide)).1
theorem MK.a13 {K : Kt} (h : MK K) : K.2.1 114 = (20, 20) := (h.2 (13, 114, 20, 20) (by decide)).2
theorem MK.p14 {K : Kt} (h : MK K) : K.1 102 14 = some 115 := (h.2 (14, 115, 20, 16) (by decide)).1
theorem MK.a14 {K : Kt} (h : MK K) : K.2.1 115 = (20, 16) := (h.2 (14, 115, 20, 16) (by decide)).2
theorem MK.p15 {K : Kt} (h : MK K) : K.1 102 15 = some 116 := (h.2 (15, 116, 20, 16) (by decide)).1
theorem MK.a15 {K : Kt} (h : MK K) : K.2.1 116 = (20, 16) := (h.2 (15, 116, 20, 16) (by decide)).2
theorem MK.p16 {K : Kt} (h : MK K) : K.1 102 16 = some 117 := (h.2 (16, 117, 20, 16) (by decide)).1
theorem MK.a16 {K : Kt} (h : MK K) : K.2.1 117 = (20, 16) := (h.2 (16, 117, 20, 16) (by decide)).2
theorem MK.p17 {K : Kt} (h : MK K) : K.1 102 17 = some 118 := (h.2 (17, 118, 20, 6) (by decide)).1
theorem MK.a17 {K : Kt} (h : MK K) : K.2.1 118 = (20, 6) := (h.2 (17, 118, 20, 6) (by decide)).2
theorem MK.p18 {K : Kt} (h : MK K) : K.1 102 18 = some 119 := (h.2 (18, 119, 20, 6) (by decide)).1
theorem MK.a18 {K : Kt} (h : MK K) : K.2.1 119 = (20, 6) := (h.2 (18, 119, 20, 6) (by decide)).2
theorem MK.p19 {K : Kt} (h : MK K) : K.1 102 19 = some 120 := (h.2 (19, 120, 20, 128) (by decide)).1
theorem MK.a19 {K : Kt} (h : MK K) : K.2.1 120 = (20, 128) := (h.2 (19, 120, 20, 128) (by decide)).2
theorem MK.p20 {K : Kt} (h : MK K) : K.1 102 20 = some 121 := (h.2 (20, 121, 20, 128) (by decide)).1
theorem MK.a20 {K : Kt} (h : MK K) : K.2.1 121 = (20, 128) := (h.2 (20, 121, 20, 128) (by decide)).2
theorem MK.p34 {K : Kt} (h : MK K) : K.1 102 34 = some 122 := (h.2 (34, 122, 23, 7) (by decide)).1
theorem MK.a34 {K : Kt} (h : MK K) : K.2.1 122 = (23, 7) := (h.2 (34, 122, 23, 7) (by decide)).2
theorem MK.p35 {K : Kt} (h : MK K) : K.1 102 35 = some 123 := (h.2 (35, 123, 23, 64) (by decide)).1
theorem MK.a35 {K : Kt} (h : MK K) : K.2.1 123 = (23, 64) := (h.2 (35, 123, 23, 64) (by decide)).2
theorem MK.p37 {K : Kt} (h : MK K) : K.1 102 37 = some 124 := (h.2 (37, 124, 20, 23) (by decide)).1
theorem MK.a37 {K : Kt} (h : MK K) : K.2.1 124 = (20, 23) := (h.2 (37, 124, 20, 23) (by decide)).2
theorem MK.p38 {K : Kt} (h : MK K) : K.1 102 38 = some 125 := (h.2 (38, 125, 20, 23) (by decide)).1
theorem MK.a38 {K : Kt} (h : MK K) : K.2.1 125 = (20, 23) := (h.2 (38, 125, 20, 23) (by decide)).2
theorem MK.p39 {K : Kt} (h : MK K) : K.1 102 39 = some 126 := (h.2 (39, 126, 20, 23) (by decide)).1
theorem MK.a39 {K : Kt} (h : MK K) : K.2.1 126 = (20, 23) := (h.2 (39, 126, 20, 23) (by decide)).2
theorem MK.p40 {K : Kt} (h : MK K) : K.1 102 40 = some 127 := (h.2 (40, 127, 20, 23) (by decide)).1
theorem MK.a40 {K : Kt} (h : MK K) : K.2.1 127 = (20, 23) := (h.2 (40, 127, 20, 23) (by decide)).2
theorem MK.p41 {K : Kt} (h : MK K) : K.1 102 41 = some 128 := (h.2 (41, 128, 20, 23) (by decide)).1
theorem MK.a41 {K : Kt} (h : MK K) : K.2.1 128 = (20, 23) := (h.2 (41, 128, 20, 23) (by decide)).2
theorem MK.p42 {K : Kt} (h : MK K) : K.1 102 42 = some 129 := (h.2 (42, 129, 20, 23) (by decide)).1
theorem MK.a42 {K : Kt} (h : MK K) : K.2.1 129 = (20, 23) := (h.2 (42, 129, 20, 23) (by decide)).2
theorem MK.p43 {K : Kt} (h : MK K) : K.1 102 43 = some 130 := (h.2 (43, 130, 20, 184) (by decide)).1
theorem MK.a43 {K : Kt} (h : MK K) : K.2.1 130 = (20, 184) := (h.2 (43, 130, 20, 184) (by decide)).2
theorem MK.p44 {K : Kt} (h : MK K) : K.1 102 44 = some 131 := (h.2 (44, 131, 20, 184) (by decide)).1
theorem MK.a44 {K : Kt} (h : MK K) : K.2.1 131 = (20, 184) := (h.2 (44, 131, 20, 184) (by decide)).2
theorem MK.p45 {K : Kt} (h : MK K) : K.1 102 45 = some 132 := (h.2 (45, 132, 20, 184) (by decide)).1
theorem MK.a45 {K : Kt} (h : MK K) : K.2.1 132 = (20, 184) := (h.2 (45, 132, 20, 184) (by decide)).2
theorem MK.p46 {K : Kt} (h : MK K) : K.1 102 46 = some 133 := (h.2 (46, 133, 20, 184) (by decide)).1
theorem MK.a46 {K : Kt} (h : MK K) : K.2.1 133 = (20, 184) := (h.2 (46, 133, 20, 184) (by decide)).2
theorem MK.p47 {K : Kt} (h : MK K) : K.1 102 47 = some 134 := (h.2 (47, 134, 20, 184) (by decide)).1
theorem MK.a47 {K : Kt} (h : MK K) : K.2.1 134 = (20, 184) := (h.2 (47, 134, 20, 184) (by decide)).2
theorem MK.p48 {K : Kt} (h : MK K) : K.1 102 48 = some 135 := (h.2 (48, 135, 20, 184) (by decide)).1
theorem MK.a48 {K : Kt} (h : MK K) : K.2.1 135 = (20, 184) := (h.2 (48, 135, 20, 184) (by decide)).2
theorem MK.p49 {K : Kt} (h : MK K) : K.1 102 49 = some 136 := (h.2 (49, 136, 20, 184) (by decide)).1
theorem MK.a49 {K : Kt} (h : MK K) : K.2.1 136 = (20, 184) := (h.2 (49, 136, 20, 184) (by decide)).2
theorem MK.p54 {K : Kt} (h : MK K) : K.1 102 54 = some 137 := (h.2 (54, 137, 20, 4) (by decide)).1
theorem MK.a54 {K : Kt} (h : MK K) : K.2.1 137 = (20, 4) := (h.2 (54, 137, 20, 4) (by decide)).2
theorem MK.p55 {K : Kt} (h : MK K) : K.1 102 55 = some 138 := (h.2 (55, 138, 20, 4) (by decide)).1
theorem MK.a55 {K : Kt} (h : MK K) : K.2.1 138 = (20, 4) := (h.2 (55, 138, 20, 4) (by decide)).2
theorem MK.p56 {K : Kt} (h : MK K) : K.1 102 56 = some 139 := (h.2 (56, 139, 20, 4) (by decide)).1
theorem MK.a56 {K : Kt} (h : MK K) : K.2.1 139 = (20, 4) := (h.2 (56, 139, 20, 4) (by decide)).2
theorem MK.p61 {K : Kt} (h : MK K) : K.1 102 61 = some 140 := (h.2 (61, 140, 20, 24) (by decide)).1
theorem MK.a61 {K : Kt} (h : MK K) : K.2.1 140 = (20, 24) := (h.2 (61, 140, 20, 24) (by decide)).2
theorem MK.p62 {K : Kt} (h : MK K) : K.1 102 62 = some 141 := (h.2 (62, 141, 20, 24) (by decide)).1
theorem MK.a62 {K : Kt} (h : MK K) : K.2.1 141 = (20, 24) := (h.2 (62, 141, 20, 24) (by decide)).2
theorem MK.p63 {K : Kt} (h : MK K) : K.1 102 63 = some 142 := (h.2 (63, 142, 20, 24) (by decide)).1
theorem MK.a63 {K : Kt} (h : MK K) : K.2.1 142 = (20, 24) := (h.2 (63, 142, 20, 24) (by decide)).2
theorem MK.p64 {K : Kt} (h : MK K) : K.1 102 64 = some 143 := (h.2 (64, 143, 22, 24) (by decide)).1
theorem MK.a64 {K : Kt} (h : MK K) : K.2.1 143 = (22, 24) := (h.2 (64, 143, 22, 24) (by decide)).2
theorem MK.p65 {K : Kt} (h : MK K) : K.1 102 65 = some 144 := (h.2 (65, 144, 22, 24) (by decide)).1
theorem MK.a65 {K : Kt} (h : MK K) : K.2.1 144 = (22, 24) := (h.2 (65, 144, 22, 24) (by decide)).2
/-- a KNOT of a law as the reference has it: sort, value -/
def kS (c : Int32) : Int32 := if 0 ≤ c then nI 0 else if -18 ≤ c ∧ c ≤ -12 then nI 1 else nI 2
def kV (c : Int32) : Int32 := if 0 ≤ c then c else if -18 ≤ c ∧ c ≤ -12 then -c - nI 12 else if c = -19 then nI 260 else if c = -20 then nI 261 else if c = -21 then nI 262 else if c = -257 then nI 258 else if c = -258 then nI 257 else -c
/-- the reference's plan tells P -/
def MP (I : IM) (P : Pl) : Prop :=
  (I 104 0 = nI (P.1 0) ∧ I 104 1 = nI (P.1 1) ∧ I 104 2 = nI (P.1 2) ∧ I 104 3 = nI (P.1 3) ∧ I 104 4 = P.2 20 0 ∧ I 104 5 = P.2 20 1 ∧ I 104 6 = P.2 20 2 ∧ I 104 7 = nI (P.1 4)) ∧
  (∀ i, i < P.1 0 → I 105 i = P.2 0 i ∧ I 106 i = P.2 1 i ∧ I 107 i = P.2 2 i) ∧
  (∀ t, t < P.1 1 → I 108 t = P.2 3 t ∧ I 109 t = P.2 4 t ∧ I 110 t = P.2 5 t ∧ I 111 t = P.2 6 t ∧ I 112 t = P.2 7 t) ∧
  (∀ i, i < P.1 2 → I 113 i = P.2 8 i ∧ I 114 i = P.2 9 i) ∧
  (∀ w, w < P.1 3 → I 115 w = P.2 10 w ∧ I 116 w = P.2 11 w ∧ I 117 w = P.2 12 w) ∧
  (∀ w, w < 3 → (bitOf (P.2 16 0) (nI w) = true → I 118 w = P.2 14 w ∧ I 119 w = P.2 15 w) ∧ (bitOf (P.2 16 0) (nI w) = false → I 118 w = nI 0 ∧ I 119 w = nI 0)) ∧
  (∀ i, i < P.1 4 → I 120 i = kS (P.2 13 i) ∧ I 121 i = kV (P.2 13 i))
theorem MP.frame {I I' : IM} {P : Pl} (h : MP I P) (hf : ∀ c, 104 ≤ c → c ≤ 121 → I' c = I c) : MP I' P := by
  unfold MP
  rw [hf 104 (by omega) (by omega), hf 105 (by omega) (by omega), hf 106 (by omega) (by omega), hf 107 (by omega) (by omega), hf 108 (by omega) (by omega), hf 109 (by omega) (by omega), hf 110 (by omega) (by omega), hf 111 (by omega) (by omega), hf 112 (by omega) (by omega), hf 113 (by omega) (by omega), hf 114 (by omega) (by omega), hf 115 (by omega) (by omega), hf 116 (by omega) (by omega), hf 117 (by omega) (by omega), hf 118 (by omega) (by omega), hf 119 (by omega) (by omega), hf 120 (by omega) (by omega), hf 121 (by omega) (by omega)]
  exact h
/-- a plan that was read -/
def wfX (P : Pl) : Prop := WFk P ∧ WFl P ∧ P.1 4 = P.1 5
/-- the reference's store f stands for S; what was put last is below B -/
def RM (I : IM) (f n : Nat) (S : SM) (B : Nat) : Prop :=
  (∀ t, t < n → I 133 (8 * f + t) = S 0 t ∧ I 132 (8 * f + t) = S 1 t ∧ I 131 (8 * f + t) = S 2 t ∧ I 134 (8 * f + t) = S 4 t ∧ I 135 (8 * f + t) = S 5 t) ∧
  (∀ w, w < 8 → I 136 (8 * f + w) = S 6 w) ∧ (I 124 f = S 8 0 ∧ I 126 f = S 9 0 ∧ I 127 f = S 10 0 ∧ I 128 f = S 13 0 ∧ I 125 f = S 14 0) ∧
  (∀ t, t < n → ∀ u, u < n → S (100 + t) u = bI (decide (I 131 (8 * f + u) = I 131 (8 * f + t) ∧ I 130 (8 * f + t) < I 130 (8 * f + u)))) ∧
  ∃ p, I 129 f = nI p ∧ p ≤ B ∧ ∀ t, t < 8 → ∃ j, j < p ∧ I 130 (8 * f + t) = nI j
/-- a place of store f -/
def onF (f c i : Nat) : Prop := 124 ≤ c ∧ c ≤ 129 ∧ i = f ∨ 130 ≤ c ∧ c ≤ 136 ∧ 8 * f ≤ i ∧ i < 8 * f + 8
section SRM
variable {I I' : IM} {f n B : Nat} {S : SM}
theorem RM.frame (h : RM I f n S B) (hn : n ≤ 8) (hf : ∀ c i, onF f c i → I' c i = I c i) : RM I' f n S B := by
  obtain ⟨h1, h2, ⟨k1, k2, k3, k4, k5⟩, h4, p, h5, h6, h7⟩ := h
  have g : ∀ c t, 130 ≤ c → c ≤ 136 → t < 8 → I' c (8 * f + t) = I c (8 * f + t) := fun c t a b e => hf c _ (Or.inr ⟨a, b, by omega, by omega⟩)
  have g0 : ∀ c, 124 ≤ c → c ≤ 129 → I' c f = I c f := fun c a b => hf c f (Or.inl ⟨a, b, rfl⟩)
  refine ⟨fun t ht => ?_, fun w hw => ?_, ⟨?_, ?_, ?_, ?_, ?_⟩, fun t ht u hu => ?_, p, ?_, h6, fun t ht => ?_⟩
  · rw [g 133 t (by omega) (by omega) (by omega), g 132 t (by omega) (by omega) (by omega), g 131 t (by omega) (by omega) (by omega), g 134 t (by omega) (by omega) (by omega), g 135 t (by omega) (by omega) (by omega)]; exact h1 t ht
  · rw [g 136 w (by omega) (by omega) hw]; exact h2 w hw
  · rw [g0 124 (by omega) (by omega)]; exact k1
  · rw [g0 126 (by omega) (by omega)]; exact k2
  · rw [g0 127 (by omega) (by omega)]; exact k3
  · rw [g0 128 (by omega) (by omega)]; exact k4
  · rw [g0 125 (by omega) (by omega)]; exact k5
  · rw [g 131 t (by omega) (by omega) (by omega), g 131 u (by omega) (by omega) (by omega), g 130 t (by omega) (by omega) (by omega), g 130 u (by omega) (by omega) (by omega)]; exact h4 t ht u hu
  · rw [g0 129 (by omega) (by omega)]; exact h5
  · rw [g 130 t (by omega) (by omega) ht]; exact h7 t ht
theorem RM.w0 (h : RM I f n S B) {t : Nat} (ht : t < 8) (v : Int32) : RM (u2 I 133 (8 * f + t) v) f n (u2 S 0 t v) B := by
  obtain ⟨h1, h2, h3, h4, h5⟩ := h
  refine ⟨fun t' ht' => ?_, fun w hw => ?_, ?_, fun t' ht' u hu => ?_, ?_⟩
  · obtain ⟨e1, e2, e3, e4, e5⟩ := h1 t' ht'
    by_cases e : t' = t
    · subst e
      simp (disch := omega) only [u2_at, u2_ne]
      simp [*]
    · simp (disch := omega) only [u2_nk, u2_ne]
      exact ⟨e1, e2, e3, e4, e5⟩
  · simp (disch := omega) only [u2_ne]
    exact h2 w hw
  · simp (disch := omega) only [u2_ne]
    exact h3
  · simp (disch := omega) only [u2_ne]
    exact h4 t' ht' u hu
  · simp (disch := omega) only [u2_ne]
    exact h5
theorem RM.w1 (h : RM I f n S B) {t : Nat} (ht : t < 8) (v : Int32) : RM (u2 I 132 (8 * f + t) v) f n (u2 S 1 t v) B := by
  obtain ⟨h1, h2, h3, h4, h5⟩ := h
  refine ⟨fun t' ht' => ?_, fun w hw => ?_, ?_, fun t' ht' u hu => ?_, ?_⟩
  · obtain ⟨e1, e2, e3, e4, e5⟩ := h1 t' ht'
    by_cases e : t' = t
    · subst e
      simp (disch := omega) only [u2_at, u2_ne]
      simp [*]
    · simp (disch := omega) only [u2_nk, u2_ne]
      exact ⟨e1, e2, e3, e4, e5⟩
  · simp (disch := omega) only [u2_ne]
    exact h2 w hw
  · simp (disch := omega) only [u2_ne]
    exact h3
  · simp (disch := omega) only [u2_ne]
    exact h4 t' ht' u hu
  · simp (disch := omega) only [u2_ne]
    exact h5
theorem RM.w4 (h : RM I f n S B) {t : Nat} (ht : t < 8) (v : Int32) : RM (u2 I 134 (8 * f + t) v) f n (u2 S 4 t v) B := by
  obtain ⟨h1, h2, h3, h4, h5⟩ := h
  refine ⟨fun t' ht' => ?_, fun w hw => ?_, ?_, fun t' ht' u hu => ?_, ?_⟩
  · obtain ⟨e1, e2, e3, e4, e5⟩ := h1 t' ht'
    by_cases e : t' = t
    · subst e
      simp (disch := omega) only [u2_at, u2_ne]
      simp [*]
    · simp (disch := omega) only [u2_nk, u2_ne]
      exact ⟨e1, e2, e3, e4, e5⟩
  · simp (disch := omega) only [u2_ne]
    exact h2 w hw
  · simp (disch := omega) only [u2_ne]
    exact h3
  · simp (disch := omega) only [u2_ne]
    exact h4 t' ht' u hu
  · simp (disch := omega) only [u2_ne]
    exact h5
theorem RM.w5 (h : RM I f n S B) {t : Nat} (ht : t < 8) (v : Int32) : RM (u2 I 135 (8 * f + t) v) f n (u2 S 5 t v) B := by
  obtain ⟨h1, h2, h3, h4, h5⟩ := h
  refine ⟨fun t' ht' => ?_, fun w hw => ?_, ?_, fun t' ht' u hu => ?_, ?_⟩
  · obtain ⟨e1, e2, e3, e4, e5⟩ := h1 t' ht'
    by_cases e : t' = t
    · subst e
      simp (disch := omega) only [u2_at, u2_ne]
      simp [*]
    · simp (disch := omega) only [u2_nk, u2_ne]
      exact ⟨e1, e2, e3, e4, e5⟩
  · simp (disch := omega) only [u2_ne]
    exact h2 w hw
  · simp (disch := omega) only [u2_ne]
    exact h3
  · simp (disch := omega) only [u2_ne]
    exact h4 t' ht' u hu
  · simp (disch := omega) only [u2_ne]
    exact h5
theorem RM.w6 (h : RM I f n S B) {w : Nat} (hw : w < 8) (v : Int32) : RM (u2 I 136 (8 * f + w) v) f n (u2 S 6 w v) B := by
  obtain ⟨h1, h2, h3, h4, h5⟩ := h
  refine ⟨fun t' ht' => ?_, fun w' hw' => ?_, ?_, fun t' ht' u hu => ?_, ?_⟩
  · simp (disch := omega) only [u2_ne]
    exact h1 t' ht'
  · by_cases e : w' = w
    · subst e
      rw [u2_at, u2_at]
    · rw [u2_nk _ _ (by omega), u2_nk _ _ e]
      exact h2 w' hw'
  · simp (disch := omega) only [u2_ne]
    exact h3
  · simp (disch := omega) only [u2_ne]
    exact h4 t' ht' u hu
  · simp (disch := omega) only [u2_ne]
    exact h5
theorem RM.w8 (h : RM I f n S B) (v : Int32) : RM (u2 I 124 f v) f n (u2 S 8 0 v) B := by
  obtain ⟨h1, h2, ⟨k1, k2, k3, k4, k5⟩, h4, h5⟩ := h
  refine ⟨fun t' ht' => ?_, fun w' hw' => ?_, ⟨?_, ?_, ?_, ?_, ?_⟩, fun t' ht' u hu => ?_, ?_⟩
  · simp (disch := omega) only [u2_ne]
    exact h1 t' ht'
  · simp (disch := omega) only [u2_ne]
    exact h2 w' hw'
  · rw [u2_at, u2_at]
  · simp (disch := omega) only [u2_ne]; exact k2
  · simp (disch := omega) only [u2_ne]; exact k3
  · simp (disch := omega) only [u2_ne]; exact k4
  · simp (disch := omega) only [u2_ne]; exact k5
  · simp (disch := omega) only [u2_ne]
    exact h4 t' ht' u hu
  · simp (disch := omega) only [u2_ne]
    exact h5
theorem RM.w9 (h : RM I f n S B) (v : Int32) : RM (u2 I 126 f v) f n (u2 S 9 0 v) B := by
  obtain ⟨h1, h2, ⟨k1, k2, k3, k4, k5⟩, h4, h5⟩ := h
  refine ⟨fun t' ht' => ?_, fun w' hw' => ?_, ⟨?_, ?_, ?_, ?_, ?_⟩, fun t' ht' u hu => ?_, ?_⟩
  · simp (disch := omega) only [u2_ne]
    exact h1 t' ht'
  · simp (disch := omega) only [u2_ne]
    exact h2 w' hw'
  · simp (disch := omega) only [u2_ne]; exact k1
  · rw [u2_at, u2_at]
  · simp (disch := omega) only [u2_ne]; exact k3
  · simp (disch := omega) only [u2_ne]; exact k4
  · simp (disch := omega) only [u2_ne]; exact k5
  · simp (disch := omega) only [u2_ne]
    exact h4 t' ht' u hu
  · simp (disch := omega) only [u2_ne]
    exact h5
theorem RM.w10 (h : RM I f n S B) (v : Int32) : RM (u2 I 127 f v) f n (u2 S 10 0 v) B := by
  obtain ⟨h1, h2, ⟨k1, k2, k3, k4, k5⟩, h4, h5⟩ := h
  refine ⟨fun t' ht' => ?_, fun w' hw' => ?_, ⟨?_, ?_, ?_, ?_, ?_⟩, fun t' ht' u hu => ?_, ?_⟩
  · simp (disch := omega) only [u2_ne]
    exact h1 t' ht'
  · simp (disch := omega) only [u2_ne]
    exact h2 w' hw'
  · simp (disch := omega) only [u2_ne]; exact k1
  · simp (disch := omega) only [u2_ne]; exact k2
  · rw [u2_at, u2_at]
  · simp (disch := omega) only [u2_ne]; exact k4
  · simp (disch := omega) only [u2_ne]; exact k5
  · simp (disch := omega) only [u2_ne]
    exact h4 t' ht' u hu
  · simp (disch := omega) only [u2_ne]
    exact h5
theorem RM.w13 (h : RM I f n S B) (v : Int32) : RM (u2 I 128 f v) f n (u2 S 13 0 v) B := by
  obtain ⟨h1, h2, ⟨k1, k2, k3, k4, k5⟩, h4, h5⟩ := h
  refine ⟨fun t' ht' => ?_, fun w' hw' => ?_, ⟨?_, ?_, ?_, ?_, ?_⟩, fun t' ht' u hu => ?_, ?_⟩
  · simp (disch := omega) only [u2_ne]
    exact h1 t' ht'
  · simp (disch := omega) only [u2_ne]
    exact h2 w' hw'
  · simp (disch := omega) only [u2_ne]; exact k1
  · simp (disch := omega) only [u2_ne]; exact k2
  · simp (disch := omega) only [u2_ne]; exact k3
  · rw [u2_at, u2_at]
  · simp (disch := omega) only [u2_ne]; exact k5
  · simp (disch := omega) only [u2_ne]
    exact h4 t' ht' u hu
  · simp (disch := omega) only [u2_ne]
    exact h5
theorem RM.w14 (h : RM I f n S B) (v : Int32) : RM (u2 I 125 f v) f n (u2 S 14 0 v) B := by
  obtain ⟨h1, h2, ⟨k1, k2, k3, k4, k5⟩, h4, h5⟩ := h
  refine ⟨fun t' ht' => ?_, fun w' hw' => ?_, ⟨?_, ?_, ?_, ?_, ?_⟩, fun t' ht' u hu => ?_, ?_⟩
  · simp (disch := omega) only [u2_ne]
    exact h1 t' ht'
  · simp (disch := omega) only [u2_ne]
    exact h2 w' hw'
  · simp (disch := omega) only [u2_ne]; exact k1
  · simp (disch := omega) only [u2_ne]; exact k2
  · simp (disch := omega) only [u2_ne]; exact k3
  · simp (disch := omega) only [u2_ne]; exact k4
  · rw [u2_at, u2_at]
  · simp (disch := omega) only [u2_ne]
    exact h4 t' ht' u hu
  · simp (disch := omega) only [u2_ne]
    exact h5
theorem RM.w11 (h : RM I f n S B) (v : Int32) : RM I f n (u2 S 11 0 v) B := by
  obtain ⟨h1, h2, h3, h4, h5⟩ := h
  refine ⟨fun t' ht' => ?_, fun w' hw' => ?_, ?_, fun t' ht' u hu => ?_, h5⟩
  · simp (disch := omega) only [u2_ne]
    exact h1 t' ht'
  · simp (disch := omega) only [u2_ne]
    exact h2 w' hw'
  · simp (disch := omega) only [u2_ne]
    exact h3
  · simp (disch := omega) only [u2_ne]
    exact h4 t' ht' u hu
theorem RM.w12 (h : RM I f n S B) (v : Int32) : RM I f n (u2 S 12 0 v) B := by
  obtain ⟨h1, h2, h3, h4, h5⟩ := h
  refine ⟨fun t' ht' => ?_, fun w' hw' => ?_, ?_, fun t' ht' u hu => ?_, h5⟩
  · simp (disch := omega) only [u2_ne]
    exact h1 t' ht'
  · simp (disch := omega) only [u2_ne]
    exact h2 w' hw'
  · simp (disch := omega) only [u2_ne]
    exact h3
  · simp (disch := omega) only [u2_ne]
    exact h4 t' ht' u hu
theorem RM.mono {B' : Nat} (h : RM I f n S B) (hB : B ≤ B') : RM I f n S B' := by
  obtain ⟨h1, h2, h3, h4, p, h5, h6, h7⟩ := h
  exact ⟨h1, h2, h3, h4, p, h5, by omega, h7⟩
end SRM
