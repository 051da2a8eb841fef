/-- where a static field lies, its class's statics cell in H -/
def vx_L (C n d : String) (A : Nat → Prop) (U : State) (H : Heap) : Prop := ∃ (c : ClassId) (k : Class) (i : Nat) (f : Field) (a : Nat) (cell : Cell), U.vm.findClass C = some c ∧ U.fieldFound? C n d = some (c, k, i, f) ∧ f.isStatic = true ∧ k.statics = some a ∧ H[a]? = some cell ∧ cell.vm.isStatics = true ∧ cell.cls = c ∧ f.slot < cell.slots.size ∧ k.staticTypes[f.slot]? = some f.type ∧ ¬ A a
theorem vx_L.moved {C n d : String} {A : Nat → Prop} {u U : State} {H : Heap} (hvm : u.vm.Alike U.vm) (h : vx_L C n d A u H) : vx_L C n d A U H := by
  obtain ⟨c, k, i, f, a, cell, h1, h2, h3, h4, h5, h6, h7, h8, h9, h10⟩ := h
  obtain ⟨k', hi', he⟩ := State.fieldFound?_setVm hvm h2
  exact ⟨c, k', i, f, a, cell, by rw [hvm.findClass]; exact h1, hi', h3, by rw [he]; exact h4, h5, h6, h7, h8, by rw [he]; exact h9, h10⟩
theorem vx_L.kept {C n d : String} {A : Nat → Prop} {U : State} {H H1 : Heap} (h : vx_L C n d A U H) (hq : ∀ a : Nat, a < H.size → ¬ A a → H1[a]? = H[a]?) : vx_L C n d A U H1 := by
  obtain ⟨c, k, i, f, a, cell, h1, h2, h3, h4, h5, h6, h7, h8, h9, h10⟩ := h
  exact ⟨c, k, i, f, a, cell, h1, h2, h3, h4, by rw [hq a (Array.getElem?_eq_some_iff.mp h5).1 h10]; exact h5, h6, h7, h8, h9, h10⟩
theorem vx_L.narrow {C n d : String} {A B : Nat → Prop} {U : State} {H : Heap} (h : vx_L C n d A U H) (hAB : ∀ q, B q → A q) : vx_L C n d B U H := by
  obtain ⟨c, k, i, f, a, cell, h1, h2, h3, h4, h5, h6, h7, h8, h9, h10⟩ := h
  exact ⟨c, k, i, f, a, cell, h1, h2, h3, h4, h5, h6, h7, h8, h9, fun z => h10 (hAB _ z)⟩
theorem vx_L.word {C n d : String} {A : Nat → Prop} {s : State} {args : Array Value} (h : vx_L C n d A s s.heap) : (Cond.laysStatic C n d).before args s = true := by
  obtain ⟨c, k, i, f, a, cell, h1, h2, h3, h4, h5, h6, h7, h8, h9, -⟩ := h
  show (Cond.laysStatic C n d).holds args s none s [] = true
  exact Cond.laysStatic_of h1 h2 h3 h4 h5 h6 h7 h8 h9
/-- .. and what it holds: null or some reference -/
def vx_Zq (C n d : String) (A : Nat → Prop) (U : State) (H : Heap) : Prop := va_Zq C n d A U H ∧ vx_L C n d A U H
theorem vx_Zq.moved {C n d : String} {A : Nat → Prop} {u U : State} {H : Heap} (hvm : u.vm.Alike U.vm) (h : vx_Zq C n d A u H) : vx_Zq C n d A U H := ⟨va_Zq.moved hvm h.1, vx_L.moved hvm h.2⟩
theorem vx_Zq.kept {C n d : String} {A : Nat → Prop} {U : State} {H H1 : Heap} (h : vx_Zq C n d A U H) (hq : ∀ a : Nat, a < H.size → ¬ A a → H1[a]? = H[a]?) : vx_Zq C n d A U H1 := ⟨va_Zq.kept h.1 hq, vx_L.kept h.2 hq⟩
theorem vx_Zq.narrow {C n d : String} {A B : Nat → Prop} {U : State} {H : Heap} (h : vx_Zq C n d A U H) (hAB : ∀ q, B q → A q) : vx_Zq C n d B U H := ⟨va_Zq.narrow h.1 hAB, vx_L.narrow h.2 hAB⟩
theorem vx_Zqof {args : Array Value} {s : State} {C n d : String} {A : Nat → Prop} (hl : (Cond.laysStatic C n d).before args s = true) (hini : (Cond.initialized C).before args s = true) (h : (Cond.isRef (.static C n d)).before args s = true) (hA : ∀ a : Nat, a < s.heap.size → ¬ A a) : vx_Zq C n d A s s.heap := by
  refine ⟨va_Zqof hl hini h hA, ?_⟩
  obtain ⟨c, k, i, f, a, cell, h1, h2, h3, h4, h5, h6, h7, h8, h9⟩ := Cond.laysStatic_spec hl
  exact ⟨c, k, i, f, a, cell, h1, h2, h3, h4, h5, h6, h7, h8, h9, hA a (Array.getElem?_eq_some_iff.mp h5).1⟩
def va_AOA (ty : FieldType) (U : State) : Prop := (Cond.arrayOver (.array ty)).before #[] U = true
theorem va_AOA.use {ty : FieldType} {A : Array Value} {U : State} (h : va_AOA ty U) : (Cond.arrayOver (.array ty)).before A U = true := h
theorem va_AOA.moved {ty : FieldType} {u U : State} (hvm : u.vm.Alike U.vm) (h : va_AOA ty u) : va_AOA ty U := by
  have hb : U.vm.bare = u.vm.bare := by first | exact hvm.bare_eq | exact hvm.bare_eq.symm
  have hi : ∀ comp : ClassId, (U.vm.classes.findIdx? fun (x : Class) => match x.kind with | .array component _ => component == comp | _ => false) = (u.vm.classes.findIdx? fun (x : Class) => match x.kind with | .array component _ => component == comp | _ => false) := fun comp => by
    have e := va_idx_bare U.vm comp
    rw [hb] at e
    exact e.symm.trans (va_idx_bare u.vm comp)
  have h0 := h
  unfold va_AOA Cond.before Cond.holds at h0
  simp only [Cond.value, beq_iff_eq] at h0
  cases hc : u.vm.findClass (FieldType.array ty).toString with
  | none => rw [hc] at h0; simp at h0
  | some comp =>
    rw [hc, Option.bind_some, Option.bind_eq_some_iff] at h0
    obtain ⟨c, hx, h0⟩ := h0
    cases hk : u.vm.classes[c]? with
    | none => rw [hk] at h0; simp at h0
    | some k =>
      obtain ⟨k', hk', he⟩ := hvm.2.2 _ _ hk
      have hkind : k'.kind = k.kind := by rw [he]
      have f1 : U.vm.findClass (FieldType.array ty).toString = some comp := by rw [hvm.findClass]; exact hc
      have f2 : U.vm.findClass ("[" ++ (FieldType.array ty).toString) = u.vm.findClass ("[" ++ (FieldType.array ty).toString) := by rw [hvm.findClass]
      unfold va_AOA Cond.before Cond.holds
      simp only [Cond.value]
      rw [f1, Option.bind_some]
      refine (congrArg (fun o : Option Nat => (o.bind (fun c => (U.vm.classes[c]?).map fun (k : Class) => match k.kind with | .array _ t => decide (t = FieldType.array ty) && decide (U.vm.findClass ("[" ++ (FieldType.array ty).toString) = some c) | _ => false) == some true)) ((hi comp).trans hx)).trans ?_
      rw [hk] at h0
      simp only [Option.bind_some, hk', Option.map_some, hkind, f2, beq_iff_eq] at h0 ⊢
      exact h0

/-! ===== the words as one list; a method; memory ===== -/
def gtbl : List Cond := lw_tbl.filter goodWord
theorem mem_g {w : Cond} (i : Nat) (h : lw_tbl[i]? = some w) (hg : goodWord w = true) : w ∈ gtbl := List.mem_filter.mpr ⟨List.mem_of_getElem? h, hg⟩
theorem g_good {w : Cond} (h : w ∈ gtbl) : (w.onTables && w.keeps) = true ∨ ∃ ty, w = .arrayClass ty := good_of_word (List.mem_filter.mp h).2
/-- a method: its name, bytes, locals, answer, and its instructions: place, instruction, next place, length -/
abbrev MD : Type := MethodName × ByteArray × Nat × Option FieldType × List (Nat × Instr × Nat × Nat)
def wsM (M : MD) : List Cond := Cond.code M.1 M.2.1 M.2.2.1 M.2.2.2.1 :: gtbl
def lkL : List (Nat × Instr × Nat × Nat) → Nat → Option (Instr × Nat × Nat)
  | [], _ => none
  | x :: t, pc => match Nat.beq x.1 pc with
    | true => some x.2
    | false => lkL t pc
def lk (M : MD) (pc : Nat) : Option (Instr × Nat × Nat) := lkL M.2.2.2.2 pc
theorem lkL_mem {L : List (Nat × Instr × Nat × Nat)} {pc : Nat} {y : Instr × Nat × Nat} (h : lkL L pc = some y) : (pc, y) ∈ L := by
  induction L with
  | nil => cases h
  | cons x t ih =>
    unfold lkL at h
    cases hb : Nat.beq x.1 pc with
    | true =>
      rw [hb] at h
      have e := Nat.eq_of_beq_eq_true hb
      obtain ⟨x1, x2⟩ := x
      cases h
      dsimp only at e
      subst e
      exact List.mem_cons_self
    | false =>
      rw [hb] at h
      exact List.mem_cons_of_mem _ (ih h)
/-- its listing is what its bytes say -/
def MDe (M : MD) : Prop := ∀ x ∈ M.2.2.2.2, decode M.2.1 x.1 = .ok (x.2.1, x.2.2.2) ∧ x.2.2.1 = x.1 + x.2.2.2
def MOk (M : MD) : Prop := plainName M.1.cls = true ∧ Cond.code M.1 M.2.1 M.2.2.1 M.2.2.2.1 ∈ gtbl ∧ Cond.initialized M.1.cls ∈ gtbl ∧ (M.1.cls ≠ "java/lang/invoke/MethodHandle" ∧ M.1.cls ≠ "java/lang/invoke/VarHandle") ∧ M.2.2.1 ≤ 40 ∧ MDe M
/-- ints, longs, references, shapes (a kind and a length), how many cells -/
abbrev Hp : Type := (Nat → Nat → Int32) × (Nat → Nat → Int64) × (Nat → Nat → Option Nat) × (Nat → Nat × Nat) × Nat
def mI (h : Hp) : Nat → Nat → Int32 := h.1
def mJ (h : Hp) : Nat → Nat → Int64 := h.2.1
def mP (h : Hp) : Nat → Nat → Option Nat := h.2.2.1
def mS (h : Hp) : Nat → Nat × Nat := h.2.2.2.1
def mN (h : Hp) : Nat := h.2.2.2.2
def wI (h : Hp) (a k : Nat) (v : Int32) : Hp := (fun a' k' => if a' = a ∧ k' = k then v else h.1 a' k', h.2)
def wJ (h : Hp) (a k : Nat) (v : Int64) : Hp := (h.1, fun a' k' => if a' = a ∧ k' = k then v else h.2.1 a' k', h.2.2)
def wP (h : Hp) (a k : Nat) (v : Option Nat) : Hp := (h.1, h.2.1, fun a' k' => if a' = a ∧ k' = k then v else h.2.2.1 a' k', h.2.2.2)
/-- a whole row of ints -/
def wR (h : Hp) (a : Nat) (f : Nat → Int32) : Hp := (fun a' k' => if a' = a then f k' else h.1 a' k', h.2)
/-- a new cell -/
def nA (h : Hp) (kd len : Nat) : Hp := (fun a' k' => if a' = mN h then 0 else h.1 a' k', fun a' k' => if a' = mN h then 0 else h.2.1 a' k', fun a' k' => if a' = mN h then none else h.2.2.1 a' k', fun a' => if a' = mN h then (kd, len) else h.2.2.2.1 a', mN h + 1)
theorem mI_wI (h : Hp) (a k : Nat) (v : Int32) (a' k' : Nat) : mI (wI h a k v) a' k' = if a' = a ∧ k' = k then v else mI h a' k' := rfl
theorem mI_wJ (h : Hp) (a k : Nat) (v : Int64) : mI (wJ h a k v) = mI h := rfl
theorem mI_wP (h : Hp) (a k : Nat) (v : Option Nat) : mI (wP h a k v) = mI h := rfl
theorem mI_wR (h : Hp) (a : Nat) (f : Nat → Int32) (a' k' : Nat) : mI (wR h a f) a' k' = if a' = a then f k' else mI h a' k' := rfl
theorem mJ_wI (h : Hp) (a k : Nat) (v : Int32) : mJ (wI h a k v) = mJ h := rfl
theorem mJ_wR (h : Hp) (a : Nat) (f : Nat → Int32) : mJ (wR h a f) = mJ h := rfl
theorem mJ_wJ (h : Hp) (a k : Nat) (v : Int64) (a' k' : Nat) : mJ (wJ h a k v) a' k' = if a' = a ∧ k' = k then v else mJ h a' k' := rfl
theorem mP_wI (h : Hp) (a k : Nat) (v : Int32) : mP (wI h a k v) = mP h := rfl
theorem mP_wJ (h : Hp) (a k : Nat) (v : Int64) : mP (wJ h a k v) = mP h := rfl
theorem mP_wR (h : Hp) (a : Nat) (f : Nat → Int32) : mP (wR h a f) = mP h := rfl
theorem mP_wP (h : Hp) (a k : Nat) (v : Option Nat) (a' k' : Nat) : mP (wP h a k v) a' k' = if a' = a ∧ k' = k then v else mP h a' k' := rfl
theorem mS_wI (h : Hp) (a k : Nat) (v : Int32) : mS (wI h a k v) = mS h := rfl
theorem mS_wJ (h : Hp) (a k : Nat) (v : Int64) : mS (wJ h a k v) = mS h := rfl
theorem mS_wP (h : Hp) (a k : Nat) (v : Option Nat) : mS (wP h a k v) = mS h := rfl
theorem mS_wR (h : Hp) (a : Nat) (f : Nat → Int32) : mS (wR h a f) = mS h := rfl

def kC : Nat → String
  | 0 => RX0
  | 1 => RX1
  | 2 => RX2
  | 3 => RX3
  | 4 => RX4
  | 5 => RX5
  | 6 => RX6
  | 7 => RX7
  | 8 => RX8
  | 9 => RX9
  | 10 => RX10
  | _ => RX0
def kT : Nat → u_T
  | 0 => TX0
  | 1 => TX1
  | 2 => TX2
  | 3 => TX3
  | 4 => TX4
  | 5 => TX5
  | 6 => TX6
  | 7 => TX7
  | 8 => TX8
  | 9 => TX9
  | 10 => TX10
  | _ => TX0
def kN : Nat → Nat
  | 0 => 5
  | 1 => 7
  | 2 => 6
  | 3 => 10
  | 4 => 3
  | 5 => 7
  | 6 => 15
  | 7 => 1
  | 8 => 2
  | 9 => 13
  | 10 => 66
  | _ => 0
def kTy : Nat → Nat → FieldType
  | 0 => tyX0
  | 1 => tyX1
  | 2 => tyX2
  | 3 => tyX3
  | 4 => tyX4
  | 5 => tyX5
  | 6 => tyX6
  | 7 => tyX7
  | 8 => tyX8
  | 9 => tyX9
  | 10 => tyX10
  | _ => tyX0
theorem k_cl : ∀ kd : Nat, kd < 11 → vwCl[kd]? = some (kC kd, kT kd, kN kd)
  | 0, _ => rfl
  | 1, _ => rfl
  | 2, _ => rfl
  | 3, _ => rfl
  | 4, _ => rfl
  | 5, _ => rfl
  | 6, _ => rfl
  | 7, _ => rfl
  | 8, _ => rfl
  | 9, _ => rfl
  | 10, _ => rfl
  | n + 11, h => absurd h (by omega)
theorem k_ty : ∀ kd : Nat, kd < 11 → ∀ k, k < kN kd → parseFieldDescriptor (kT kd k).2.2.1 = some (kTy kd k)
  | 0, _ => tyX0_ok
  | 1, _ => tyX1_ok
  | 2, _ => tyX2_ok
  | 3, _ => tyX3_ok
  | 4, _ => tyX4_ok
  | 5, _ => tyX5_ok
  | 6, _ => tyX6_ok
  | 7, _ => tyX7_ok
  | 8, _ => tyX8_ok
  | 9, _ => tyX9_ok
  | 10, _ => tyX10_ok
  | n + 11, h => absurd h (by omega)
theorem k_nm : ∀ kd : Nat, kd < 11 → ∀ a, a < kN kd → ∀ b, b < kN kd → a ≠ b → (kT kd a).2.1 ≠ (kT kd b).2.1
  | 0, _ => nmX0
  | 1, _ => nmX1
  | 2, _ => nmX2
  | 3, _ => nmX3
  | 4, _ => nmX4
  | 5, _ => nmX5
  | 6, _ => nmX6
  | 7, _ => nmX7
  | 8, _ => nmX8
  | 9, _ => nmX9
  | 10, _ => nmX10
  | n + 11, h => absurd h (by omega)
theorem k_in0 : ∀ w ∈ u_ws RX0 TX0 5, w ∈ lw_tbl ∧ goodWord w = true := by decide +kernel
theorem k_in1 : ∀ w ∈ u_ws RX1 TX1 7, w ∈ lw_tbl ∧ goodWord w = true := by decide +kernel
theorem k_in2 : ∀ w ∈ u_ws RX2 TX2 6, w ∈ lw_tbl ∧ goodWord w = true := by decide +kernel
theorem k_in3 : ∀ w ∈ u_ws RX3 TX3 10, w ∈ lw_tbl ∧ goodWord w = true := by decide +kernel
theorem k_in4 : ∀ w ∈ u_ws RX4 TX4 3, w ∈ lw_tbl ∧ goodWord w = true := by decide +kernel
theorem k_in5 : ∀ w ∈ u_ws RX5 TX5 7, w ∈ lw_tbl ∧ goodWord w = true := by decide +kernel
theorem k_in6 : ∀ w ∈ u_ws RX6 TX6 15, w ∈ lw_tbl ∧ goodWord w = true := by decide +kernel
theorem k_in7 : ∀ w ∈ u_ws RX7 TX7 1, w ∈ lw_tbl ∧ goodWord w = true := by decide +kernel
theorem k_in8 : ∀ w ∈ u_ws RX8 TX8 2, w ∈ lw_tbl ∧ goodWord w = true := by decide +kernel
theorem k_in9 : ∀ w ∈ u_ws RX9 TX9 13, w ∈ lw_tbl ∧ goodWord w = true := by decide +kernel
theorem k_in10 : ∀ w ∈ u_ws RX10 TX10 66, w ∈ lw_tbl ∧ goodWord w = true := by decide +kernel
theorem k_in : ∀ kd : Nat, kd < 11 → ∀ w ∈ u_ws (kC kd) (kT kd) (kN kd), w ∈ gtbl
  | 0, _ => fun w h => List.mem_filter.mpr (k_in0 w h)
  | 1, _ => fun w h => List.mem_filter.mpr (k_in1 w h)
  | 2, _ => fun w h => List.mem_filter.mpr (k_in2 w h)
  | 3, _ => fun w h => List.mem_filter.mpr (k_in3 w h)
  | 4, _ => fun w h => List.mem_filter.mpr (k_in4 w h)
  | 5, _ => fun w h => List.mem_filter.mpr (k_in5 w h)
  | 6, _ => fun w h => List.mem_filter.mpr (k_in6 w h)
  | 7, _ => fun w h => List.mem_filter.mpr (k_in7 w h)
  | 8, _ => fun w h => List.mem_filter.mpr (k_in8 w h)
  | 9, _ => fun w h => List.mem_filter.mpr (k_in9 w h)
  | 10, _ => fun w h => List.mem_filter.mpr (k_in10 w h)
  | n + 11, h => absurd h (by omega)
/-- what a place of a kind holds: 0 an int, 1 a long, 2 a reference -/
def sty (kd k : Nat) : Nat := if kd < 11 then (match kTy kd k with
  | .long => 1
  | .object _ => 2
  | .array _ => 2
  | _ => 0) else if kd = 23 then 1 else if kd = 24 then 2 else 0
/-- the arrays' kinds: int, byte, boolean, long, int[] -/
def aTy : Nat → FieldType
  | 20 => .int
  | 21 => .byte
  | 22 => .boolean
  | 23 => .long
  | _ => .array .int
/-- what stays: the classes' numbers and slots, the arrays' classes, where our cells begin, the heap at first, the texts' cells -/
abbrev GG : Type := va_G × (Nat → ClassId) × Nat × Heap × (Nat → Nat) × Nat × (Nat → Int32)
def gD (G : GG) : va_G := G.1
def gC (G : GG) : Nat → ClassId := G.2.1
def gB (G : GG) : Nat := G.2.2.1
def gH (G : GG) : Heap := G.2.2.2.1
def gA (G : GG) : Nat → Nat := G.2.2.2.2.1
/-- the script: its length, its ints -/
def gL (G : GG) : Nat := G.2.2.2.2.2.1
def gX (G : GG) : Nat → Int32 := G.2.2.2.2.2.2
def tv (G : GG) : Value → Value
  | .ref k => .ref (gB G + k)
  | .retAddr k => .ref (gA G k)
  | v => v
def cv (G : GG) (h : Hp) (kd a : Nat) : Nat → Value := fun k => if sty kd k = 0 then .int (mI h a k) else if sty kd k = 1 then .long (mJ h a k) else va_rf ((mP h a k).map (gB G + ·))
def cAt (G : GG) (h : Hp) (a : Nat) (H : Heap) : Prop :=
  if (mS h a).1 < 11 then t_OB (gB G + a) ((gD G).1 (mS h a).1) (kN (mS h a).1) ((gD G).2 (mS h a).1) H (cv G h (mS h a).1 a)
  else if (mS h a).1 < 30 then H[gB G + a]? = some (arrV (gC G (mS h a).1) (mS h a).2 (cv G h (mS h a).1 a)) else True
def HR (G : GG) (h : Hp) (H : Heap) : Prop := H.size = gB G + mN h ∧ (∀ q, q < gB G → H[q]? = (gH G)[q]?) ∧ (∀ a, a < mN h → cAt G h a H) ∧ ∀ a, mN h ≤ a → 30 ≤ (mS h a).1
/-- the words of nest mates -/
def nws : List (String × Nat × MethodName) := [("TinNation", 17, yX2_init), ("TinNation$Parser", 11, yX3_init), ("TinNation$Plan", 31, yX1_init), ("TinNation", 24, yX3_init), ("TinNation", 40, yX6_init), ("TinNation", 53, yX8_init), ("TinNation", 60, yX7_init), ("TinNation$Laws", 41, yX9_isBit), ("TinNation$Days", 146, yX9_isBit), ("TinNation$Told", 47, yX9_isBit)]
/-- the texts: class, entry, text, number; lengths, bytes -/
def strs : List (String × Nat × String × Nat) := [("TinNation$Scanner", 19, "kind  tin   open  want  keys  rust  seed  law   fresh glory blow  dents keeps weightsound worth left  day   not   and   or    ", 0), ("TinNation$Scanner", 59, "()*+-/;<=>", 1), ("TinNation", 127, "no such tin", 2), ("TinNation", 153, "no such thing of a tin", 3), ("TinNationModel", 194, "kind tin open want keys rust seed law fresh glory blow or and not dents keeps weight sound worth left day ", 4)]
def lenS : List Nat := [126, 10, 11, 22, 106]
def bytS : List (List Int32) := [[107, 105, 110, 100, 32, 32, 116, 105, 110, 32, 32, 32, 111, 112, 101, 110, 32, 32, 119, 97, 110, 116, 32, 32, 107, 101, 121, 115, 32, 32, 114, 117, 115, 116, 32, 32, 115, 101, 101, 100, 32, 32, 108, 97, 119, 32, 32, 32, 102, 114, 101, 115, 104, 32, 103, 108, 111, 114, 121, 32, 98, 108, 111, 119, 32, 32, 100, 101, 110, 116, 115, 32, 107, 101, 101, 112, 115, 32, 119, 101, 105, 103, 104, 116, 115, 111, 117, 110, 100, 32, 119, 111, 114, 116, 104, 32, 108, 101, 102, 116, 32, 32, 100, 97, 121, 32, 32, 32, 110, 111, 116, 32, 32, 32, 97, 110, 100, 32, 32, 32, 111, 114, 32, 32, 32, 32], [40, 41, 42, 43, 45, 47, 59, 60, 61, 62], [110, 111, 32, 115, 117, 99, 104, 32, 116, 105, 110], [110, 111, 32, 115, 117, 99, 104, 32, 116, 104, 105, 110, 103, 32, 111, 102, 32, 97, 32, 116, 105, 110], [107, 105, 110, 100, 32, 116, 105, 110, 32, 111, 112, 101, 110, 32, 119, 97, 110, 116, 32, 107, 101, 121, 115, 32, 114, 117, 115, 116, 32, 115, 101, 101, 100, 32, 108, 97, 119, 32, 102, 114, 101, 115, 104, 32, 103, 108, 111, 114, 121, 32, 98, 108, 111, 119, 32, 111, 114, 32, 97, 110, 100, 32, 110, 111, 116, 32, 100, 101, 110, 116, 115, 32, 107, 101, 101, 112, 115, 32, 119, 101, 105, 103, 104, 116, 32, 115, 111, 117, 110, 100, 32, 119, 111, 114, 116, 104, 32, 108, 101, 102, 116, 32, 100, 97, 121, 32]]
/-- what lies below our cells: texts, the static that says how texts are held, the script, what a throw needs -/
def PF (G : GG) (U : State) : Prop := va_Z "jdk/internal/util/Preconditions" "SIOOBE_FORMATTER" "Ljava/util/function/BiFunction;" .null (fun q => gB G ≤ q) U (gH G) ∨ va_Z "jdk/internal/util/Preconditions" "SIOOBE_FORMATTER" "Ljava/util/function/BiFunction;" (.ref (gA G 50)) (fun q => gB G ≤ q) U (gH G)
theorem PF.moved {G : GG} {u U : State} (hvm : u.vm.Alike U.vm) (h : PF G u) : PF G U := h.imp (fun q => va_Z.moved hvm q) (fun q => va_Z.moved hvm q)
/-- what a throw needs beside the good words: the exceptions' own casts, the constructors that they pass on to, and that the second is none of the first -/
def eIx : String := "java/lang/IndexOutOfBoundsException"
def eNo : String := "java/util/NoSuchElementException"
def nE1 : List String := ["java/lang/RuntimeException", "java/lang/Exception"]
def fws : List Cond := [.castable eIx eIx, .castable eNo eNo, .declares (Bundle.initS "java/lang/RuntimeException"), .declares (Bundle.initS "java/lang/Exception"), .declares (Bundle.initS Bundle.tN)]
theorem fws_ok : ∀ w ∈ fws, w.onTables = true ∧ w.keepsFace = true := by decide +kernel
def FW (U : State) : Prop := (∀ w ∈ fws, w.before #[] U = true) ∧ va_Nc eNo eIx U
theorem FW.warm {s U : State} (hW : s.WarmedH U.vm) (h : FW s) : FW U := ⟨fun w hw => va_tabs (fws_ok w hw).1 (rfl : (s.setVm U.vm).vm = U.vm) (Cond.before_shiftedFace (State.Shifted.of_warmed hW) w (fws_ok w hw).2 (h.1 w hw)), va_Nc.moved hW.alike h.2⟩
theorem FW.same {u U : State} (hv : u.vm = U.vm) (h : FW u) : FW U := ⟨fun w hw => va_tabs (fws_ok w hw).1 hv (h.1 w hw), va_Nc.moved (by rw [hv]; exact Vm.Alike.refl U.vm) h.2⟩
def ZX (G : GG) (U : State) : Prop := vk_S 5 lenS bytS (fun i => gA G i) (fun i => gA G (10 + i)) (fun q => gB G ≤ q) U (gH G) ∧ (∀ q ∈ strs, vk_R q.1 q.2.1 q.2.2.1 (gA G q.2.2.2) U) ∧ va_Z "java/lang/String" "COMPACT_STRINGS" "Z" (.int 1) (fun q => gB G ≤ q) U (gH G) ∧ va_X (gA G 100) (gL G) (gX G) U (gH G) ∧ gA G 100 < gB G ∧ vx_Zq Bundle.tN "UNASSIGNED_STACK" Bundle.steD (fun q => gB G ≤ q) U (gH G) ∧ vx_Zq Bundle.tN "SUPPRESSED_SENTINEL" Bundle.listD (fun q => gB G ≤ q) U (gH G) ∧ (va_AOA .int U ∧ FW U) ∧ PF G U
theorem ZX.warm {G : GG} {s U : State} (hW : s.WarmedH U.vm) (h : ZX G s) : ZX G U := ⟨vk_S.moved hW.alike h.1, fun q hq => vk_R.warm hW (h.2.1 q hq), va_Z.moved hW.alike h.2.2.1, va_X.moved hW.alike h.2.2.2.1, h.2.2.2.2.1, vx_Zq.moved hW.alike h.2.2.2.2.2.1, vx_Zq.moved hW.alike h.2.2.2.2.2.2.1, ⟨va_AOA.moved hW.alike h.2.2.2.2.2.2.2.1.1, FW.warm hW h.2.2.2.2.2.2.2.1.2⟩, PF.moved hW.alike h.2.2.2.2.2.2.2.2⟩
theorem ZX.same {G : GG} {u U : State} (hv : u.vm = U.vm) (h : ZX G u) : ZX G U := by
  have ha : u.vm.Alike U.vm := by rw [hv]; exact Vm.Alike.refl U.vm
  exact ⟨vk_S.moved ha h.1, fun q hq => vk_R.same hv.symm (h.2.1 q hq), va_Z.moved ha h.2.2.1, va_X.moved ha h.2.2.2.1, h.2.2.2.2.1, vx_Zq.moved ha h.2.2.2.2.2.1, vx_Zq.moved ha h.2.2.2.2.2.2.1, ⟨va_AOA.moved ha h.2.2.2.2.2.2.2.1.1, FW.same hv h.2.2.2.2.2.2.2.1.2⟩, PF.moved ha h.2.2.2.2.2.2.2.2⟩
def KX (G : GG) (U : State) : Prop := va_K (gD G) vwCl [] U ∧ (∀ kd, 20 ≤ kd → kd < 25 → ArrOfT U (gC G kd) (aTy kd) ∧ U.vm.findClass ("[" ++ (aTy kd).toString) = some (gC G kd)) ∧ (∀ w ∈ nws, va_Nw (.methodLinkNest w.1 w.2.1 w.2.2 "TinNation") U) ∧ ZX G U
theorem KX.warm {G : GG} {s U : State} (hW : s.WarmedH U.vm) (h : KX G s) : KX G U := ⟨va_K.moved hW.alike h.1, fun kd h1 h2 => ⟨arrOfT_moved hW.alike (h.2.1 kd h1 h2).1, by rw [hW.alike.findClass]; exact (h.2.1 kd h1 h2).2⟩, fun w hw => va_Nw.warmM hW (h.2.2.1 w hw), ZX.warm hW h.2.2.2⟩
theorem KX.same {G : GG} {u U : State} (hv : u.vm = U.vm) (h : KX G u) : KX G U := ⟨va_K.moved (by rw [hv]; exact Vm.Alike.refl U.vm) h.1, fun kd h1 h2 => ⟨arrOfT_moved (by rw [hv]; exact Vm.Alike.refl U.vm) (h.2.1 kd h1 h2).1, by rw [← hv]; exact (h.2.1 kd h1 h2).2⟩, fun w hw => va_Nw.same rfl hv (h.2.2.1 w hw), ZX.same hv h.2.2.2⟩
/-- the room by depth: cells and slots that may come -/
def rmm (d mc ms : Nat) : Room := { frames := d, cells := mc, slots := ms, locals := 64 * d }
def Qx (G : GG) (r : Option Value) (h' : Hp) : Array Value → State → Outcome → State → Prop := fun _ _ o t => o = .returned (r.map (tv G)) ∧ HR G h' t.heap
def Cx (G : GG) (M : MD) (p : Program) (s : State) (m : MethodId) (args : Array Value) (meth : Method) (c : Code) : Prop :=
  p.tables.exec = Jvm.exec ∧ c.code = M.2.1 ∧ meth.sig.returnType = M.2.2.2.1 ∧ c.maxLocals = M.2.2.1 ∧ (∀ w ∈ gtbl, w.before args s = true) ∧ s.vm.findClass M.1.cls = some m.cls ∧ meth.locks = false ∧ KX G s ∧ MDe M ∧ meth.name = M.1.name
theorem Cx.dec {G : GG} {M : MD} {p : Program} {s : State} {m : MethodId} {args : Array Value} {meth : Method} {c : Code} (C : Cx G M p s m args meth c) {pc npc n : Nat} {i : Instr} (h : lk M pc = some (i, npc, n)) : decode M.2.1 pc = .ok (i, n) ∧ npc = pc + n := by
  obtain ⟨-, -, -, -, -, -, -, -, hM, -⟩ := C
  exact hM (pc, i, npc, n) (lkL_mem h)
theorem Cx.word {G : GG} {M : MD} {p : Program} {s : State} {m : MethodId} {args : Array Value} {meth : Method} {c : Code} (C : Cx G M p s m args meth c) {w : Cond} (h : w ∈ gtbl) : w.before args s = true := by
  obtain ⟨-, -, -, -, hw, -⟩ := C
  exact hw w h
/-- the locals: a null is a place of which nothing is said -/
def LR (G : GG) (L : List Value) (ls : Array Slot) (n : Nat) : Prop := ls.size = n ∧ lv_wf ls ∧ ∀ (i : Nat) (v : Value), L[i]? = some v → v ≠ .null → ls[i]? = some (.val (tv G v))
/-- the machine, at this place of this method, comes to the method's end with this answer and this memory -/
def Go (l : Launch) (G : GG) (d mc ms : Nat) (M : MD) (kc ks pc : Nat) (L st : List Value) (h : Hp) (r : Option Value) (h' : Hp) : Prop :=
  ∀ (p : Program) (e : Env) (s : State) (m : MethodId) (args : Array Value) (below : List Frame) (meth : Method) (c : Code) (ls : Array Slot) (H : Heap) (locs : List Loc),
    Cx G M p s m args meth c → LR G L ls M.2.2.1 → HR G h H → (∀ q ∈ locs, gB G ≤ q.base) →
    W p l e (rmm d mc ms) s m args below meth c H locs kc ks (MQ below (Qx G r h') args s mc ms (fun q => gB G ≤ q)) (F0 m pc ls (st.map (tv G)))
/-- a method's contract -/
def Ct (l : Launch) (G : GG) (d mc ms : Nat) (M : MD) (as : List Value) (h : Hp) (r : Option Value) (h' : Hp) : Prop :=
  Met l M.1 (wsM M) (rmm d mc ms) (va_Pc (as.map (tv G)) (fun U => HR G h U.heap ∧ KX G U)) (Qx G r h') mc ms (fun q => gB G ≤ q)

