/-! ===== the words as one list; a method; memory ===== -/
def gtbl : List Cond := lw_tbl.filter goodWord
theorem mem_g {w : Cond} (i : Nat) (h : lw_tbl[i]? = some w) (hg : goodWord w = true) : w ∈ gtbl := List.mem_filter.mpr ⟨List.mem_of_getElem? h, hg⟩
theorem g_good {w : Cond} (h : w ∈ gtbl) : (w.onTables && w.keeps) = true ∨ ∃ ty, w = .arrayClass ty := good_of_word (List.mem_filter.mp h).2
/-- a method: its name, bytes, locals, answer, and its instructions: place, instruction, next place, length -/
abbrev MD : Type := MethodName × ByteArray × Nat × Option FieldType × List (Nat × Instr × Nat × Nat)
def wsM (M : MD) : List Cond := Cond.code M.1 M.2.1 M.2.2.1 M.2.2.2.1 :: gtbl
def lkL : List (Nat × Instr × Nat × Nat) → Nat → Option (Instr × Nat × Nat)
  | [], _ => none
  | x :: t, pc => match Nat.beq x.1 pc with
    | true => some x.2
    | false => lkL t pc
def lk (M : MD) (pc : Nat) : Option (Instr × Nat × Nat) := lkL M.2.2.2.2 pc
theorem lkL_mem {L : List (Nat × Instr × Nat × Nat)} {pc : Nat} {y : Instr × Nat × Nat} (h : lkL L pc = some y) : (pc, y) ∈ L := by
  induction L with
  | nil => cases h
  | cons x t ih =>
    unfold lkL at h
    cases hb : Nat.beq x.1 pc with
    | true =>
      rw [hb] at h
      have e := Nat.eq_of_beq_eq_true hb
      obtain ⟨x1, x2⟩ := x
      cases h
      dsimp only at e
      subst e
      exact List.mem_cons_self
    | false =>
      rw [hb] at h
      exact List.mem_cons_of_mem _ (ih h)
def MOk (M : MD) : Prop := plainName M.1.cls = true ∧ Cond.code M.1 M.2.1 M.2.2.1 M.2.2.2.1 ∈ gtbl ∧ Cond.initialized M.1.cls ∈ gtbl ∧ (M.1.cls ≠ "java/lang/invoke/MethodHandle" ∧ M.1.cls ≠ "java/lang/invoke/VarHandle") ∧ M.2.2.1 ≤ 40 ∧ ∀ x ∈ M.2.2.2.2, decode M.2.1 x.1 = .ok (x.2.1, x.2.2.2) ∧ x.2.2.1 = x.1 + x.2.2.2
/-- ints, longs, references, shapes (a kind and a length), how many cells -/
abbrev Hp : Type := (Nat → Nat → Int32) × (Nat → Nat → Int64) × (Nat → Nat → Option Nat) × (Nat → Nat × Nat) × Nat
def mI (h : Hp) : Nat → Nat → Int32 := h.1
def mJ (h : Hp) : Nat → Nat → Int64 := h.2.1
def mP (h : Hp) : Nat → Nat → Option Nat := h.2.2.1
def mS (h : Hp) : Nat → Nat × Nat := h.2.2.2.1
def mN (h : Hp) : Nat := h.2.2.2.2
def wI (h : Hp) (a k : Nat) (v : Int32) : Hp := (fun a' k' => if a' = a ∧ k' = k then v else h.1 a' k', h.2)
def wJ (h : Hp) (a k : Nat) (v : Int64) : Hp := (h.1, fun a' k' => if a' = a ∧ k' = k then v else h.2.1 a' k', h.2.2)
def wP (h : Hp) (a k : Nat) (v : Option Nat) : Hp := (h.1, h.2.1, fun a' k' => if a' = a ∧ k' = k then v else h.2.2.1 a' k', h.2.2.2)
/-- a whole row of ints -/
def wR (h : Hp) (a : Nat) (f : Nat → Int32) : Hp := (fun a' k' => if a' = a then f k' else h.1 a' k', h.2)
/-- a new cell -/
def nA (h : Hp) (kd len : Nat) : Hp := (fun a' k' => if a' = mN h then 0 else h.1 a' k', fun a' k' => if a' = mN h then 0 else h.2.1 a' k', fun a' k' => if a' = mN h then none else h.2.2.1 a' k', fun a' => if a' = mN h then (kd, len) else h.2.2.2.1 a', mN h + 1)
theorem mI_wI (h : Hp) (a k : Nat) (v : Int32) (a' k' : Nat) : mI (wI h a k v) a' k' = if a' = a ∧ k' = k then v else mI h a' k' := rfl
theorem mI_wJ (h : Hp) (a k : Nat) (v : Int64) : mI (wJ h a k v) = mI h := rfl
theorem mI_wP (h : Hp) (a k : Nat) (v : Option Nat) : mI (wP h a k v) = mI h := rfl
theorem mI_wR (h : Hp) (a : Nat) (f : Nat → Int32) (a' k' : Nat) : mI (wR h a f) a' k' = if a' = a then f k' else mI h a' k' := rfl
theorem mJ_wI (h : Hp) (a k : Nat) (v : Int32) : mJ (wI h a k v) = mJ h := rfl
theorem mJ_wR (h : Hp) (a : Nat) (f : Nat → Int32) : mJ (wR h a f) = mJ h := rfl
theorem mJ_wJ (h : Hp) (a k : Nat) (v : Int64) (a' k' : Nat) : mJ (wJ h a k v) a' k' = if a' = a ∧ k' = k then v else mJ h a' k' := rfl
theorem mP_wI (h : Hp) (a k : Nat) (v : Int32) : mP (wI h a k v) = mP h := rfl
theorem mP_wJ (h : Hp) (a k : Nat) (v : Int64) : mP (wJ h a k v) = mP h := rfl
theorem mP_wR (h : Hp) (a : Nat) (f : Nat → Int32) : mP (wR h a f) = mP h := rfl
theorem mP_wP (h : Hp) (a k : Nat) (v : Option Nat) (a' k' : Nat) : mP (wP h a k v) a' k' = if a' = a ∧ k' = k then v else mP h a' k' := rfl
theorem mS_wI (h : Hp) (a k : Nat) (v : Int32) : mS (wI h a k v) = mS h := rfl
theorem mS_wJ (h : Hp) (a k : Nat) (v : Int64) : mS (wJ h a k v) = mS h := rfl
theorem mS_wP (h : Hp) (a k : Nat) (v : Option Nat) : mS (wP h a k v) = mS h := rfl
theorem mS_wR (h : Hp) (a : Nat) (f : Nat → Int32) : mS (wR h a f) = mS h := rfl

def kC : Nat → String
  | 0 => RX0
  | 1 => RX1
  | 2 => RX2
  | 3 => RX3
  | 4 => RX4
  | 5 => RX5
  | 6 => RX6
  | 7 => RX7
  | 8 => RX8
  | 9 => RX9
  | 10 => RX10
  | _ => RX0
def kT : Nat → u_T
  | 0 => TX0
  | 1 => TX1
  | 2 => TX2
  | 3 => TX3
  | 4 => TX4
  | 5 => TX5
  | 6 => TX6
  | 7 => TX7
  | 8 => TX8
  | 9 => TX9
  | 10 => TX10
  | _ => TX0
def kN : Nat → Nat
  | 0 => 5
  | 1 => 7
  | 2 => 6
  | 3 => 10
  | 4 => 3
  | 5 => 7
  | 6 => 15
  | 7 => 1
  | 8 => 2
  | 9 => 13
  | 10 => 66
  | _ => 0
def kTy : Nat → Nat → FieldType
  | 0 => tyX0
  | 1 => tyX1
  | 2 => tyX2
  | 3 => tyX3
  | 4 => tyX4
  | 5 => tyX5
  | 6 => tyX6
  | 7 => tyX7
  | 8 => tyX8
  | 9 => tyX9
  | 10 => tyX10
  | _ => tyX0
theorem k_cl : ∀ kd : Nat, kd < 11 → vwCl[kd]? = some (kC kd, kT kd, kN kd)
  | 0, _ => rfl
  | 1, _ => rfl
  | 2, _ => rfl
  | 3, _ => rfl
  | 4, _ => rfl
  | 5, _ => rfl
  | 6, _ => rfl
  | 7, _ => rfl
  | 8, _ => rfl
  | 9, _ => rfl
  | 10, _ => rfl
  | n + 11, h => absurd h (by omega)
theorem k_ty : ∀ kd : Nat, kd < 11 → ∀ k, k < kN kd → parseFieldDescriptor (kT kd k).2.2.1 = some (kTy kd k)
  | 0, _ => tyX0_ok
  | 1, _ => tyX1_ok
  | 2, _ => tyX2_ok
  | 3, _ => tyX3_ok
  | 4, _ => tyX4_ok
  | 5, _ => tyX5_ok
  | 6, _ => tyX6_ok
  | 7, _ => tyX7_ok
  | 8, _ => tyX8_ok
  | 9, _ => tyX9_ok
  | 10, _ => tyX10_ok
  | n + 11, h => absurd h (by omega)
theorem k_nm : ∀ kd : Nat, kd < 11 → ∀ a, a < kN kd → ∀ b, b < kN kd → a ≠ b → (kT kd a).2.1 ≠ (kT kd b).2.1
  | 0, _ => nmX0
  | 1, _ => nmX1
  | 2, _ => nmX2
  | 3, _ => nmX3
  | 4, _ => nmX4
  | 5, _ => nmX5
  | 6, _ => nmX6
  | 7, _ => nmX7
  | 8, _ => nmX8
  | 9, _ => nmX9
  | 10, _ => nmX10
  | n + 11, h => absurd h (by omega)
theorem k_in0 : ∀ w ∈ u_ws RX0 TX0 5, w ∈ lw_tbl ∧ goodWord w = true := by decide +kernel
theorem k_in1 : ∀ w ∈ u_ws RX1 TX1 7, w ∈ lw_tbl ∧ goodWord w = true := by decide +kernel
theorem k_in2 : ∀ w ∈ u_ws RX2 TX2 6, w ∈ lw_tbl ∧ goodWord w = true := by decide +kernel
theorem k_in3 : ∀ w ∈ u_ws RX3 TX3 10, w ∈ lw_tbl ∧ goodWord w = true := by decide +kernel
theorem k_in4 : ∀ w ∈ u_ws RX4 TX4 3, w ∈ lw_tbl ∧ goodWord w = true := by decide +kernel
theorem k_in5 : ∀ w ∈ u_ws RX5 TX5 7, w ∈ lw_tbl ∧ goodWord w = true := by decide +kernel
theorem k_in6 : ∀ w ∈ u_ws RX6 TX6 15, w ∈ lw_tbl ∧ goodWord w = true := by decide +kernel
theorem k_in7 : ∀ w ∈ u_ws RX7 TX7 1, w ∈ lw_tbl ∧ goodWord w = true := by decide +kernel
theorem k_in8 : ∀ w ∈ u_ws RX8 TX8 2, w ∈ lw_tbl ∧ goodWord w = true := by decide +kernel
theorem k_in9 : ∀ w ∈ u_ws RX9 TX9 13, w ∈ lw_tbl ∧ goodWord w = true := by decide +kernel
theorem k_in10 : ∀ w ∈ u_ws RX10 TX10 66, w ∈ lw_tbl ∧ goodWord w = true := by decide +kernel
theorem k_in : ∀ kd : Nat, kd < 11 → ∀ w ∈ u_ws (kC kd) (kT kd) (kN kd), w ∈ gtbl
  | 0, _ => fun w h => List.mem_filter.mpr (k_in0 w h)
  | 1, _ => fun w h => List.mem_filter.mpr (k_in1 w h)
  | 2, _ => fun w h => List.mem_filter.mpr (k_in2 w h)
  | 3, _ => fun w h => List.mem_filter.mpr (k_in3 w h)
  | 4, _ => fun w h => List.mem_filter.mpr (k_in4 w h)
  | 5, _ => fun w h => List.mem_filter.mpr (k_in5 w h)
  | 6, _ => fun w h => List.mem_filter.mpr (k_in6 w h)
  | 7, _ => fun w h => List.mem_filter.mpr (k_in7 w h)
  | 8, _ => fun w h => List.mem_filter.mpr (k_in8 w h)
  | 9, _ => fun w h => List.mem_filter.mpr (k_in9 w h)
  | 10, _ => fun w h => List.mem_filter.mpr (k_in10 w h)
  | n + 11, h => absurd h (by omega)
/-- what a place of a kind holds: 0 an int, 1 a long, 2 a reference -/
def sty (kd k : Nat) : Nat := if kd < 11 then (match kTy kd k with
  | .long => 1
  | .object _ => 2
  | .array _ => 2
  | _ => 0) else if kd = 23 then 1 else if kd = 24 then 2 else 0
/-- the arrays' kinds: int, byte, boolean, long, int[] -/
def aTy : Nat → FieldType
  | 20 => .int
  | 21 => .byte
  | 22 => .boolean
  | 23 => .long
  | _ => .array .int
/-- what stays: the classes' numbers and slots, the arrays' classes, where our cells begin, the heap at first, the texts' cells -/
abbrev GG : Type := va_G × (Nat → ClassId) × Nat × Heap × (Nat → Nat)
def gD (G : GG) : va_G := G.1
def gC (G : GG) : Nat → ClassId := G.2.1
def gB (G : GG) : Nat := G.2.2.1
def gH (G : GG) : Heap := G.2.2.2.1
def gA (G : GG) : Nat → Nat := G.2.2.2.2
def tv (G : GG) : Value → Value
  | .ref k => .ref (gB G + k)
  | .retAddr k => .ref (gA G k)
  | v => v
def cv (G : GG) (h : Hp) (kd a : Nat) : Nat → Value := fun k => if sty kd k = 0 then .int (mI h a k) else if sty kd k = 1 then .long (mJ h a k) else va_rf ((mP h a k).map (gB G + ·))
def cAt (G : GG) (h : Hp) (a : Nat) (H : Heap) : Prop :=
  if (mS h a).1 < 11 then t_OB (gB G + a) ((gD G).1 (mS h a).1) (kN (mS h a).1) ((gD G).2 (mS h a).1) H (cv G h (mS h a).1 a)
  else if (mS h a).1 < 30 then H[gB G + a]? = some (arrV (gC G (mS h a).1) (mS h a).2 (cv G h (mS h a).1 a)) else True
def HR (G : GG) (h : Hp) (H : Heap) : Prop := H.size = gB G + mN h ∧ (∀ q, q < gB G → H[q]? = (gH G)[q]?) ∧ (∀ a, a < mN h → cAt G h a H) ∧ ∀ a, mN h ≤ a → 30 ≤ (mS h a).1
/-- the words of nest mates -/
def nws : List (String × Nat × MethodName) := [("TinNation", 17, yX2_init), ("TinNation$Parser", 11, yX3_init), ("TinNation$Plan", 31, yX1_init), ("TinNation", 24, yX3_init), ("TinNation", 40, yX6_init), ("TinNation", 53, yX8_init), ("TinNation", 60, yX7_init), ("TinNation$Laws", 41, yX9_isBit), ("TinNation$Days", 146, yX9_isBit), ("TinNation$Told", 47, yX9_isBit)]
def KX (G : GG) (U : State) : Prop := va_K (gD G) vwCl [] U ∧ (∀ kd, 20 ≤ kd → kd < 25 → ArrOfT U (gC G kd) (aTy kd) ∧ U.vm.findClass ("[" ++ (aTy kd).toString) = some (gC G kd)) ∧ ∀ w ∈ nws, va_Nw (.methodLinkNest w.1 w.2.1 w.2.2 "TinNation") U
theorem KX.warm {G : GG} {s U : State} (hW : s.WarmedH U.vm) (h : KX G s) : KX G U := ⟨va_K.moved hW.alike h.1, fun kd h1 h2 => ⟨arrOfT_moved hW.alike (h.2.1 kd h1 h2).1, by rw [hW.alike.findClass]; exact (h.2.1 kd h1 h2).2⟩, fun w hw => va_Nw.warmM hW (h.2.2 w hw)⟩
theorem KX.same {G : GG} {u U : State} (hv : u.vm = U.vm) (h : KX G u) : KX G U := ⟨va_K.moved (by rw [hv]; exact Vm.Alike.refl U.vm) h.1, fun kd h1 h2 => ⟨arrOfT_moved (by rw [hv]; exact Vm.Alike.refl U.vm) (h.2.1 kd h1 h2).1, by rw [← hv]; exact (h.2.1 kd h1 h2).2⟩, fun w hw => va_Nw.same rfl hv (h.2.2 w hw)⟩
/-- the room by depth: cells and slots that may come -/
def rmm (d mc ms : Nat) : Room := { frames := d, cells := mc, slots := ms, locals := 64 * d }
def Qx (G : GG) (r : Option Value) (h' : Hp) : Array Value → State → Outcome → State → Prop := fun _ _ o t => o = .returned (r.map (tv G)) ∧ HR G h' t.heap
def Cx (G : GG) (M : MD) (p : Program) (s : State) (m : MethodId) (args : Array Value) (meth : Method) (c : Code) : Prop :=
  p.tables.exec = Jvm.exec ∧ c.code = M.2.1 ∧ meth.sig.returnType = M.2.2.2.1 ∧ c.maxLocals = M.2.2.1 ∧ (∀ w ∈ wsM M, w.before args s = true) ∧ s.vm.findClass M.1.cls = some m.cls ∧ meth.locks = false ∧ KX G s ∧ MOk M ∧ meth.name = M.1.name
theorem Cx.dec {G : GG} {M : MD} {p : Program} {s : State} {m : MethodId} {args : Array Value} {meth : Method} {c : Code} (C : Cx G M p s m args meth c) {pc npc n : Nat} {i : Instr} (h : lk M pc = some (i, npc, n)) : decode M.2.1 pc = .ok (i, n) ∧ npc = pc + n := by
  obtain ⟨-, -, -, -, -, -, -, -, hM, -⟩ := C
  obtain ⟨-, -, -, -, -, hd⟩ := hM
  exact hd (pc, i, npc, n) (lkL_mem h)
theorem Cx.word {G : GG} {M : MD} {p : Program} {s : State} {m : MethodId} {args : Array Value} {meth : Method} {c : Code} (C : Cx G M p s m args meth c) {w : Cond} (h : w ∈ gtbl) : w.before args s = true := by
  obtain ⟨-, -, -, -, hw, -⟩ := C
  exact hw w (List.mem_cons_of_mem _ h)
/-- the locals: a null is a place of which nothing is said -/
def LR (G : GG) (L : List Value) (ls : Array Slot) (n : Nat) : Prop := ls.size = n ∧ lv_wf ls ∧ ∀ (i : Nat) (v : Value), L[i]? = some v → v ≠ .null → ls[i]? = some (.val (tv G v))
/-- the machine, at this place of this method, comes to the method's end with this answer and this memory -/
def Go (l : Launch) (G : GG) (d mc ms : Nat) (M : MD) (kc ks pc : Nat) (L st : List Value) (h : Hp) (r : Option Value) (h' : Hp) : Prop :=
  ∀ (p : Program) (e : Env) (s : State) (m : MethodId) (args : Array Value) (below : List Frame) (meth : Method) (c : Code) (ls : Array Slot) (H : Heap) (locs : List Loc),
    Cx G M p s m args meth c → LR G L ls M.2.2.1 → HR G h H → (∀ q ∈ locs, gB G ≤ q.base) →
    W p l e (rmm d mc ms) s m args below meth c H locs kc ks (MQ below (Qx G r h') args s mc ms (fun q => gB G ≤ q)) (F0 m pc ls (st.map (tv G)))
/-- a method's contract -/
def Ct (l : Launch) (G : GG) (d mc ms : Nat) (M : MD) (as : List Value) (h : Hp) (r : Option Value) (h' : Hp) : Prop :=
  Met l M.1 (wsM M) (rmm d mc ms) (va_Pc (as.map (tv G)) (fun U => HR G h U.heap ∧ KX G U)) (Qx G r h') mc ms (fun q => gB G ≤ q)

