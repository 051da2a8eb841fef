/-- what stays while nothing is made: references, shapes, how many -/
abbrev Kt : Type := (Nat → Nat → Option Nat) × (Nat → Nat × Nat) × Nat
abbrev IM : Type := Nat → Nat → Int32
abbrev JM : Type := Nat → Nat → Int64
def u2 {α : Type} (I : Nat → Nat → α) (a k : Nat) (v : α) : Nat → Nat → α := fun a' k' => if a' = a ∧ k' = k then v else I a' k'
/-- a whole row -/
def uR {α : Type} (I : Nat → Nat → α) (a : Nat) (f : Nat → α) : Nat → Nat → α := fun a' k' => if a' = a then f k' else I a' k'
theorem u2_at {α : Type} (I : Nat → Nat → α) (a k : Nat) (v : α) : u2 I a k v a k = v := by simp [u2]
theorem u2_ne {α : Type} (I : Nat → Nat → α) {a k a' k' : Nat} (v : α) (h : a' ≠ a) : u2 I a k v a' k' = I a' k' := by simp [u2, h]
theorem u2_nk {α : Type} (I : Nat → Nat → α) {a k a' k' : Nat} (v : α) (h : k' ≠ k) : u2 I a k v a' k' = I a' k' := by simp [u2, h]
theorem u2_row {α : Type} (I : Nat → Nat → α) {a k a' : Nat} (v : α) (h : a' ≠ a) : u2 I a k v a' = I a' := by funext k'; simp [u2, h]
theorem uR_at {α : Type} (I : Nat → Nat → α) (a : Nat) (f : Nat → α) : uR I a f a = f := by funext k; simp [uR]
theorem uR_ne {α : Type} (I : Nat → Nat → α) {a a' : Nat} (f : Nat → α) (h : a' ≠ a) : uR I a f a' = I a' := by funext k; simp [uR, h]
def Gw (l : Launch) (G : GG) (d : Nat) (M : MD) (pc : Nat) (L st : List Value) (h : Hp) (Q : Option Value → Hp → Prop) : Prop := ∃ r h', Go l G d 0 0 M 0 0 pc L st h r h' ∧ Q r h'
def Cw (l : Launch) (G : GG) (d : Nat) (M : MD) (as : List Value) (h : Hp) (Q : Option Value → Hp → Prop) : Prop := ∃ r h', Ct l G d 0 0 M as h r h' ∧ Q r h'
/-- a method that only answers -/
def Cp (l : Launch) (G : GG) (d : Nat) (M : MD) (as : List Value) (h : Hp) (v : Value) : Prop := Ct l G d 0 0 M as h (some v) h
section RowsW
variable {l : Launch} {G : GG} {d pc npc : Nat} {M : MD} {L st : List Value} {h : Hp} {I : IM} {J : JM} {K : Kt} {Q Q1 : Option Value → Hp → Prop} {a k kd n i : Nat}
theorem Cw.of {as : List Value} (hM : MOk M) (hn : Nat.ble (argF as).length M.2.2.1 = true) (hl : argL as M.2.2.1 = L) (hg : Gw l G d M 0 L [] h Q) : Cw l G d M as h Q := by
  obtain ⟨r, h', k, q⟩ := hg
  exact ⟨r, h', Ct.of hM hn hl k, q⟩
theorem Cp.of {as : List Value} {v : Value} (hM : MOk M) (hn : Nat.ble (argF as).length M.2.2.1 = true) (hl : argL as M.2.2.1 = L) (hg : Gw l G d M 0 L [] h (fun r h' => r = some v ∧ h' = h)) : Cp l G d M as h v := by
  obtain ⟨r, h', k, rfl, rfl⟩ := hg
  exact Ct.of hM hn hl k
theorem Cw.mono {as : List Value} (hc : Cw l G d M as h Q1) (hq : ∀ r h', Q1 r h' → Q r h') : Cw l G d M as h Q := by
  obtain ⟨r, h', k, q⟩ := hc
  exact ⟨r, h', k, hq r h' q⟩

theorem e_iconst {n : Int} {v : Int32} (hc : lk M pc = some (.iconst n, npc, 1)) (hv : Int32.ofInt n = v) (kk : Gw l G d M npc L (.int v :: st) h Q) : Gw l G d M pc L st h Q := by
  obtain ⟨r, h', kk, q⟩ := kk
  exact ⟨r, h', go_iconst hc hv kk, q⟩
theorem e_bipush {n : Int} {v : Int32} (hc : lk M pc = some (.bipush n, npc, 2)) (hv : (Int8.ofInt n).toInt32 = v) (kk : Gw l G d M npc L (.int v :: st) h Q) : Gw l G d M pc L st h Q := by
  obtain ⟨r, h', kk, q⟩ := kk
  exact ⟨r, h', go_bipush hc hv kk, q⟩
theorem e_sipush {n : Int} {v : Int32} (hc : lk M pc = some (.sipush n, npc, 3)) (hv : (Int16.ofInt n).toInt32 = v) (kk : Gw l G d M npc L (.int v :: st) h Q) : Gw l G d M pc L st h Q := by
  obtain ⟨r, h', kk, q⟩ := kk
  exact ⟨r, h', go_sipush hc hv kk, q⟩
theorem e_lconst {n : Fin 2} {v : Int64} (hc : lk M pc = some (.lconst n, npc, 1)) (hv : Int64.ofNat (n : Nat) = v) (kk : Gw l G d M npc L (.long v :: st) h Q) : Gw l G d M pc L st h Q := by
  obtain ⟨r, h', kk, q⟩ := kk
  exact ⟨r, h', go_lconst hc hv kk, q⟩
theorem e_iadd {x y : Int32} (hc : lk M pc = some (.iadd, npc, 1)) (kk : Gw l G d M npc L (.int (x + y) :: st) h Q) : Gw l G d M pc L (.int y :: .int x :: st) h Q := by
  obtain ⟨r, h', kk, q⟩ := kk
  exact ⟨r, h', go_iadd hc kk, q⟩
theorem e_isub {x y : Int32} (hc : lk M pc = some (.isub, npc, 1)) (kk : Gw l G d M npc L (.int (x - y) :: st) h Q) : Gw l G d M pc L (.int y :: .int x :: st) h Q := by
  obtain ⟨r, h', kk, q⟩ := kk
  exact ⟨r, h', go_isub hc kk, q⟩
theorem e_imul {x y : Int32} (hc : lk M pc = some (.imul, npc, 1)) (kk : Gw l G d M npc L (.int (x * y) :: st) h Q) : Gw l G d M pc L (.int y :: .int x :: st) h Q := by
  obtain ⟨r, h', kk, q⟩ := kk
  exact ⟨r, h', go_imul hc kk, q⟩
theorem e_iand {x y : Int32} (hc : lk M pc = some (.iand, npc, 1)) (kk : Gw l G d M npc L (.int (x &&& y) :: st) h Q) : Gw l G d M pc L (.int y :: .int x :: st) h Q := by
  obtain ⟨r, h', kk, q⟩ := kk
  exact ⟨r, h', go_iand hc kk, q⟩
theorem e_ior {x y : Int32} (hc : lk M pc = some (.ior, npc, 1)) (kk : Gw l G d M npc L (.int (x ||| y) :: st) h Q) : Gw l G d M pc L (.int y :: .int x :: st) h Q := by
  obtain ⟨r, h', kk, q⟩ := kk
  exact ⟨r, h', go_ior hc kk, q⟩
theorem e_ixor {x y : Int32} (hc : lk M pc = some (.ixor, npc, 1)) (kk : Gw l G d M npc L (.int (x ^^^ y) :: st) h Q) : Gw l G d M pc L (.int y :: .int x :: st) h Q := by
  obtain ⟨r, h', kk, q⟩ := kk
  exact ⟨r, h', go_ixor hc kk, q⟩
theorem e_ishl {x y : Int32} (hc : lk M pc = some (.ishl, npc, 1)) (kk : Gw l G d M npc L (.int (x <<< (y &&& 31)) :: st) h Q) : Gw l G d M pc L (.int y :: .int x :: st) h Q := by
  obtain ⟨r, h', kk, q⟩ := kk
  exact ⟨r, h', go_ishl hc kk, q⟩
theorem e_ishr {x y : Int32} (hc : lk M pc = some (.ishr, npc, 1)) (kk : Gw l G d M npc L (.int (x >>> (y &&& 31)) :: st) h Q) : Gw l G d M pc L (.int y :: .int x :: st) h Q := by
  obtain ⟨r, h', kk, q⟩ := kk
  exact ⟨r, h', go_ishr hc kk, q⟩
theorem e_ladd {x y : Int64} (hc : lk M pc = some (.ladd, npc, 1)) (kk : Gw l G d M npc L (.long (x + y) :: st) h Q) : Gw l G d M pc L (.long y :: .long x :: st) h Q := by
  obtain ⟨r, h', kk, q⟩ := kk
  exact ⟨r, h', go_ladd hc kk, q⟩
theorem e_lsub {x y : Int64} (hc : lk M pc = some (.lsub, npc, 1)) (kk : Gw l G d M npc L (.long (x - y) :: st) h Q) : Gw l G d M pc L (.long y :: .long x :: st) h Q := by
  obtain ⟨r, h', kk, q⟩ := kk
  exact ⟨r, h', go_lsub hc kk, q⟩
theorem e_lmul {x y : Int64} (hc : lk M pc = some (.lmul, npc, 1)) (kk : Gw l G d M npc L (.long (x * y) :: st) h Q) : Gw l G d M pc L (.long y :: .long x :: st) h Q := by
  obtain ⟨r, h', kk, q⟩ := kk
  exact ⟨r, h', go_lmul hc kk, q⟩
theorem e_land {x y : Int64} (hc : lk M pc = some (.land, npc, 1)) (kk : Gw l G d M npc L (.long (x &&& y) :: st) h Q) : Gw l G d M pc L (.long y :: .long x :: st) h Q := by
  obtain ⟨r, h', kk, q⟩ := kk
  exact ⟨r, h', go_land hc kk, q⟩
theorem e_idiv {x y : Int32} (hc : lk M pc = some (.idiv, npc, 1)) (hne : ¬ y = 0) (kk : Gw l G d M npc L (.int (x / y) :: st) h Q) : Gw l G d M pc L (.int y :: .int x :: st) h Q := by
  obtain ⟨r, h', kk, q⟩ := kk
  exact ⟨r, h', go_idiv hc hne kk, q⟩
theorem e_irem {x y : Int32} (hc : lk M pc = some (.irem, npc, 1)) (hne : ¬ y = 0) (kk : Gw l G d M npc L (.int (x - x / y * y) :: st) h Q) : Gw l G d M pc L (.int y :: .int x :: st) h Q := by
  obtain ⟨r, h', kk, q⟩ := kk
  exact ⟨r, h', go_irem hc hne kk, q⟩
theorem e_ldiv {x y : Int64} (hc : lk M pc = some (.ldiv, npc, 1)) (hne : ¬ y = 0) (kk : Gw l G d M npc L (.long (x / y) :: st) h Q) : Gw l G d M pc L (.long y :: .long x :: st) h Q := by
  obtain ⟨r, h', kk, q⟩ := kk
  exact ⟨r, h', go_ldiv hc hne kk, q⟩
theorem e_lrem {x y : Int64} (hc : lk M pc = some (.lrem, npc, 1)) (hne : ¬ y = 0) (kk : Gw l G d M npc L (.long (x - x / y * y) :: st) h Q) : Gw l G d M pc L (.long y :: .long x :: st) h Q := by
  obtain ⟨r, h', kk, q⟩ := kk
  exact ⟨r, h', go_lrem hc hne kk, q⟩
theorem e_ineg {x : Int32} (hc : lk M pc = some (.ineg, npc, 1)) (kk : Gw l G d M npc L (.int (-x) :: st) h Q) : Gw l G d M pc L (.int x :: st) h Q := by
  obtain ⟨r, h', kk, q⟩ := kk
  exact ⟨r, h', go_ineg hc kk, q⟩
theorem e_lneg {x : Int64} (hc : lk M pc = some (.lneg, npc, 1)) (kk : Gw l G d M npc L (.long (-x) :: st) h Q) : Gw l G d M pc L (.long x :: st) h Q := by
  obtain ⟨r, h', kk, q⟩ := kk
  exact ⟨r, h', go_lneg hc kk, q⟩
theorem e_i2l {x : Int32} (hc : lk M pc = some (.i2l, npc, 1)) (kk : Gw l G d M npc L (.long x.toInt64 :: st) h Q) : Gw l G d M pc L (.int x :: st) h Q := by
  obtain ⟨r, h', kk, q⟩ := kk
  exact ⟨r, h', go_i2l hc kk, q⟩
theorem e_l2i {x : Int64} (hc : lk M pc = some (.l2i, npc, 1)) (kk : Gw l G d M npc L (.int x.toInt32 :: st) h Q) : Gw l G d M pc L (.long x :: st) h Q := by
  obtain ⟨r, h', kk, q⟩ := kk
  exact ⟨r, h', go_l2i hc kk, q⟩
theorem e_i2b {x : Int32} (hc : lk M pc = some (.i2b, npc, 1)) (kk : Gw l G d M npc L (.int x.toInt8.toInt32 :: st) h Q) : Gw l G d M pc L (.int x :: st) h Q := by
  obtain ⟨r, h', kk, q⟩ := kk
  exact ⟨r, h', go_i2b hc kk, q⟩
theorem e_i2c {x : Int32} (hc : lk M pc = some (.i2c, npc, 1)) (kk : Gw l G d M npc L (.int (x.toUInt32 % 65536).toInt32 :: st) h Q) : Gw l G d M pc L (.int x :: st) h Q := by
  obtain ⟨r, h', kk, q⟩ := kk
  exact ⟨r, h', go_i2c hc kk, q⟩
theorem e_iushr {x y : Int32} (hc : lk M pc = some (.iushr, npc, 1)) (kk : Gw l G d M npc L (.int (x.toUInt32 >>> (y.toUInt32 &&& Int32.toUInt32 31)).toInt32 :: st) h Q) : Gw l G d M pc L (.int y :: .int x :: st) h Q := by
  obtain ⟨r, h', kk, q⟩ := kk
  exact ⟨r, h', go_iushr hc kk, q⟩
theorem e_lcmp {x y : Int64} (hc : lk M pc = some (.lcmp, npc, 1)) (kk : Gw l G d M npc L (.int (lg_cmp x y) :: st) h Q) : Gw l G d M pc L (.long y :: .long x :: st) h Q := by
  obtain ⟨r, h', kk, q⟩ := kk
  exact ⟨r, h', go_lcmp hc kk, q⟩
theorem e_dup {v : Value} (hc : lk M pc = some (.dup, npc, 1)) (hv : v.category = 1) (kk : Gw l G d M npc L (v :: v :: st) h Q) : Gw l G d M pc L (v :: st) h Q := by
  obtain ⟨r, h', kk, q⟩ := kk
  exact ⟨r, h', go_dup hc hv kk, q⟩
theorem e_dup2 {v w : Value} (hc : lk M pc = some (.dup2, npc, 1)) (hv : v.category = 1) (hw : w.category = 1) (kk : Gw l G d M npc L (v :: w :: v :: w :: st) h Q) : Gw l G d M pc L (v :: w :: st) h Q := by
  obtain ⟨r, h', kk, q⟩ := kk
  exact ⟨r, h', go_dup2 hc hv hw kk, q⟩
theorem e_iload {i : Nat} {x : Int32} (hc : lk M pc = some (.iload i, npc, 2)) (hl : L[i]? = some (.int x)) (kk : Gw l G d M npc L (.int x :: st) h Q) : Gw l G d M pc L st h Q := by
  obtain ⟨r, h', kk, q⟩ := kk
  exact ⟨r, h', go_iload hc hl kk, q⟩
theorem e_iload_n {i : Fin 4} {x : Int32} (hc : lk M pc = some (.iload_n i, npc, 1)) (hl : L[(i : Nat)]? = some (.int x)) (kk : Gw l G d M npc L (.int x :: st) h Q) : Gw l G d M pc L st h Q := by
  obtain ⟨r, h', kk, q⟩ := kk
  exact ⟨r, h', go_iload_n hc hl kk, q⟩
theorem e_lload {i : Nat} {x : Int64} (hc : lk M pc = some (.lload i, npc, 2)) (hl : L[i]? = some (.long x)) (kk : Gw l G d M npc L (.long x :: st) h Q) : Gw l G d M pc L st h Q := by
  obtain ⟨r, h', kk, q⟩ := kk
  exact ⟨r, h', go_lload hc hl kk, q⟩
theorem e_lload_n {i : Fin 4} {x : Int64} (hc : lk M pc = some (.lload_n i, npc, 1)) (hl : L[(i : Nat)]? = some (.long x)) (kk : Gw l G d M npc L (.long x :: st) h Q) : Gw l G d M pc L st h Q := by
  obtain ⟨r, h', kk, q⟩ := kk
  exact ⟨r, h', go_lload_n hc hl kk, q⟩
theorem e_aload {i : Nat} {x : Nat} (hc : lk M pc = some (.aload i, npc, 2)) (hl : L[i]? = some (.ref x)) (kk : Gw l G d M npc L (.ref x :: st) h Q) : Gw l G d M pc L st h Q := by
  obtain ⟨r, h', kk, q⟩ := kk
  exact ⟨r, h', go_aload hc hl kk, q⟩
theorem e_aload_n {i : Fin 4} {x : Nat} (hc : lk M pc = some (.aload_n i, npc, 1)) (hl : L[(i : Nat)]? = some (.ref x)) (kk : Gw l G d M npc L (.ref x :: st) h Q) : Gw l G d M pc L st h Q := by
  obtain ⟨r, h', kk, q⟩ := kk
  exact ⟨r, h', go_aload_n hc hl kk, q⟩
theorem e_goto {off : Int} {tgt : Nat} (hc : lk M pc = some (.goto off, npc, 3)) (ht : (pc : Int) + off = (tgt : Int)) (kk : Gw l G d M tgt L st h Q) : Gw l G d M pc L st h Q := by
  obtain ⟨r, h', kk, q⟩ := kk
  exact ⟨r, h', go_goto hc ht kk, q⟩
theorem e_tableOut {dflt lo hi : Int} {offs : Array Int} {len : Nat} {x : Int32} {tgt : Nat} (hc : lk M pc = some (.tableswitch dflt lo hi offs, npc, len)) (hh : x.toInt < lo ∨ hi < x.toInt) (ht : (pc : Int) + dflt = (tgt : Int)) (kk : Gw l G d M tgt L st h Q) : Gw l G d M pc L (.int x :: st) h Q := by
  obtain ⟨r, h', kk, q⟩ := kk
  exact ⟨r, h', go_tableOut hc hh ht kk, q⟩
theorem e_tableIn {dflt lo hi : Int} {offs : Array Int} {len : Nat} {x : Int32} {off : Int} {tgt : Nat} (hc : lk M pc = some (.tableswitch dflt lo hi offs, npc, len)) (h1 : ¬ x.toInt < lo) (h2 : ¬ hi < x.toInt) (ho : offs[(x.toInt - lo).toNat]? = some off) (ht : (pc : Int) + off = (tgt : Int)) (kk : Gw l G d M tgt L st h Q) : Gw l G d M pc L (.int x :: st) h Q := by
  obtain ⟨r, h', kk, q⟩ := kk
  exact ⟨r, h', go_tableIn hc h1 h2 ho ht kk, q⟩
theorem e_lookup {dflt : Int} {ps : Array (Int × Int)} {len : Nat} {x : Int32} {off : Int} {tgt : Nat} (hc : lk M pc = some (.lookupswitch dflt ps, npc, len)) (hp : (ps.toList.zip (ps.toList.drop 1)).all (fun (a, next) => a.1 < next.1) = true) (ho : Op.lookupswitch.offset ps.toList dflt x.toInt = off) (ht : (pc : Int) + off = (tgt : Int)) (kk : Gw l G d M tgt L st h Q) : Gw l G d M pc L (.int x :: st) h Q := by
  obtain ⟨r, h', kk, q⟩ := kk
  exact ⟨r, h', go_lookup hc hp ho ht kk, q⟩
theorem e_istore {i : Nat} {x : Int32} {L' : List Value} (hc : lk M pc = some (.istore i, npc, 2)) (hi : Nat.blt i M.2.2.1 = true) (ho : okL L i = true) (hl : L.set i (.int x) = L') (kk : Gw l G d M npc L' st h Q) : Gw l G d M pc L (.int x :: st) h Q := by
  obtain ⟨r, h', kk, q⟩ := kk
  exact ⟨r, h', go_istore hc hi ho hl kk, q⟩
theorem e_istore_n {i : Fin 4} {x : Int32} {L' : List Value} (hc : lk M pc = some (.istore_n i, npc, 1)) (hi : Nat.blt (i : Nat) M.2.2.1 = true) (ho : okL L (i : Nat) = true) (hl : L.set (i : Nat) (.int x) = L') (kk : Gw l G d M npc L' st h Q) : Gw l G d M pc L (.int x :: st) h Q := by
  obtain ⟨r, h', kk, q⟩ := kk
  exact ⟨r, h', go_istore_n hc hi ho hl kk, q⟩
theorem e_astore {i : Nat} {x : Nat} {L' : List Value} (hc : lk M pc = some (.astore i, npc, 2)) (hi : Nat.blt i M.2.2.1 = true) (ho : okL L i = true) (hl : L.set i (.ref x) = L') (kk : Gw l G d M npc L' st h Q) : Gw l G d M pc L (.ref x :: st) h Q := by
  obtain ⟨r, h', kk, q⟩ := kk
  exact ⟨r, h', go_astore hc hi ho hl kk, q⟩
theorem e_astore_n {i : Fin 4} {x : Nat} {L' : List Value} (hc : lk M pc = some (.astore_n i, npc, 1)) (hi : Nat.blt (i : Nat) M.2.2.1 = true) (ho : okL L (i : Nat) = true) (hl : L.set (i : Nat) (.ref x) = L') (kk : Gw l G d M npc L' st h Q) : Gw l G d M pc L (.ref x :: st) h Q := by
  obtain ⟨r, h', kk, q⟩ := kk
  exact ⟨r, h', go_astore_n hc hi ho hl kk, q⟩
theorem e_lstore {i : Nat} {x : Int64} {L' : List Value} (hc : lk M pc = some (.lstore i, npc, 2)) (hi : Nat.blt (i + 1) M.2.2.1 = true) (ho : okL L i = true) (hl : (L.set i (.long x)).set (i + 1) .null = L') (kk : Gw l G d M npc L' st h Q) : Gw l G d M pc L (.long x :: st) h Q := by
  obtain ⟨r, h', kk, q⟩ := kk
  exact ⟨r, h', go_lstore hc hi ho hl kk, q⟩
theorem e_lstore_n {i : Fin 4} {x : Int64} {L' : List Value} (hc : lk M pc = some (.lstore_n i, npc, 1)) (hi : Nat.blt ((i : Nat) + 1) M.2.2.1 = true) (ho : okL L (i : Nat) = true) (hl : (L.set (i : Nat) (.long x)).set ((i : Nat) + 1) .null = L') (kk : Gw l G d M npc L' st h Q) : Gw l G d M pc L (.long x :: st) h Q := by
  obtain ⟨r, h', kk, q⟩ := kk
  exact ⟨r, h', go_lstore_n hc hi ho hl kk, q⟩
theorem e_iinc {i : Nat} {n : Int} {x : Int32} {L' : List Value} (hc : lk M pc = some (.iinc i n, npc, 3)) (hg : L[i]? = some (.int x)) (hi : Nat.blt i M.2.2.1 = true) (ho : okL L i = true) (hl : L.set i (.int (x + Int32.ofInt n)) = L') (kk : Gw l G d M npc L' st h Q) : Gw l G d M pc L st h Q := by
  obtain ⟨r, h', kk, q⟩ := kk
  exact ⟨r, h', go_iinc hc hg hi ho hl kk, q⟩
theorem e_ldc {v : Int32} (hc : lk M pc = some (.ldc i, npc, 2)) (hk : Cond.constant M.1.cls i v ∈ gtbl) (kk : Gw l G d M npc L (.int v :: st) h Q) : Gw l G d M pc L st h Q := by
  obtain ⟨r, h', kk, q⟩ := kk
  exact ⟨r, h', go_ldc hc hk kk, q⟩
theorem e_ldcw {v : Int32} (hc : lk M pc = some (.ldc_w i, npc, 3)) (hk : Cond.constant M.1.cls i v ∈ gtbl) (kk : Gw l G d M npc L (.int v :: st) h Q) : Gw l G d M pc L st h Q := by
  obtain ⟨r, h', kk, q⟩ := kk
  exact ⟨r, h', go_ldcw hc hk kk, q⟩
theorem e_ldc2 {v : Int64} (hc : lk M pc = some (.ldc2_w i, npc, 3)) (hk : Cond.constantLong M.1.cls i v ∈ gtbl) (kk : Gw l G d M npc L (.long v :: st) h Q) : Gw l G d M pc L st h Q := by
  obtain ⟨r, h', kk, q⟩ := kk
  exact ⟨r, h', go_ldc2 hc hk kk, q⟩
theorem e_min {x y : Int32} (hc : lk M pc = some (.invokestatic i, npc, 3)) (hl : Cond.methodLink M.1.cls i Lib.Math.min.name ∈ gtbl) (hst : Nat.ble (st.map fun v => v.category).sum 8 = true)  (kk : Gw l G (d + 1) M npc L (.int (if y < x then y else x) :: st) h Q) : Gw l G (d + 1) M pc L (.int y :: .int x :: st) h Q := by
  obtain ⟨r, h', kk, q⟩ := kk
  exact ⟨r, h', go_min hc hl hst (Nat.le_refl _) (Nat.le_refl _) kk, q⟩
theorem e_max {x y : Int32} (hc : lk M pc = some (.invokestatic i, npc, 3)) (hl : Cond.methodLink M.1.cls i Lib.Math.max.name ∈ gtbl) (hst : Nat.ble (st.map fun v => v.category).sum 8 = true)  (kk : Gw l G (d + 1) M npc L (.int (if x < y then y else x) :: st) h Q) : Gw l G (d + 1) M pc L (.int y :: .int x :: st) h Q := by
  obtain ⟨r, h', kk, q⟩ := kk
  exact ⟨r, h', go_max hc hl hst (Nat.le_refl _) (Nat.le_refl _) kk, q⟩
theorem e_minl {x y : Int64} (hc : lk M pc = some (.invokestatic i, npc, 3)) (hl : Cond.methodLink M.1.cls i Lib.MathLoose.min_long.x ∈ gtbl) (hst : Nat.ble (st.map fun v => v.category).sum 8 = true)  (kk : Gw l G (d + 1) M npc L (.long (if y < x then y else x) :: st) h Q) : Gw l G (d + 1) M pc L (.long y :: .long x :: st) h Q := by
  obtain ⟨r, h', kk, q⟩ := kk
  exact ⟨r, h', go_minl hc hl hst (Nat.le_refl _) (Nat.le_refl _) kk, q⟩
theorem e_maxl {x y : Int64} (hc : lk M pc = some (.invokestatic i, npc, 3)) (hl : Cond.methodLink M.1.cls i Lib.MathLoose.max_long.x ∈ gtbl) (hst : Nat.ble (st.map fun v => v.category).sum 8 = true)  (kk : Gw l G (d + 1) M npc L (.long (if y < x then x else y) :: st) h Q) : Gw l G (d + 1) M pc L (.long y :: .long x :: st) h Q := by
  obtain ⟨r, h', kk, q⟩ := kk
  exact ⟨r, h', go_maxl hc hl hst (Nat.le_refl _) (Nat.le_refl _) kk, q⟩
theorem e_absl {x : Int64} (hc : lk M pc = some (.invokestatic i, npc, 3)) (hl : Cond.methodLink M.1.cls i Lib.MathLoose.abs_long.x ∈ gtbl) (hst : Nat.ble (st.map fun v => v.category).sum 8 = true)  (kk : Gw l G (d + 1) M npc L (.long (if 0 < x then x else -x) :: st) h Q) : Gw l G (d + 1) M pc L (.long x :: st) h Q := by
  obtain ⟨r, h', kk, q⟩ := kk
  exact ⟨r, h', go_absl hc hl hst (Nat.le_refl _) (Nat.le_refl _) kk, q⟩
theorem e_objInit {b : Nat} (hc : lk M pc = some (.invokespecial i, npc, 3)) (hl : Cond.methodLink M.1.cls i objectInit ∈ gtbl) (hst : Nat.ble (st.map fun v => v.category).sum 8 = true) (kk : Gw l G (d + 1) M npc L st h Q) : Gw l G (d + 1) M pc L (.ref b :: st) h Q := by
  obtain ⟨r, h', kk, q⟩ := kk
  exact ⟨r, h', go_objInit hc hl hst kk, q⟩
theorem e_if_eq {x : Int32} {off : Int} {tgt : Nat} (hc : lk M pc = some (.ifCond .eq off, npc, 3)) (ht : (pc : Int) + off = (tgt : Int)) (kt : x = 0 → Gw l G d M tgt L st h Q) (kf : ¬ x = 0 → Gw l G d M npc L st h Q) : Gw l G d M pc L (.int x :: st) h Q := by
  by_cases z : x = 0
  · obtain ⟨r, h', kk, q⟩ := kt z
    exact ⟨r, h', go_if_eq hc ht (fun _ => kk) (fun y => absurd z y), q⟩
  · obtain ⟨r, h', kk, q⟩ := kf z
    exact ⟨r, h', go_if_eq hc ht (fun y => absurd y z) (fun _ => kk), q⟩
theorem e_if_ne {x : Int32} {off : Int} {tgt : Nat} (hc : lk M pc = some (.ifCond .ne off, npc, 3)) (ht : (pc : Int) + off = (tgt : Int)) (kt : ¬ x = 0 → Gw l G d M tgt L st h Q) (kf : x = 0 → Gw l G d M npc L st h Q) : Gw l G d M pc L (.int x :: st) h Q := by
  by_cases z : x = 0
  · obtain ⟨r, h', kk, q⟩ := kf z
    exact ⟨r, h', go_if_ne hc ht (fun y => absurd z y) (fun _ => kk), q⟩
  · obtain ⟨r, h', kk, q⟩ := kt z
    exact ⟨r, h', go_if_ne hc ht (fun _ => kk) (fun y => absurd y z), q⟩
theorem e_if_lt {x : Int32} {off : Int} {tgt : Nat} (hc : lk M pc = some (.ifCond .lt off, npc, 3)) (ht : (pc : Int) + off = (tgt : Int)) (kt : x < 0 → Gw l G d M tgt L st h Q) (kf : ¬ x < 0 → Gw l G d M npc L st h Q) : Gw l G d M pc L (.int x :: st) h Q := by
  by_cases z : x < 0
  · obtain ⟨r, h', kk, q⟩ := kt z
    exact ⟨r, h', go_if_lt hc ht (fun _ => kk) (fun y => absurd z y), q⟩
  · obtain ⟨r, h', kk, q⟩ := kf z
    exact ⟨r, h', go_if_lt hc ht (fun y => absurd y z) (fun _ => kk), q⟩
theorem e_if_ge {x : Int32} {off : Int} {tgt : Nat} (hc : lk M pc = some (.ifCond .ge off, npc, 3)) (ht : (pc : Int) + off = (tgt : Int)) (kt : 0 ≤ x → Gw l G d M tgt L st h Q) (kf : ¬ 0 ≤ x → Gw l G d M npc L st h Q) : Gw l G d M pc L (.int x :: st) h Q := by
  by_cases z : 0 ≤ x
  · obtain ⟨r, h', kk, q⟩ := kt z
    exact ⟨r, h', go_if_ge hc ht (fun _ => kk) (fun y => absurd z y), q⟩
  · obtain ⟨r, h', kk, q⟩ := kf z
    exact ⟨r, h', go_if_ge hc ht (fun y => absurd y z) (fun _ => kk), q⟩
theorem e_if_gt {x : Int32} {off : Int} {tgt : Nat} (hc : lk M pc = some (.ifCond .gt off, npc, 3)) (ht : (pc : Int) + off = (tgt : Int)) (kt : 0 < x → Gw l G d M tgt L st h Q) (kf : ¬ 0 < x → Gw l G d M npc L st h Q) : Gw l G d M pc L (.int x :: st) h Q := by
  by_cases z : 0 < x
  · obtain ⟨r, h', kk, q⟩ := kt z
    exact ⟨r, h', go_if_gt hc ht (fun _ => kk) (fun y => absurd z y), q⟩
  · obtain ⟨r, h', kk, q⟩ := kf z
    exact ⟨r, h', go_if_gt hc ht (fun y => absurd y z) (fun _ => kk), q⟩
theorem e_if_le {x : Int32} {off : Int} {tgt : Nat} (hc : lk M pc = some (.ifCond .le off, npc, 3)) (ht : (pc : Int) + off = (tgt : Int)) (kt : x ≤ 0 → Gw l G d M tgt L st h Q) (kf : ¬ x ≤ 0 → Gw l G d M npc L st h Q) : Gw l G d M pc L (.int x :: st) h Q := by
  by_cases z : x ≤ 0
  · obtain ⟨r, h', kk, q⟩ := kt z
    exact ⟨r, h', go_if_le hc ht (fun _ => kk) (fun y => absurd z y), q⟩
  · obtain ⟨r, h', kk, q⟩ := kf z
    exact ⟨r, h', go_if_le hc ht (fun y => absurd y z) (fun _ => kk), q⟩
theorem e_icmp_eq {x y : Int32} {off : Int} {tgt : Nat} (hc : lk M pc = some (.if_icmp .eq off, npc, 3)) (ht : (pc : Int) + off = (tgt : Int)) (kt : x = y → Gw l G d M tgt L st h Q) (kf : ¬ x = y → Gw l G d M npc L st h Q) : Gw l G d M pc L (.int y :: .int x :: st) h Q := by
  by_cases z : x = y
  · obtain ⟨r, h', kk, q⟩ := kt z
    exact ⟨r, h', go_icmp_eq hc ht (fun _ => kk) (fun y => absurd z y), q⟩
  · obtain ⟨r, h', kk, q⟩ := kf z
    exact ⟨r, h', go_icmp_eq hc ht (fun y => absurd y z) (fun _ => kk), q⟩
theorem e_icmp_ne {x y : Int32} {off : Int} {tgt : Nat} (hc : lk M pc = some (.if_icmp .ne off, npc, 3)) (ht : (pc : Int) + off = (tgt : Int)) (kt : ¬ x = y → Gw l G d M tgt L st h Q) (kf : x = y → Gw l G d M npc L st h Q) : Gw l G d M pc L (.int y :: .int x :: st) h Q := by
  by_cases z : x = y
  · obtain ⟨r, h', kk, q⟩ := kf z
    exact ⟨r, h', go_icmp_ne hc ht (fun y => absurd z y) (fun _ => kk), q⟩
  · obtain ⟨r, h', kk, q⟩ := kt z
    exact ⟨r, h', go_icmp_ne hc ht (fun _ => kk) (fun y => absurd y z), q⟩
theorem e_icmp_lt {x y : Int32} {off : Int} {tgt : Nat} (hc : lk M pc = some (.if_icmp .lt off, npc, 3)) (ht : (pc : Int) + off = (tgt : Int)) (kt : x < y → Gw l G d M tgt L st h Q) (kf : ¬ x < y → Gw l G d M npc L st h Q) : Gw l G d M pc L (.int y :: .int x :: st) h Q := by
  by_cases z : x < y
  · obtain ⟨r, h', kk, q⟩ := kt z
    exact ⟨r, h', go_icmp_lt hc ht (fun _ => kk) (fun y => absurd z y), q⟩
  · obtain ⟨r, h', kk, q⟩ := kf z
    exact ⟨r, h', go_icmp_lt hc ht (fun y => absurd y z) (fun _ => kk), q⟩
theorem e_icmp_ge {x y : Int32} {off : Int} {tgt : Nat} (hc : lk M pc = some (.if_icmp .ge off, npc, 3)) (ht : (pc : Int) + off = (tgt : Int)) (kt : y ≤ x → Gw l G d M tgt L st h Q) (kf : ¬ y ≤ x → Gw l G d M npc L st h Q) : Gw l G d M pc L (.int y :: .int x :: st) h Q := by
  by_cases z : y ≤ x
  · obtain ⟨r, h', kk, q⟩ := kt z
    exact ⟨r, h', go_icmp_ge hc ht (fun _ => kk) (fun y => absurd z y), q⟩
  · obtain ⟨r, h', kk, q⟩ := kf z
    exact ⟨r, h', go_icmp_ge hc ht (fun y => absurd y z) (fun _ => kk), q⟩
theorem e_icmp_gt {x y : Int32} {off : Int} {tgt : Nat} (hc : lk M pc = some (.if_icmp .gt off, npc, 3)) (ht : (pc : Int) + off = (tgt : Int)) (kt : y < x → Gw l G d M tgt L st h Q) (kf : ¬ y < x → Gw l G d M npc L st h Q) : Gw l G d M pc L (.int y :: .int x :: st) h Q := by
  by_cases z : y < x
  · obtain ⟨r, h', kk, q⟩ := kt z
    exact ⟨r, h', go_icmp_gt hc ht (fun _ => kk) (fun y => absurd z y), q⟩
  · obtain ⟨r, h', kk, q⟩ := kf z
    exact ⟨r, h', go_icmp_gt hc ht (fun y => absurd y z) (fun _ => kk), q⟩
theorem e_icmp_le {x y : Int32} {off : Int} {tgt : Nat} (hc : lk M pc = some (.if_icmp .le off, npc, 3)) (ht : (pc : Int) + off = (tgt : Int)) (kt : x ≤ y → Gw l G d M tgt L st h Q) (kf : ¬ x ≤ y → Gw l G d M npc L st h Q) : Gw l G d M pc L (.int y :: .int x :: st) h Q := by
  by_cases z : x ≤ y
  · obtain ⟨r, h', kk, q⟩ := kt z
    exact ⟨r, h', go_icmp_le hc ht (fun _ => kk) (fun y => absurd z y), q⟩
  · obtain ⟨r, h', kk, q⟩ := kf z
    exact ⟨r, h', go_icmp_le hc ht (fun y => absurd y z) (fun _ => kk), q⟩
theorem e_getI (hc : lk M pc = some (.getfield i, npc, 3)) (hf : Fl M.1.cls i kd k) (hs : (K.2.1 a).1 = kd) (ht : sty kd k = 0) (kk : Gw l G d M npc L (.int (I a k) :: st) (I, J, K) Q) : Gw l G d M pc L (.ref a :: st) (I, J, K) Q := by
  obtain ⟨r, h', kk, q⟩ := kk
  exact ⟨r, h', go_getI hc hf hs ht kk, q⟩
theorem e_getJ (hc : lk M pc = some (.getfield i, npc, 3)) (hf : Fl M.1.cls i kd k) (hs : (K.2.1 a).1 = kd) (ht : sty kd k = 1) (kk : Gw l G d M npc L (.long (J a k) :: st) (I, J, K) Q) : Gw l G d M pc L (.ref a :: st) (I, J, K) Q := by
  obtain ⟨r, h', kk, q⟩ := kk
  exact ⟨r, h', go_getJ hc hf hs ht kk, q⟩
theorem e_getP {b : Nat} (hc : lk M pc = some (.getfield i, npc, 3)) (hf : Fl M.1.cls i kd k) (hs : (K.2.1 a).1 = kd) (ht : sty kd k = 2) (hp : K.1 a k = some b) (kk : Gw l G d M npc L (.ref b :: st) (I, J, K) Q) : Gw l G d M pc L (.ref a :: st) (I, J, K) Q := by
  obtain ⟨r, h', kk, q⟩ := kk
  exact ⟨r, h', go_getP hc hf hs ht hp kk, q⟩
theorem e_putI {v : Int32} (hc : lk M pc = some (.putfield i, npc, 3)) (hf : Fl M.1.cls i kd k) (hs : (K.2.1 a).1 = kd) (hfin : (kT kd k).2.2.2 = false) (ht : kTy kd k = .int) (kk : Gw l G d M npc L st (u2 I a k v, J, K) Q) : Gw l G d M pc L (.int v :: .ref a :: st) (I, J, K) Q := by
  obtain ⟨r, h', kk, q⟩ := kk
  exact ⟨r, h', go_putI hc hf hs hfin ht kk, q⟩
theorem e_putZ {v : Int32} (hc : lk M pc = some (.putfield i, npc, 3)) (hf : Fl M.1.cls i kd k) (hs : (K.2.1 a).1 = kd) (hfin : (kT kd k).2.2.2 = false) (ht : kTy kd k = .boolean) (hv : v = 0 ∨ v = 1) (kk : Gw l G d M npc L st (u2 I a k v, J, K) Q) : Gw l G d M pc L (.int v :: .ref a :: st) (I, J, K) Q := by
  obtain ⟨r, h', kk, q⟩ := kk
  exact ⟨r, h', go_putZ hc hf hs hfin ht hv kk, q⟩
theorem e_putJ {v : Int64} (hc : lk M pc = some (.putfield i, npc, 3)) (hf : Fl M.1.cls i kd k) (hs : (K.2.1 a).1 = kd) (hfin : (kT kd k).2.2.2 = false) (ht : kTy kd k = .long) (kk : Gw l G d M npc L st (I, u2 J a k v, K) Q) : Gw l G d M pc L (.long v :: .ref a :: st) (I, J, K) Q := by
  obtain ⟨r, h', kk, q⟩ := kk
  exact ⟨r, h', go_putJ hc hf hs hfin ht kk, q⟩
theorem e_iaload {x : Int32} (hc : lk M pc = some (.iaload, npc, 1)) (hs : K.2.1 a = (20, n)) (hin : vp_in x n) (kk : Gw l G d M npc L (.int (I a x.toNatClampNeg) :: st) (I, J, K) Q) : Gw l G d M pc L (.int x :: .ref a :: st) (I, J, K) Q := by
  obtain ⟨r, h', kk, q⟩ := kk
  exact ⟨r, h', go_iaload hc hs hin kk, q⟩
theorem e_baload {x : Int32} (hc : lk M pc = some (.baload, npc, 1)) (hs : K.2.1 a = (21, n)) (hin : vp_in x n) (kk : Gw l G d M npc L (.int (I a x.toNatClampNeg) :: st) (I, J, K) Q) : Gw l G d M pc L (.int x :: .ref a :: st) (I, J, K) Q := by
  obtain ⟨r, h', kk, q⟩ := kk
  exact ⟨r, h', go_baload hc hs hin kk, q⟩
theorem e_zaload {x : Int32} (hc : lk M pc = some (.baload, npc, 1)) (hs : K.2.1 a = (22, n)) (hin : vp_in x n) (kk : Gw l G d M npc L (.int (I a x.toNatClampNeg) :: st) (I, J, K) Q) : Gw l G d M pc L (.int x :: .ref a :: st) (I, J, K) Q := by
  obtain ⟨r, h', kk, q⟩ := kk
  exact ⟨r, h', go_zaload hc hs hin kk, q⟩
theorem e_laload {x : Int32} (hc : lk M pc = some (.laload, npc, 1)) (hs : K.2.1 a = (23, n)) (hin : vp_in x n) (kk : Gw l G d M npc L (.long (J a x.toNatClampNeg) :: st) (I, J, K) Q) : Gw l G d M pc L (.int x :: .ref a :: st) (I, J, K) Q := by
  obtain ⟨r, h', kk, q⟩ := kk
  exact ⟨r, h', go_laload hc hs hin kk, q⟩
theorem e_aaload {x : Int32} {b : Nat} (hc : lk M pc = some (.aaload, npc, 1)) (hs : K.2.1 a = (24, n)) (hin : vp_in x n) (hp : K.1 a x.toNatClampNeg = some b) (kk : Gw l G d M npc L (.ref b :: st) (I, J, K) Q) : Gw l G d M pc L (.int x :: .ref a :: st) (I, J, K) Q := by
  obtain ⟨r, h', kk, q⟩ := kk
  exact ⟨r, h', go_aaload hc hs hin hp kk, q⟩
theorem e_alen {v : Int32} (hc : lk M pc = some (.arraylength, npc, 1)) (hs : K.2.1 a = (kd, n)) (h20 : Nat.ble 20 kd = true) (h25 : Nat.blt kd 25 = true) (hv : Int32.ofNat n = v) (kk : Gw l G d M npc L (.int v :: st) (I, J, K) Q) : Gw l G d M pc L (.ref a :: st) (I, J, K) Q := by
  obtain ⟨r, h', kk, q⟩ := kk
  exact ⟨r, h', go_alen hc hs (Nat.ble_eq.mp h20) (Nat.blt_eq.mp h25) hv kk, q⟩
theorem e_iastore {x y : Int32} (hc : lk M pc = some (.iastore, npc, 1)) (hs : K.2.1 a = (20, n)) (hin : vp_in x n) (kk : Gw l G d M npc L st (u2 I a x.toNatClampNeg y, J, K) Q) : Gw l G d M pc L (.int y :: .int x :: .ref a :: st) (I, J, K) Q := by
  obtain ⟨r, h', kk, q⟩ := kk
  exact ⟨r, h', go_iastore hc hs hin kk, q⟩
theorem e_lastore {x : Int32} {y : Int64} (hc : lk M pc = some (.lastore, npc, 1)) (hs : K.2.1 a = (23, n)) (hin : vp_in x n) (kk : Gw l G d M npc L st (I, u2 J a x.toNatClampNeg y, K) Q) : Gw l G d M pc L (.long y :: .int x :: .ref a :: st) (I, J, K) Q := by
  obtain ⟨r, h', kk, q⟩ := kk
  exact ⟨r, h', go_lastore hc hs hin kk, q⟩
theorem e_bastore {x y : Int32} (hc : lk M pc = some (.bastore, npc, 1)) (hs : K.2.1 a = (21, n)) (hin : vp_in x n) (kk : Gw l G d M npc L st (u2 I a x.toNatClampNeg (vp_nar .byte y), J, K) Q) : Gw l G d M pc L (.int y :: .int x :: .ref a :: st) (I, J, K) Q := by
  obtain ⟨r, h', kk, q⟩ := kk
  exact ⟨r, h', go_bastore hc hs hin kk, q⟩
theorem e_zastore {x y : Int32} (hc : lk M pc = some (.bastore, npc, 1)) (hs : K.2.1 a = (22, n)) (hin : vp_in x n) (kk : Gw l G d M npc L st (u2 I a x.toNatClampNeg (vp_nar .boolean y), J, K) Q) : Gw l G d M pc L (.int y :: .int x :: .ref a :: st) (I, J, K) Q := by
  obtain ⟨r, h', kk, q⟩ := kk
  exact ⟨r, h', go_zastore hc hs hin kk, q⟩
theorem e_copy {a0 n0 n1 : Nat} {sp dp n : Int32} (hc : lk M pc = some (.invokestatic i, npc, 3)) (hl : Cond.methodLink M.1.cls i arraycopyName ∈ gtbl) (hs0 : K.2.1 a0 = (20, n0)) (hs1 : K.2.1 a = (20, n1)) (h1 : ¬ sp < 0) (h2 : ¬ dp < 0) (h3 : ¬ n < 0) (h4 : sp.toNatClampNeg + n.toNatClampNeg ≤ n0) (h5 : dp.toNatClampNeg + n.toNatClampNeg ≤ n1) (hst : Nat.ble (st.map fun v => v.category).sum 8 = true) (kk : Gw l G (d + 1) M npc L st (uR I a (va_cpy (I a0) (I a) sp.toNatClampNeg dp.toNatClampNeg n.toNatClampNeg), J, K) Q) : Gw l G (d + 1) M pc L (.int n :: .int dp :: .ref a :: .int sp :: .ref a0 :: st) (I, J, K) Q := by
  obtain ⟨r, h', kk, q⟩ := kk
  exact ⟨r, h', go_copy hc hl hs0 hs1 h1 h2 h3 h4 h5 hst kk, q⟩
theorem e_ireturn {v : Int32} (hc : lk M pc = some (.ireturn, npc, 1)) (hr : M.2.2.2.1 = some .int) (q : Q (some (.int v)) h) : Gw l G d M pc L [.int v] h Q := ⟨_, _, go_ireturn hc hr rfl rfl, q⟩
theorem e_zreturn {v : Int32} (hc : lk M pc = some (.ireturn, npc, 1)) (hr : M.2.2.2.1 = some .boolean) (hv : v = 0 ∨ v = 1) (q : Q (some (.int v)) h) : Gw l G d M pc L [.int v] h Q := ⟨_, _, go_zreturn hc hr hv rfl rfl, q⟩
theorem e_lreturn {v : Int64} (hc : lk M pc = some (.lreturn, npc, 1)) (hr : M.2.2.2.1 = some .long) (q : Q (some (.long v)) h) : Gw l G d M pc L [.long v] h Q := ⟨_, _, go_lreturn hc hr rfl rfl, q⟩
theorem e_return  (hc : lk M pc = some (.return_, npc, 1)) (hr : M.2.2.2.1 = none) (q : Q (none) h) : Gw l G d M pc L [] h Q := ⟨_, _, go_return hc hr rfl rfl, q⟩
theorem e_areturn {b : Nat} {rt : FieldType} (hc : lk M pc = some (.areturn, npc, 1)) (hr : M.2.2.2.1 = some rt) (hrt : (∃ n, rt = .object n) ∨ ∃ t, rt = .array t) (q : Q (some (.ref b)) h) : Gw l G d M pc L [.ref b] h Q := ⟨_, _, go_areturn hc hr hrt rfl rfl, q⟩
theorem e_callV {M2 : MD} {as stk : List Value} {b : Nat} (hc : lk M pc = some (.invokevirtual i, npc, 3)) (hl : Lv M.1.cls i M2.1 n) (hM2 : MOk M2) (hct : Cw l G d M2 (.ref b :: as) h Q1) (hstk : stk = as.reverse ++ .ref b :: st) (hkd : (mS h b).1 = kd) (hs : kC kd = M2.1.cls) (hb : Nat.blt kd 11 = true) (hn : as.length = n) (hst : Nat.ble (st.map fun v => v.category).sum 8 = true) (kk : ∀ r1 h1, Q1 r1 h1 → Gw l G (d + 1) M npc L (r1.toList ++ st) h1 Q) : Gw l G (d + 1) M pc L stk h Q := by
  obtain ⟨r1, h1, hct, q1⟩ := hct
  obtain ⟨r, h', kk, q⟩ := kk r1 h1 q1
  exact ⟨r, h', go_callV hc hl hM2 hct hstk (by rw [hkd]; exact hs) (by rw [hkd]; exact hb) hn hst (Nat.le_refl _) (Nat.le_refl _) kk, q⟩
theorem e_callVp {M2 : MD} {as stk : List Value} {b : Nat} {v : Value} (hc : lk M pc = some (.invokevirtual i, npc, 3)) (hl : Lv M.1.cls i M2.1 n) (hM2 : MOk M2) (hct : Cp l G d M2 (.ref b :: as) h v) (hstk : stk = as.reverse ++ .ref b :: st) (hkd : (mS h b).1 = kd) (hs : kC kd = M2.1.cls) (hb : Nat.blt kd 11 = true) (hn : as.length = n) (hst : Nat.ble (st.map fun v => v.category).sum 8 = true) (kk : Gw l G (d + 1) M npc L (v :: st) h Q) : Gw l G (d + 1) M pc L stk h Q := by
  obtain ⟨r, h', kk, q⟩ := kk
  exact ⟨r, h', go_callV hc hl hM2 hct hstk (by rw [hkd]; exact hs) (by rw [hkd]; exact hb) hn hst (Nat.le_refl _) (Nat.le_refl _) kk, q⟩
theorem e_callS {M2 : MD} {as stk : List Value} (hc : lk M pc = some (.invokestatic i, npc, 3)) (hl : Ls M.1.cls i M2.1 n) (hM2 : MOk M2) (hct : Cw l G d M2 as h Q1) (hstk : stk = as.reverse ++ st) (hn : as.length = n) (hst : Nat.ble (st.map fun v => v.category).sum 8 = true) (kk : ∀ r1 h1, Q1 r1 h1 → Gw l G (d + 1) M npc L (r1.toList ++ st) h1 Q) : Gw l G (d + 1) M pc L stk h Q := by
  obtain ⟨r1, h1, hct, q1⟩ := hct
  obtain ⟨r, h', kk, q⟩ := kk r1 h1 q1
  exact ⟨r, h', go_callS hc hl hM2 hct hstk hn hst (Nat.le_refl _) (Nat.le_refl _) kk, q⟩
theorem e_callSp {M2 : MD} {as stk : List Value} {v : Value} (hc : lk M pc = some (.invokestatic i, npc, 3)) (hl : Ls M.1.cls i M2.1 n) (hM2 : MOk M2) (hct : Cp l G d M2 as h v) (hstk : stk = as.reverse ++ st) (hn : as.length = n) (hst : Nat.ble (st.map fun v => v.category).sum 8 = true) (kk : Gw l G (d + 1) M npc L (v :: st) h Q) : Gw l G (d + 1) M pc L stk h Q := by
  obtain ⟨r, h', kk, q⟩ := kk
  exact ⟨r, h', go_callS hc hl hM2 hct hstk hn hst (Nat.le_refl _) (Nat.le_refl _) kk, q⟩
theorem e_callSN {M2 : MD} {as stk : List Value} (hc : lk M pc = some (.invokestatic i, npc, 3)) (hl : LsN M.1.cls i M2.1 n) (hM2 : MOk M2) (hct : Cw l G d M2 as h Q1) (hstk : stk = as.reverse ++ st) (hn : as.length = n) (hst : Nat.ble (st.map fun v => v.category).sum 8 = true) (kk : ∀ r1 h1, Q1 r1 h1 → Gw l G (d + 1) M npc L (r1.toList ++ st) h1 Q) : Gw l G (d + 1) M pc L stk h Q := by
  obtain ⟨r1, h1, hct, q1⟩ := hct
  obtain ⟨r, h', kk, q⟩ := kk r1 h1 q1
  exact ⟨r, h', go_callSN hc hl hM2 hct hstk hn hst (Nat.le_refl _) (Nat.le_refl _) kk, q⟩
theorem e_callSNp {M2 : MD} {as stk : List Value} {v : Value} (hc : lk M pc = some (.invokestatic i, npc, 3)) (hl : LsN M.1.cls i M2.1 n) (hM2 : MOk M2) (hct : Cp l G d M2 as h v) (hstk : stk = as.reverse ++ st) (hn : as.length = n) (hst : Nat.ble (st.map fun v => v.category).sum 8 = true) (kk : Gw l G (d + 1) M npc L (v :: st) h Q) : Gw l G (d + 1) M pc L stk h Q := by
  obtain ⟨r, h', kk, q⟩ := kk
  exact ⟨r, h', go_callSN hc hl hM2 hct hstk hn hst (Nat.le_refl _) (Nat.le_refl _) kk, q⟩
end RowsW
theorem bp_m21 : (Int8.ofInt (-21)).toInt32 = (-21) := by decide
theorem bp_m20 : (Int8.ofInt (-20)).toInt32 = (-20) := by decide
theorem bp_m19 : (Int8.ofInt (-19)).toInt32 = (-19) := by decide
theorem bp_m2 : (Int8.ofInt (-2)).toInt32 = (-2) := by decide
theorem bp_6 : (Int8.ofInt 6).toInt32 = 6 := by decide
theorem bp_7 : (Int8.ofInt 7).toInt32 = 7 := by decide
theorem bp_8 : (Int8.ofInt 8).toInt32 = 8 := by decide
theorem bp_9 : (Int8.ofInt 9).toInt32 = 9 := by decide
theorem bp_10 : (Int8.ofInt 10).toInt32 = 10 := by decide
theorem bp_11 : (Int8.ofInt 11).toInt32 = 11 := by decide
theorem bp_12 : (Int8.ofInt 12).toInt32 = 12 := by decide
theorem bp_13 : (Int8.ofInt 13).toInt32 = 13 := by decide
theorem bp_14 : (Int8.ofInt 14).toInt32 = 14 := by decide
theorem bp_15 : (Int8.ofInt 15).toInt32 = 15 := by decide
theorem bp_16 : (Int8.ofInt 16).toInt32 = 16 := by decide
theorem bp_17 : (Int8.ofInt 17).toInt32 = 17 := by decide
theorem bp_18 : (Int8.ofInt 18).toInt32 = 18 := by decide
theorem bp_19 : (Int8.ofInt 19).toInt32 = 19 := by decide
theorem bp_20 : (Int8.ofInt 20).toInt32 = 20 := by decide
theorem bp_21 : (Int8.ofInt 21).toInt32 = 21 := by decide
theorem bp_22 : (Int8.ofInt 22).toInt32 = 22 := by decide
theorem bp_23 : (Int8.ofInt 23).toInt32 = 23 := by decide
theorem bp_24 : (Int8.ofInt 24).toInt32 = 24 := by decide
theorem bp_25 : (Int8.ofInt 25).toInt32 = 25 := by decide
theorem bp_30 : (Int8.ofInt 30).toInt32 = 30 := by decide
theorem bp_32 : (Int8.ofInt 32).toInt32 = 32 := by decide
theorem bp_40 : (Int8.ofInt 40).toInt32 = 40 := by decide
theorem bp_41 : (Int8.ofInt 41).toInt32 = 41 := by decide
theorem bp_42 : (Int8.ofInt 42).toInt32 = 42 := by decide
theorem bp_43 : (Int8.ofInt 43).toInt32 = 43 := by decide
theorem bp_45 : (Int8.ofInt 45).toInt32 = 45 := by decide
theorem bp_47 : (Int8.ofInt 47).toInt32 = 47 := by decide
theorem bp_48 : (Int8.ofInt 48).toInt32 = 48 := by decide
theorem bp_50 : (Int8.ofInt 50).toInt32 = 50 := by decide
theorem bp_57 : (Int8.ofInt 57).toInt32 = 57 := by decide
theorem bp_59 : (Int8.ofInt 59).toInt32 = 59 := by decide
theorem bp_60 : (Int8.ofInt 60).toInt32 = 60 := by decide
theorem bp_61 : (Int8.ofInt 61).toInt32 = 61 := by decide
theorem bp_62 : (Int8.ofInt 62).toInt32 = 62 := by decide
theorem bp_63 : (Int8.ofInt 63).toInt32 = 63 := by decide
theorem bp_64 : (Int8.ofInt 64).toInt32 = 64 := by decide
theorem bp_97 : (Int8.ofInt 97).toInt32 = 97 := by decide
theorem bp_99 : (Int8.ofInt 99).toInt32 = 99 := by decide
theorem bp_100 : (Int8.ofInt 100).toInt32 = 100 := by decide
theorem bp_122 : (Int8.ofInt 122).toInt32 = 122 := by decide
theorem ic_m1 : Int32.ofInt (-1) = (-1) := by decide
theorem ic_0 : Int32.ofInt 0 = 0 := by decide
theorem ic_1 : Int32.ofInt 1 = 1 := by decide
theorem ic_2 : Int32.ofInt 2 = 2 := by decide
theorem ic_3 : Int32.ofInt 3 = 3 := by decide
theorem ic_4 : Int32.ofInt 4 = 4 := by decide
theorem ic_5 : Int32.ofInt 5 = 5 := by decide
theorem sp_128 : (Int16.ofInt 128).toInt32 = 128 := by decide
theorem sp_184 : (Int16.ofInt 184).toInt32 = 184 := by decide
theorem sp_255 : (Int16.ofInt 255).toInt32 = 255 := by decide
theorem sp_256 : (Int16.ofInt 256).toInt32 = 256 := by decide
theorem sp_257 : (Int16.ofInt 257).toInt32 = 257 := by decide
theorem sp_258 : (Int16.ofInt 258).toInt32 = 258 := by decide
theorem sp_260 : (Int16.ofInt 260).toInt32 = 260 := by decide
theorem sp_261 : (Int16.ofInt 261).toInt32 = 261 := by decide
theorem sp_262 : (Int16.ofInt 262).toInt32 = 262 := by decide
theorem sp_680 : (Int16.ofInt 680).toInt32 = 680 := by decide
theorem sp_700 : (Int16.ofInt 700).toInt32 = 700 := by decide
theorem sp_999 : (Int16.ofInt 999).toInt32 = 999 := by decide
theorem sp_1023 : (Int16.ofInt 1023).toInt32 = 1023 := by decide
theorem sp_9900 : (Int16.ofInt 9900).toInt32 = 9900 := by decide
theorem sp_9999 : (Int16.ofInt 9999).toInt32 = 9999 := by decide
theorem sp_12345 : (Int16.ofInt 12345).toInt32 = 12345 := by decide
