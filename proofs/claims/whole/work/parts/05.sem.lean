/-! what a state of the small machine says of the machine -/
def zcv (b : Nat) (sa : Nat → Nat) (v : zV) : Value := match v.1 with
  | 0 => .int (Int32.ofInt v.2)
  | 1 => .long (Int64.ofInt v.2)
  | 2 => if v.2 < 0 then .null else .ref (b + v.2.toNat)
  | _ => .ref (sa v.2.toNat)
def zin (v : zV) : Prop := match v.1 with
  | 0 => -2147483648 ≤ v.2 ∧ v.2 < 2147483648
  | 1 => -9223372036854775808 ≤ v.2 ∧ v.2 < 9223372036854775808
  | _ => True
def zkt (kd j : Nat) : Nat := if kd = 20 ∨ kd = 22 then 0 else if kd = 21 then 1 else ztg kd j
def zE (ids : Nat → ClassId) (b : Nat) (sa : Nat → Nat) (sh : Nat × Nat) (f : Int → Int) : va_E :=
  if sh.1 = 20 then .inl (ids 0, sh.2, .inl (fun j => Int32.ofInt (f j)))
  else if sh.1 = 21 then .inl (ids 1, sh.2, .inr (.inl (fun j => Int64.ofInt (f j))))
  else if sh.1 = 22 then .inl (ids 2, sh.2, .inl (fun j => Int32.ofInt (f j)))
  else .inr (sh.1, (List.range sh.2).map (fun j => zcv b sa (ztg sh.1 j, f j)))
def zws (ids : Nat → ClassId) (b : Nat) (sa : Nat → Nat) (g : Nat) (w : zW) : va_W := (List.range g).map (fun a => (b + a, zE ids b sa (zsh a) (w a)))
def zok (g : Nat) (w : zW) : Prop := ∀ a : Nat, a < g → ∀ j : Nat, j < (zsh a).2 → zin (zkt (zsh a).1 j, w a j)
def zsum (g : Nat) : Nat := ((List.range g).map (fun a : Nat => (zsh a).2)).sum
abbrev zTY (ids : Nat → ClassId) : List (ClassId × FieldType) := [(ids 0, .int), (ids 1, .long), (ids 2, .boolean)]
def zTB : List Jvm.Cond := lw_tbl.filter goodWord
def zisN (c : Jvm.Cond) : Bool := match c with
  | .methodLinkNest .. => true
  | _ => false
def zNW : List Jvm.Cond := lw_tbl.filter zisN
def zKK (D : va_G) (ids : Nat → ClassId) (b : Nat) (sa adV : Nat → Nat) (U : State) (H : Heap) : Prop :=
  va_K D vwCl (zTY ids) U ∧ (∀ x ∈ zNW, va_Nw x U) ∧ (∀ i, i < 3 → vk_R RX1 ((zSX.getD i (0, "")).1) ((zSX.getD i (0, "")).2) (sa i) U) ∧ vk_S 3 zSN zSB sa adV (fun q => b ≤ q) U H ∧ va_Z "java/lang/String" "COMPACT_STRINGS" "Z" (.int 1) (fun q => b ≤ q) U H
def zRep (D : va_G) (ids : Nat → ClassId) (b : Nat) (sa : Nat → Nat) (s : State) (lk : Bool) (H : Heap) (locs : List Loc) (g : Nat) (w : zW) : Prop :=
  va_P D vwCl (zws ids b sa g w) H ∧ H.size = b + g ∧ s.heap.size ≤ H.size ∧ b ≤ s.heap.size ∧ (∀ q : Nat, q < b → H[q]? = s.heap[q]?) ∧ (∀ x ∈ locs, b ≤ x.base) ∧ zok g w ∧ (lk = true → g = zN ∧ zLk w)
def zLV (b : Nat) (sa : Nat → Nat) (ls : Array Slot) (nL : Nat) (lv : List zV) : Prop :=
  ls.size = nL ∧ lv_wf ls ∧ lv.length = nL ∧ ∀ (i : Nat) (v : zV), lv[i]? = some v → v.1 < 4 → ls[i]? = some (.val (zcv b sa v)) ∧ zin v
def zST (st : List zV) : Prop := ∀ v ∈ st, v.1 < 4 ∧ zin v
def zCx (p : Program) (R : Room) (s : State) (mth : MethodId) (args : Array Value) (meth : Method) (c : Code) (D : va_G) (ids : Nat → ClassId) (b : Nat) (sa adV : Nat → Nat) (n0 nE d m : Nat) : Prop :=
  p.tables.exec = Jvm.exec ∧ c.code = zby m ∧ meth.sig.returnType = zrt m ∧ meth.locks = false ∧ c.maxLocals = zmx m ∧ s.vm.findClass (zRn (zcn m)) = some mth.cls ∧ meth.name = (zyn m).name ∧ (∀ x ∈ zTB, x.before args s = true) ∧ zKK D ids b sa adV s s.heap ∧ d ≤ R.frames ∧ 40 * d ≤ R.locals ∧ R.cells = nE - n0 ∧ R.slots = zsum nE - zsum n0
def zWW (p : Program) (l : Launch) (e : Env) (R : Room) (s : State) (mth : MethodId) (args : Array Value) (below : List Frame) (meth : Method) (c : Code) (D : va_G) (ids : Nat → ClassId) (b : Nat) (sa : Nat → Nat) (n0 m : Nat) (Q : State → Prop) (pc : Nat) (lv st : List zV) (g : Nat) (w : zW) : Prop :=
  ∀ (H : Heap) (locs : List Loc) (ls : Array Slot), zRep D ids b sa s (zlm m) H locs g w → zLV b sa ls (zmx m) lv → zST st → n0 ≤ g → W p l e R s mth args below meth c H locs (g - n0) (zsum g - zsum n0) Q (F0 mth pc ls (st.map (zcv b sa)))
theorem zin_i (x : Int32) : zin (0, x.toInt) := ⟨x.le_toInt, x.toInt_lt⟩
theorem zin_l (x : Int64) : zin (1, x.toInt) := ⟨x.le_toInt, x.toInt_lt⟩
theorem zin_w (x : Int) : zin (0, w32 x) := by
  have h1 := Int.le_bmod (x := x) (m := 4294967296) (by decide)
  have h2 := Int.bmod_lt (x := x) (m := 4294967296) (by decide)
  exact ⟨by unfold w32; omega, by unfold w32; omega⟩
theorem w32_of (x : Int) : Int32.ofInt (w32 x) = Int32.ofInt x := by
  apply Int32.toInt_inj.mp
  rw [Int32.toInt_ofInt, Int32.toInt_ofInt]
  exact Int.bmod_bmod
theorem zo_i (x : Int32) : Int32.ofInt x.toInt = x := Int32.ofInt_toInt x
theorem zo_l (x : Int64) : Int64.ofInt x.toInt = x := Int64.ofInt_toInt x
theorem zi_to {x : Int} (h : zin (0, x)) : (Int32.ofInt x).toInt = x := Int32.toInt_ofInt_of_le h.1 h.2
theorem zl_to {x : Int} (h : zin (1, x)) : (Int64.ofInt x).toInt = x := Int64.toInt_ofInt_of_le h.1 h.2
theorem zi_eq {x y : Int} (hx : zin (0, x)) (hy : zin (0, y)) : Int32.ofInt x = Int32.ofInt y ↔ x = y := by
  rw [← Int32.toInt_inj, zi_to hx, zi_to hy]
theorem zi_lt {x y : Int} (hx : zin (0, x)) (hy : zin (0, y)) : Int32.ofInt x < Int32.ofInt y ↔ x < y := by
  rw [Int32.lt_iff_toInt_lt, zi_to hx, zi_to hy]
theorem zi_le {x y : Int} (hx : zin (0, x)) (hy : zin (0, y)) : Int32.ofInt x ≤ Int32.ofInt y ↔ x ≤ y := by
  rw [Int32.le_iff_toInt_le, zi_to hx, zi_to hy]
theorem zl_eq {x y : Int} (hx : zin (1, x)) (hy : zin (1, y)) : Int64.ofInt x = Int64.ofInt y ↔ x = y := by
  rw [← Int64.toInt_inj, zl_to hx, zl_to hy]
theorem zl_lt {x y : Int} (hx : zin (1, x)) (hy : zin (1, y)) : Int64.ofInt x < Int64.ofInt y ↔ x < y := by
  rw [Int64.lt_iff_toInt_lt, zl_to hx, zl_to hy]
theorem zST.tail {v : zV} {st : List zV} (h : zST (v :: st)) : zST st := fun x hx => h x (List.mem_cons_of_mem _ hx)
theorem zST.head {v : zV} {st : List zV} (h : zST (v :: st)) : zin v := (h v List.mem_cons_self).2
theorem zST.tag {v : zV} {st : List zV} (h : zST (v :: st)) : v.1 < 4 := (h v List.mem_cons_self).1
theorem zST.cons {v : zV} {st : List zV} (h1 : v.1 < 4) (h2 : zin v) (h : zST st) : zST (v :: st) := fun x hx => by
  rcases List.mem_cons.mp hx with rfl | hx
  · exact ⟨h1, h2⟩
  · exact h x hx
theorem t4 {t : Nat} {x : Int} (h : t < 4 := by decide) : ((t, x) : zV).1 < 4 := h
theorem zin_small {t : Nat} {x : Int} (h1 : -2147483648 ≤ x) (h2 : x < 2147483648) : zin (t, x) := by
  unfold zin
  split
  · exact ⟨h1, h2⟩
  · exact ⟨by have : (-9223372036854775808 : Int) ≤ -2147483648 := by decide
              exact Int.le_trans this h1, by have : (2147483648 : Int) ≤ 9223372036854775808 := by decide
                                             exact Int.lt_of_lt_of_le h2 this⟩
  · trivial
section Z1
variable {p : Program} {l : Launch} {e : Env} {R : Room} {s : State} {mth : MethodId} {args : Array Value} {below : List Frame} {meth : Method} {c : Code} {D : va_G} {ids : Nat → ClassId} {b : Nat} {sa adV : Nat → Nat} {n0 nE d m : Nat} {Q : State → Prop} {pc : Nat} {lv st : List zV} {g : Nat} {w : zW}
/-- an instruction that works on the stack alone -/
theorem z_pure {pc' : Nat} {st' : List zV} (row : ∀ (H : Heap) (locs : List Loc) (ls : Array Slot) (cells slots : Nat), zLV b sa ls (zmx m) lv → zST st → W p l e R s mth args below meth c H locs cells slots Q (F0 mth pc' ls (st'.map (zcv b sa))) → W p l e R s mth args below meth c H locs cells slots Q (F0 mth pc ls (st.map (zcv b sa))))
    (hst : zST st → (∀ (i : Nat) (v : zV), lv[i]? = some v → v.1 < 4 → zin v) → zST st') (k : zWW p l e R s mth args below meth c D ids b sa n0 m Q pc' lv st' g w) : zWW p l e R s mth args below meth c D ids b sa n0 m Q pc lv st g w :=
  fun H locs ls hR hL hS hg => row H locs ls _ _ hL hS (k H locs ls hR hL (hst hS (fun i v h1 h2 => (hL.2.2.2 i v h1 h2).2)) hg)
theorem z_iconst (C : zCx p R s mth args meth c D ids b sa adV n0 nE d m) {v : Int} (hv : -1 ≤ v ∧ v ≤ 5) (hd : decode (zby m) pc = .ok (.iconst v, 1)) (k : zWW p l e R s mth args below meth c D ids b sa n0 m Q (pc + 1) lv ((0, v) :: st) g w) : zWW p l e R s mth args below meth c D ids b sa n0 m Q pc lv st g w :=
  z_pure (fun H locs ls cells slots hL hS k => lv_iconst (v := Int32.ofInt v) C.1 C.2.1 hd rfl k) (fun h _ => h.cons t4 (zin_small (by omega) (by omega))) k
theorem z_bipush (C : zCx p R s mth args meth c D ids b sa adV n0 nE d m) {v : Int} (hv : -128 ≤ v ∧ v ≤ 127) (hd : decode (zby m) pc = .ok (.bipush v, 2)) (k : zWW p l e R s mth args below meth c D ids b sa n0 m Q (pc + 2) lv ((0, v) :: st) g w) : zWW p l e R s mth args below meth c D ids b sa n0 m Q pc lv st g w :=
  z_pure (fun H locs ls cells slots hL hS k => lv_bipush (v := Int32.ofInt v) C.1 C.2.1 hd (by
    apply Int32.toInt_inj.mp
    rw [zi_to (zin_small (by omega) (by omega)), Int8.toInt_toInt32, Int8.toInt_ofInt_of_le (by omega) (by omega)]) k) (fun h _ => h.cons t4 (zin_small (by omega) (by omega))) k
theorem z_sipush (C : zCx p R s mth args meth c D ids b sa adV n0 nE d m) {v : Int} (hv : -32768 ≤ v ∧ v ≤ 32767) (hd : decode (zby m) pc = .ok (.sipush v, 3)) (k : zWW p l e R s mth args below meth c D ids b sa n0 m Q (pc + 3) lv ((0, v) :: st) g w) : zWW p l e R s mth args below meth c D ids b sa n0 m Q pc lv st g w :=
  z_pure (fun H locs ls cells slots hL hS k => lv_sipush (v := Int32.ofInt v) C.1 C.2.1 hd (by
    apply Int32.toInt_inj.mp
    rw [zi_to (zin_small (by omega) (by omega)), Int16.toInt_toInt32, Int16.toInt_ofInt_of_le (by omega) (by omega)]) k) (fun h _ => h.cons t4 (zin_small (by omega) (by omega))) k
theorem z_lconst (C : zCx p R s mth args meth c D ids b sa adV n0 nE d m) {v : Fin 2} (hd : decode (zby m) pc = .ok (.lconst v, 1)) (k : zWW p l e R s mth args below meth c D ids b sa n0 m Q (pc + 1) lv ((1, ((v : Nat) : Int)) :: st) g w) : zWW p l e R s mth args below meth c D ids b sa n0 m Q pc lv st g w :=
  z_pure (fun H locs ls cells slots hL hS k => lv_lconst (v := Int64.ofInt ((v : Nat) : Int)) C.1 C.2.1 hd Int64.ofInt_eq_ofNat.symm k) (fun h _ => h.cons t4 (zin_small (by omega) (by have := v.isLt; omega))) k
theorem z_iadd (C : zCx p R s mth args meth c D ids b sa adV n0 nE d m) {x y : Int} (hd : decode (zby m) pc = .ok (.iadd, 1)) (k : zWW p l e R s mth args below meth c D ids b sa n0 m Q (pc + 1) lv ((0, w32 (x + y)) :: st) g w) : zWW p l e R s mth args below meth c D ids b sa n0 m Q pc lv ((0, y) :: (0, x) :: st) g w :=
  z_pure (fun H locs ls cells slots hL hS k => lv_iadd (x := Int32.ofInt x) (y := Int32.ofInt y) C.1 C.2.1 hd (by rw [← Int32.ofInt_add, ← w32_of]; exact k)) (fun h _ => h.tail.tail.cons t4 (zin_w _)) k
theorem z_isub (C : zCx p R s mth args meth c D ids b sa adV n0 nE d m) {x y : Int} (hd : decode (zby m) pc = .ok (.isub, 1)) (k : zWW p l e R s mth args below meth c D ids b sa n0 m Q (pc + 1) lv ((0, w32 (x - y)) :: st) g w) : zWW p l e R s mth args below meth c D ids b sa n0 m Q pc lv ((0, y) :: (0, x) :: st) g w :=
  z_pure (fun H locs ls cells slots hL hS k => lv_isub (x := Int32.ofInt x) (y := Int32.ofInt y) C.1 C.2.1 hd (by rw [← Int32.ofInt_sub, ← w32_of]; exact k)) (fun h _ => h.tail.tail.cons t4 (zin_w _)) k
theorem z_imul (C : zCx p R s mth args meth c D ids b sa adV n0 nE d m) {x y : Int} (hd : decode (zby m) pc = .ok (.imul, 1)) (k : zWW p l e R s mth args below meth c D ids b sa n0 m Q (pc + 1) lv ((0, w32 (x * y)) :: st) g w) : zWW p l e R s mth args below meth c D ids b sa n0 m Q pc lv ((0, y) :: (0, x) :: st) g w :=
  z_pure (fun H locs ls cells slots hL hS k => lv_imul (x := Int32.ofInt x) (y := Int32.ofInt y) C.1 C.2.1 hd (by rw [← Int32.ofInt_mul, ← w32_of]; exact k)) (fun h _ => h.tail.tail.cons t4 (zin_w _)) k
theorem z_iand (C : zCx p R s mth args meth c D ids b sa adV n0 nE d m) {x y : Int} (hd : decode (zby m) pc = .ok (.iand, 1)) (k : zWW p l e R s mth args below meth c D ids b sa n0 m Q (pc + 1) lv ((0, z_and x y) :: st) g w) : zWW p l e R s mth args below meth c D ids b sa n0 m Q pc lv ((0, y) :: (0, x) :: st) g w :=
  z_pure (fun H locs ls cells slots hL hS k => lv_iand (x := Int32.ofInt x) (y := Int32.ofInt y) C.1 C.2.1 hd (by rw [← zo_i (Int32.ofInt x &&& Int32.ofInt y)]; exact k)) (fun h _ => h.tail.tail.cons t4 (zin_i _)) k
theorem z_ior (C : zCx p R s mth args meth c D ids b sa adV n0 nE d m) {x y : Int} (hd : decode (zby m) pc = .ok (.ior, 1)) (k : zWW p l e R s mth args below meth c D ids b sa n0 m Q (pc + 1) lv ((0, z_or x y) :: st) g w) : zWW p l e R s mth args below meth c D ids b sa n0 m Q pc lv ((0, y) :: (0, x) :: st) g w :=
  z_pure (fun H locs ls cells slots hL hS k => lv_ior (x := Int32.ofInt x) (y := Int32.ofInt y) C.1 C.2.1 hd (by rw [← zo_i (Int32.ofInt x ||| Int32.ofInt y)]; exact k)) (fun h _ => h.tail.tail.cons t4 (zin_i _)) k
theorem z_ishl (C : zCx p R s mth args meth c D ids b sa adV n0 nE d m) {x y : Int} (hd : decode (zby m) pc = .ok (.ishl, 1)) (k : zWW p l e R s mth args below meth c D ids b sa n0 m Q (pc + 1) lv ((0, z_shl x y) :: st) g w) : zWW p l e R s mth args below meth c D ids b sa n0 m Q pc lv ((0, y) :: (0, x) :: st) g w :=
  z_pure (fun H locs ls cells slots hL hS k => lv_ishl (x := Int32.ofInt x) (y := Int32.ofInt y) C.1 C.2.1 hd (by rw [← zo_i (Int32.ofInt x <<< (Int32.ofInt y &&& 31))]; exact k)) (fun h _ => h.tail.tail.cons t4 (zin_i _)) k
theorem z_idiv (C : zCx p R s mth args meth c D ids b sa adV n0 nE d m) {x y : Int} (hy : y ≠ 0) (hd : decode (zby m) pc = .ok (.idiv, 1)) (k : zWW p l e R s mth args below meth c D ids b sa n0 m Q (pc + 1) lv ((0, z_div x y) :: st) g w) : zWW p l e R s mth args below meth c D ids b sa n0 m Q pc lv ((0, y) :: (0, x) :: st) g w :=
  z_pure (fun H locs ls cells slots hL hS k => lv_idiv (x := Int32.ofInt x) (y := Int32.ofInt y) C.1 C.2.1 hd (fun h => hy ((zi_eq hS.head (y := 0) ⟨by decide, by decide⟩).mp (h.trans (by decide)))) (by rw [← zo_i (Int32.ofInt x / Int32.ofInt y)]; exact k)) (fun h _ => h.tail.tail.cons t4 (zin_i _)) k
theorem z_irem (C : zCx p R s mth args meth c D ids b sa adV n0 nE d m) {x y : Int} (hy : y ≠ 0) (hd : decode (zby m) pc = .ok (.irem, 1)) (k : zWW p l e R s mth args below meth c D ids b sa n0 m Q (pc + 1) lv ((0, z_rem x y) :: st) g w) : zWW p l e R s mth args below meth c D ids b sa n0 m Q pc lv ((0, y) :: (0, x) :: st) g w :=
  z_pure (fun H locs ls cells slots hL hS k => lv_irem (x := Int32.ofInt x) (y := Int32.ofInt y) C.1 C.2.1 hd (fun h => hy ((zi_eq hS.head (y := 0) ⟨by decide, by decide⟩).mp (h.trans (by decide)))) (by rw [← zo_i (Int32.ofInt x - Int32.ofInt x / Int32.ofInt y * Int32.ofInt y)]; exact k)) (fun h _ => h.tail.tail.cons t4 (zin_i _)) k
theorem z_rland (C : zCx p R s mth args meth c D ids b sa adV n0 nE d m) {x y : Int} (hd : decode (zby m) pc = .ok (.land, 1)) (k : zWW p l e R s mth args below meth c D ids b sa n0 m Q (pc + 1) lv ((1, z_land x y) :: st) g w) : zWW p l e R s mth args below meth c D ids b sa n0 m Q pc lv ((1, y) :: (1, x) :: st) g w :=
  z_pure (fun H locs ls cells slots hL hS k => lv_land (x := Int64.ofInt x) (y := Int64.ofInt y) C.1 C.2.1 hd (by rw [← zo_l (Int64.ofInt x &&& Int64.ofInt y)]; exact k)) (fun h _ => h.tail.tail.cons t4 (zin_l _)) k
theorem z_rlor (C : zCx p R s mth args meth c D ids b sa adV n0 nE d m) {x y : Int} (hd : decode (zby m) pc = .ok (.lor, 1)) (k : zWW p l e R s mth args below meth c D ids b sa n0 m Q (pc + 1) lv ((1, z_lor x y) :: st) g w) : zWW p l e R s mth args below meth c D ids b sa n0 m Q pc lv ((1, y) :: (1, x) :: st) g w :=
  z_pure (fun H locs ls cells slots hL hS k => lv_lor (x := Int64.ofInt x) (y := Int64.ofInt y) C.1 C.2.1 hd (by rw [← zo_l (Int64.ofInt x ||| Int64.ofInt y)]; exact k)) (fun h _ => h.tail.tail.cons t4 (zin_l _)) k
theorem z_rlmul (C : zCx p R s mth args meth c D ids b sa adV n0 nE d m) {x y : Int} (hd : decode (zby m) pc = .ok (.lmul, 1)) (k : zWW p l e R s mth args below meth c D ids b sa n0 m Q (pc + 1) lv ((1, z_lmul x y) :: st) g w) : zWW p l e R s mth args below meth c D ids b sa n0 m Q pc lv ((1, y) :: (1, x) :: st) g w :=
  z_pure (fun H locs ls cells slots hL hS k => lv_lmul (x := Int64.ofInt x) (y := Int64.ofInt y) C.1 C.2.1 hd (by rw [← zo_l (Int64.ofInt x * Int64.ofInt y)]; exact k)) (fun h _ => h.tail.tail.cons t4 (zin_l _)) k
theorem z_rlsub (C : zCx p R s mth args meth c D ids b sa adV n0 nE d m) {x y : Int} (hd : decode (zby m) pc = .ok (.lsub, 1)) (k : zWW p l e R s mth args below meth c D ids b sa n0 m Q (pc + 1) lv ((1, z_lsub x y) :: st) g w) : zWW p l e R s mth args below meth c D ids b sa n0 m Q pc lv ((1, y) :: (1, x) :: st) g w :=
  z_pure (fun H locs ls cells slots hL hS k => lv_lsub (x := Int64.ofInt x) (y := Int64.ofInt y) C.1 C.2.1 hd (by rw [← zo_l (Int64.ofInt x - Int64.ofInt y)]; exact k)) (fun h _ => h.tail.tail.cons t4 (zin_l _)) k
theorem z_rlshl (C : zCx p R s mth args meth c D ids b sa adV n0 nE d m) {x y : Int} (hd : decode (zby m) pc = .ok (.lshl, 1)) (k : zWW p l e R s mth args below meth c D ids b sa n0 m Q (pc + 1) lv ((1, z_lshl x y) :: st) g w) : zWW p l e R s mth args below meth c D ids b sa n0 m Q pc lv ((0, y) :: (1, x) :: st) g w :=
  z_pure (fun H locs ls cells slots hL hS k => lv_lshl (x := Int64.ofInt x) (y := Int32.ofInt y) C.1 C.2.1 hd (zo_l _).symm k) (fun h _ => h.tail.tail.cons t4 (zin_l _)) k
theorem z_rlshr (C : zCx p R s mth args meth c D ids b sa adV n0 nE d m) {x y : Int} (hd : decode (zby m) pc = .ok (.lshr, 1)) (k : zWW p l e R s mth args below meth c D ids b sa n0 m Q (pc + 1) lv ((1, z_lshr x y) :: st) g w) : zWW p l e R s mth args below meth c D ids b sa n0 m Q pc lv ((0, y) :: (1, x) :: st) g w :=
  z_pure (fun H locs ls cells slots hL hS k => lv_lshr (x := Int64.ofInt x) (y := Int32.ofInt y) C.1 C.2.1 hd (zo_l _).symm k) (fun h _ => h.tail.tail.cons t4 (zin_l _)) k
theorem z_rlushr (C : zCx p R s mth args meth c D ids b sa adV n0 nE d m) {x y : Int} (hd : decode (zby m) pc = .ok (.lushr, 1)) (k : zWW p l e R s mth args below meth c D ids b sa n0 m Q (pc + 1) lv ((1, z_lushr x y) :: st) g w) : zWW p l e R s mth args below meth c D ids b sa n0 m Q pc lv ((0, y) :: (1, x) :: st) g w :=
  z_pure (fun H locs ls cells slots hL hS k => lv_lushr (x := Int64.ofInt x) (y := Int32.ofInt y) C.1 C.2.1 hd (zo_l _).symm k) (fun h _ => h.tail.tail.cons t4 (zin_l _)) k
theorem z_rlcmp (C : zCx p R s mth args meth c D ids b sa adV n0 nE d m) {x y : Int} (hd : decode (zby m) pc = .ok (.lcmp, 1)) (k : zWW p l e R s mth args below meth c D ids b sa n0 m Q (pc + 1) lv ((0, z_cmp x y) :: st) g w) : zWW p l e R s mth args below meth c D ids b sa n0 m Q pc lv ((1, y) :: (1, x) :: st) g w :=
  z_pure (fun H locs ls cells slots hL hS k => W.lcmp (x := Int64.ofInt x) (y := Int64.ofInt y) C.1 C.2.1 hd (by
    have e : lg_cmp (Int64.ofInt x) (Int64.ofInt y) = Int32.ofInt (z_cmp x y) := by
      unfold lg_cmp z_cmp
      simp only [zl_lt hS.head hS.tail.head, zl_eq hS.tail.head hS.head, zl_lt hS.tail.head hS.head]
      split
      · rfl
      · split <;> first | rfl | (split <;> first | rfl | omega)
    rw [e]; exact k)) (fun h _ => h.tail.tail.cons t4 (zin_small (by unfold z_cmp; split <;> (try split) <;> omega) (by unfold z_cmp; split <;> (try split) <;> omega))) k
theorem z_i2l (C : zCx p R s mth args meth c D ids b sa adV n0 nE d m) {x : Int} (hd : decode (zby m) pc = .ok (.i2l, 1)) (k : zWW p l e R s mth args below meth c D ids b sa n0 m Q (pc + 1) lv ((1, x) :: st) g w) : zWW p l e R s mth args below meth c D ids b sa n0 m Q pc lv ((0, x) :: st) g w :=
  z_pure (fun H locs ls cells slots hL hS k => lv_i2l (x := Int32.ofInt x) (v := Int64.ofInt x) C.1 C.2.1 hd (by
    apply Int64.toInt_inj.mp
    have h := hS.head
    have h1 := h.1
    have h2 := h.2
    rw [Int32.toInt_toInt64, zi_to h, zl_to (zin_small h1 h2)]) k) (fun h _ => h.tail.cons t4 (zin_small h.head.1 h.head.2)) k
theorem z_rl2i (C : zCx p R s mth args meth c D ids b sa adV n0 nE d m) {x : Int} (hd : decode (zby m) pc = .ok (.l2i, 1)) (k : zWW p l e R s mth args below meth c D ids b sa n0 m Q (pc + 1) lv ((0, z_l2i x) :: st) g w) : zWW p l e R s mth args below meth c D ids b sa n0 m Q pc lv ((1, x) :: st) g w :=
  z_pure (fun H locs ls cells slots hL hS k => lv_l2i (x := Int64.ofInt x) C.1 C.2.1 hd (zo_i _).symm k) (fun h _ => h.tail.cons t4 (zin_i _)) k
theorem z_ri2c (C : zCx p R s mth args meth c D ids b sa adV n0 nE d m) {x : Int} (hd : decode (zby m) pc = .ok (.i2c, 1)) (k : zWW p l e R s mth args below meth c D ids b sa n0 m Q (pc + 1) lv ((0, z_i2c x) :: st) g w) : zWW p l e R s mth args below meth c D ids b sa n0 m Q pc lv ((0, x) :: st) g w :=
  z_pure (fun H locs ls cells slots hL hS k => lv_i2c (x := Int32.ofInt x) C.1 C.2.1 hd (zo_i _).symm k) (fun h _ => h.tail.cons t4 (zin_i _)) k
end Z1
