/-! one instruction, and runs -/
def zup (w : zW) (a i x : Int) : zW := fun b j => if b = a ∧ j = i then x else w b j
def w32 (x : Int) : Int := x.bmod 4294967296
def z_and (a b : Int) : Int := (Int32.ofInt a &&& Int32.ofInt b).toInt
def z_or (a b : Int) : Int := (Int32.ofInt a ||| Int32.ofInt b).toInt
def z_shl (a b : Int) : Int := (Int32.ofInt a <<< (Int32.ofInt b &&& 31)).toInt
def z_div (a b : Int) : Int := (Int32.ofInt a / Int32.ofInt b).toInt
def z_rem (a b : Int) : Int := (Int32.ofInt a - Int32.ofInt a / Int32.ofInt b * Int32.ofInt b).toInt
def z_land (a b : Int) : Int := (Int64.ofInt a &&& Int64.ofInt b).toInt
def z_lor (a b : Int) : Int := (Int64.ofInt a ||| Int64.ofInt b).toInt
def z_lmul (a b : Int) : Int := (Int64.ofInt a * Int64.ofInt b).toInt
def z_lsub (a b : Int) : Int := (Int64.ofInt a - Int64.ofInt b).toInt
def z_lshl (a b : Int) : Int := (Int64.ofInt a <<< ((Int32.ofInt b).toInt64 &&& 63)).toInt
def z_lshr (a b : Int) : Int := (Int64.ofInt a >>> ((Int32.ofInt b).toInt64 &&& 63)).toInt
def z_lushr (a b : Int) : Int := ((Int64.ofInt a).toUInt64 >>> ((Int32.ofInt b).toInt64.toUInt64 &&& Int64.toUInt64 63)).toInt64.toInt
def z_l2i (a : Int) : Int := (Int64.ofInt a).toInt32.toInt
def z_i2c (a : Int) : Int := ((Int32.ofInt a).toUInt32 % 65536).toInt32.toInt
def z_cmp (a b : Int) : Int := if b < a then 1 else if a = b then 0 else -1
def z_max (a b : Int) : Int := if a < b then b else a
def z_min (a b : Int) : Int := if b < a then b else a
def zixF (c : Int) : List Int → Int → Int
  | [], _ => -1
  | b :: l, k => if b = c then k else zixF c l (k + 1)
def zix (i : Nat) (c : Int) : Int := zixF c (zSC.getD i []) 0
def zcond (c : Jvm.ClassFile.Cond) (x y : Int) : Bool := match c with
  | .eq => decide (x = y)
  | .ne => decide (x ≠ y)
  | .lt => decide (x < y)
  | .ge => decide (y ≤ x)
  | .gt => decide (y < x)
  | .le => decide (x ≤ y)
def zgo (pc : Nat) (lv st : List zV) (g : Nat) (w : zW) : Option zO := some (.inl (pc, lv, st, g, w))
def zjmp (pc : Nat) (off : Int) (lv st : List zV) (g : Nat) (w : zW) : Option zO := if 0 ≤ (pc : Int) + off then zgo ((pc : Int) + off).toNat lv st g w else none
def zsw (ps : List (Int × Int)) (d x : Int) : Int := match ps with
  | [] => d
  | q :: r => if q.1 = x then q.2 else zsw r d x
def zld (t : Nat) (lv : List zV) (i : Nat) : Option zV := match lv[i]? with
  | some v => if v.1 = t then some v else none
  | none => none
def ztag (lv : List zV) (i : Nat) : Nat := (lv.getD i (9, 0)).1
/-- the store of a value of one word, of a long -/
def zsto (lv : List zV) (i : Nat) (v : zV) : Option (List zV) := if i < lv.length ∧ (i = 0 ∨ ztag lv (i - 1) ≠ 1) then some (lv.set i v) else none
def zstoL (lv : List zV) (i : Nat) (v : zV) : Option (List zV) := if i + 1 < lv.length ∧ (i = 0 ∨ ztag lv (i - 1) ≠ 1) then some ((lv.set i v).set (i + 1) (9, 0)) else none
def ztg (c k : Nat) : Nat := match zty c k with
  | .int => 0
  | .boolean => 0
  | .long => 1
  | _ => 2
def zblank (w : zW) (a : Nat) (f : Int → Int) : zW := fun b j => if b = a then f j else w b j
def zcat (st : List zV) : Nat := (st.map (fun v => if v.1 = 1 then 2 else 1)).sum
def zpush (v : zV) (st : List zV) : List zV := if v.1 = 9 then st else v :: st
def zflat (as : List zV) : List zV := as.flatMap (fun v => if v.1 = 1 then [v, (9, 0)] else [v])
def zloc (m : Nat) (as : List zV) : List zV := zflat as ++ List.replicate (zmx m - (zflat as).length) (9, 0)
def zLkB (w : zW) : Bool := zLKl.all (fun q => decide (w q.1 q.2.1 = q.2.2))
def zmode (m m' g : Nat) (w : zW) : Bool := if zlm m' then (zlm m || (decide (g = zN) && zLkB w)) else !zlm m
def zcall (m m' n : Nat) (recv : Bool) (st : List zV) (g : Nat) (w : zW) : Option zO :=
  if zmode m m' g w = true ∧ n ≤ st.length then
    match recv, st.drop n with
    | false, rest => if zcat rest ≤ 8 ∧ (zflat (st.take n).reverse).length ≤ zmx m' then some (.inr (.inr (m', (st.take n).reverse, rest))) else none
    | true, (2, a) :: rest => if 0 ≤ a ∧ a < g ∧ (zsh a).1 = zcn m' ∧ zcat rest ≤ 8 ∧ (zflat ((2, a) :: (st.take n).reverse)).length ≤ zmx m' then some (.inr (.inr (m', (2, a) :: (st.take n).reverse, rest))) else none
    | true, _ => none
  else none
def zinvoke (d m k : Nat) (pc : Nat) (lv st : List zV) (g : Nat) (w : zW) (op : Nat) : Option zO := match (zML (zcn m)).lookup k with
  | none => none
  | some (m', kd, n) =>
    if kd = 20 then
      (if op = 2 ∧ 1 ≤ d then match st with
        | (2, a) :: rest => if 0 ≤ a ∧ a < g ∧ zcat rest ≤ 8 then zgo (pc + 3) lv rest g w else none
        | _ => none
      else none)
    else if kd = 21 then
      (if op = 1 ∧ 1 ≤ d then match st with
        | (0, y) :: (0, x) :: rest => if zcat rest ≤ 8 then zgo (pc + 3) lv ((0, z_max x y) :: rest) g w else none
        | _ => none
      else none)
    else if kd = 22 then
      (if op = 1 ∧ 1 ≤ d then match st with
        | (0, y) :: (0, x) :: rest => if zcat rest ≤ 8 then zgo (pc + 3) lv ((0, z_min x y) :: rest) g w else none
        | _ => none
      else none)
    else if kd = 23 then
      (if op = 0 ∧ 5 ≤ d then match st with
        | (0, x) :: (3, i) :: rest => if 0 ≤ i ∧ i < 3 ∧ zcat rest ≤ 8 then zgo (pc + 3) lv ((0, zix i.toNat x) :: rest) g w else none
        | _ => none
      else none)
    else if kd % 10 = op then zcall m m' n (decide (op ≠ 1)) st g w
    else none
def zget (m k : Nat) (a : Int) (g : Nat) (w : zW) : Option zV := match (zFL (zcn m)).lookup k with
  | none => none
  | some (c, f) => if 0 ≤ a ∧ a < g ∧ (zsh a).1 = c ∧ f < zNf c then
      (match zlm m, zlk c f with
      | true, some o => some (2, a + o)
      | _, _ => some (ztg c f, w a f))
    else none
def zput (m k : Nat) (a : Int) (v : zV) (g : Nat) (w : zW) : Option zW := match (zFL (zcn m)).lookup k with
  | none => none
  | some (c, f) => if 0 ≤ a ∧ a < g ∧ (zsh a).1 = c ∧ f < zNf c ∧ ztg c f = v.1 ∧ (zty c f = .boolean → v.2 = 0 ∨ v.2 = 1) ∧ (zlm m = true → zlk c f = none) ∧ ((zTt c f).2.2.2 = true → zlm m = false ∧ c = zcn m ∧ (zyn m).name = "<init>")
      then some (zup w a f v.2) else none
def zald (kd : Nat) (a i : Int) (g : Nat) (w : zW) : Option Int := if 0 ≤ a ∧ a < g ∧ (zsh a).1 = kd ∧ 0 ≤ i ∧ i < (zsh a).2 then some (w a i) else none
def zast (kd : Nat) (a i x : Int) (g : Nat) (w : zW) : Option zW := if 0 ≤ a ∧ a < g ∧ (zsh a).1 = kd ∧ 0 ≤ i ∧ i < (zsh a).2 then some (zup w a i x) else none
def znk (t : Jvm.ClassFile.ArrayType) : Nat := match t with
  | .int => 20
  | .long => 21
  | .boolean => 22
  | _ => 98
def zex (d m pc n : Nat) (lv st : List zV) (g : Nat) (w : zW) (i : Jvm.ClassFile.Instr) : Option zO := match i with
  | .iconst v => if n = 1 ∧ -1 ≤ v ∧ v ≤ 5 then zgo (pc + 1) lv ((0, v) :: st) g w else none
  | .bipush v => if n = 2 ∧ -128 ≤ v ∧ v ≤ 127 then zgo (pc + 2) lv ((0, v) :: st) g w else none
  | .sipush v => if n = 3 ∧ -32768 ≤ v ∧ v ≤ 32767 then zgo (pc + 3) lv ((0, v) :: st) g w else none
  | .lconst v => if n = 1 then zgo (pc + 1) lv ((1, ((v : Nat) : Int)) :: st) g w else none
  | .ldc2_w k => if n = 3 then (match (zKL (zcn m)).lookup k with | some v => zgo (pc + 3) lv ((1, v) :: st) g w | none => none) else none
  | .ldc k => if n = 2 then (match (zSL (zcn m)).lookup k with | some j => zgo (pc + 2) lv ((3, (j : Int)) :: st) g w | none => none) else none
  | .iload_n k => if n = 1 then (match zld 0 lv k with | some v => zgo (pc + 1) lv (v :: st) g w | none => none) else none
  | .iload k => if n = 2 then (match zld 0 lv k with | some v => zgo (pc + 2) lv (v :: st) g w | none => none) else none
  | .lload_n k => if n = 1 then (match zld 1 lv k with | some v => zgo (pc + 1) lv (v :: st) g w | none => none) else none
  | .lload k => if n = 2 then (match zld 1 lv k with | some v => zgo (pc + 2) lv (v :: st) g w | none => none) else none
  | .aload_n k => if n = 1 then (match zld 2 lv k with | some v => if 0 ≤ v.2 then zgo (pc + 1) lv (v :: st) g w else none | none => none) else none
  | .aload k => if n = 2 then (match zld 2 lv k with | some v => if 0 ≤ v.2 then zgo (pc + 2) lv (v :: st) g w else none | none => none) else none
  | .istore_n k => if n = 1 then (match st with | (0, x) :: st => (match zsto lv k (0, x) with | some lv => zgo (pc + 1) lv st g w | none => none) | _ => none) else none
  | .istore k => if n = 2 then (match st with | (0, x) :: st => (match zsto lv k (0, x) with | some lv => zgo (pc + 2) lv st g w | none => none) | _ => none) else none
  | .lstore_n k => if n = 1 then (match st with | (1, x) :: st => (match zstoL lv k (1, x) with | some lv => zgo (pc + 1) lv st g w | none => none) | _ => none) else none
  | .lstore k => if n = 2 then (match st with | (1, x) :: st => (match zstoL lv k (1, x) with | some lv => zgo (pc + 2) lv st g w | none => none) | _ => none) else none
  | .astore_n k => if n = 1 then (match st with | (2, x) :: st => if 0 ≤ x then (match zsto lv k (2, x) with | some lv => zgo (pc + 1) lv st g w | none => none) else none | _ => none) else none
  | .astore k => if n = 2 then (match st with | (2, x) :: st => if 0 ≤ x then (match zsto lv k (2, x) with | some lv => zgo (pc + 2) lv st g w | none => none) else none | _ => none) else none
  | .iinc k v => if n = 3 then (match zld 0 lv k with | some x => (match zsto lv k (0, w32 (x.2 + v)) with | some lv => zgo (pc + 3) lv st g w | none => none) | none => none) else none
  | .iadd => if n = 1 then (match st with | (0, y) :: (0, x) :: st => zgo (pc + 1) lv ((0, w32 (x + y)) :: st) g w | _ => none) else none
  | .isub => if n = 1 then (match st with | (0, y) :: (0, x) :: st => zgo (pc + 1) lv ((0, w32 (x - y)) :: st) g w | _ => none) else none
  | .imul => if n = 1 then (match st with | (0, y) :: (0, x) :: st => zgo (pc + 1) lv ((0, w32 (x * y)) :: st) g w | _ => none) else none
  | .iand => if n = 1 then (match st with | (0, y) :: (0, x) :: st => zgo (pc + 1) lv ((0, z_and x y) :: st) g w | _ => none) else none
  | .ior => if n = 1 then (match st with | (0, y) :: (0, x) :: st => zgo (pc + 1) lv ((0, z_or x y) :: st) g w | _ => none) else none
  | .ishl => if n = 1 then (match st with | (0, y) :: (0, x) :: st => zgo (pc + 1) lv ((0, z_shl x y) :: st) g w | _ => none) else none
  | .idiv => if n = 1 then (match st with | (0, y) :: (0, x) :: st => if y = 0 then none else zgo (pc + 1) lv ((0, z_div x y) :: st) g w | _ => none) else none
  | .irem => if n = 1 then (match st with | (0, y) :: (0, x) :: st => if y = 0 then none else zgo (pc + 1) lv ((0, z_rem x y) :: st) g w | _ => none) else none
  | .land => if n = 1 then (match st with | (1, y) :: (1, x) :: st => zgo (pc + 1) lv ((1, z_land x y) :: st) g w | _ => none) else none
  | .lor => if n = 1 then (match st with | (1, y) :: (1, x) :: st => zgo (pc + 1) lv ((1, z_lor x y) :: st) g w | _ => none) else none
  | .lmul => if n = 1 then (match st with | (1, y) :: (1, x) :: st => zgo (pc + 1) lv ((1, z_lmul x y) :: st) g w | _ => none) else none
  | .lsub => if n = 1 then (match st with | (1, y) :: (1, x) :: st => zgo (pc + 1) lv ((1, z_lsub x y) :: st) g w | _ => none) else none
  | .lshl => if n = 1 then (match st with | (0, y) :: (1, x) :: st => zgo (pc + 1) lv ((1, z_lshl x y) :: st) g w | _ => none) else none
  | .lshr => if n = 1 then (match st with | (0, y) :: (1, x) :: st => zgo (pc + 1) lv ((1, z_lshr x y) :: st) g w | _ => none) else none
  | .lushr => if n = 1 then (match st with | (0, y) :: (1, x) :: st => zgo (pc + 1) lv ((1, z_lushr x y) :: st) g w | _ => none) else none
  | .lcmp => if n = 1 then (match st with | (1, y) :: (1, x) :: st => zgo (pc + 1) lv ((0, z_cmp x y) :: st) g w | _ => none) else none
  | .i2l => if n = 1 then (match st with | (0, x) :: st => zgo (pc + 1) lv ((1, x) :: st) g w | _ => none) else none
  | .l2i => if n = 1 then (match st with | (1, x) :: st => zgo (pc + 1) lv ((0, z_l2i x) :: st) g w | _ => none) else none
  | .i2c => if n = 1 then (match st with | (0, x) :: st => zgo (pc + 1) lv ((0, z_i2c x) :: st) g w | _ => none) else none
  | .dup => if n = 1 then (match st with | v :: st => if v.1 = 1 then none else zgo (pc + 1) lv (v :: v :: st) g w | _ => none) else none
  | .dup2 => if n = 1 then (match st with | v :: u :: st => if v.1 = 1 ∨ u.1 = 1 then none else zgo (pc + 1) lv (v :: u :: v :: u :: st) g w | _ => none) else none
  | .pop => if n = 1 then (match st with | v :: st => if v.1 = 1 then none else zgo (pc + 1) lv st g w | _ => none) else none
  | .ifCond c off => if n = 3 ∧ 0 ≤ (pc : Int) + off then (match st with | (0, x) :: st => if zcond c x 0 = true then zgo ((pc : Int) + off).toNat lv st g w else zgo (pc + 3) lv st g w | _ => none) else none
  | .if_icmp c off => if n = 3 ∧ 0 ≤ (pc : Int) + off then (match st with | (0, y) :: (0, x) :: st => if zcond c x y = true then zgo ((pc : Int) + off).toNat lv st g w else zgo (pc + 3) lv st g w | _ => none) else none
  | .goto off => if n = 3 then zjmp pc off lv st g w else none
  | .tableswitch df lo hi offs => (match st with | (0, x) :: st => if x < lo ∨ hi < x then zjmp pc df lv st g w else (match offs[(x - lo).toNat]? with | some off => zjmp pc off lv st g w | none => none) | _ => none)
  | .lookupswitch df ps => (match st with | (0, x) :: st => if (ps.toList.zip (ps.toList.drop 1)).all (fun (a, next) => a.1 < next.1) = true then zjmp pc (zsw ps.toList df x) lv st g w else none | _ => none)
  | .getfield k => if n = 3 then (match st with | (2, a) :: st => (match zget m k a g w with | some v => zgo (pc + 3) lv (v :: st) g w | none => none) | _ => none) else none
  | .putfield k => if n = 3 then (match st with | v :: (2, a) :: st => (match zput m k a v g w with | some w => zgo (pc + 3) lv st g w | none => none) | _ => none) else none
  | .iaload => if n = 1 then (match st with | (0, i) :: (2, a) :: st => (match zald 20 a i g w with | some v => zgo (pc + 1) lv ((0, v) :: st) g w | none => none) | _ => none) else none
  | .laload => if n = 1 then (match st with | (0, i) :: (2, a) :: st => (match zald 21 a i g w with | some v => zgo (pc + 1) lv ((1, v) :: st) g w | none => none) | _ => none) else none
  | .baload => if n = 1 then (match st with | (0, i) :: (2, a) :: st => (match zald 22 a i g w with | some v => zgo (pc + 1) lv ((0, v) :: st) g w | none => none) | _ => none) else none
  | .iastore => if n = 1 then (match st with | (0, x) :: (0, i) :: (2, a) :: st => (match zast 20 a i x g w with | some w => zgo (pc + 1) lv st g w | none => none) | _ => none) else none
  | .lastore => if n = 1 then (match st with | (1, x) :: (0, i) :: (2, a) :: st => (match zast 21 a i x g w with | some w => zgo (pc + 1) lv st g w | none => none) | _ => none) else none
  | .bastore => if n = 1 then (match st with | (0, x) :: (0, i) :: (2, a) :: st => if x = 0 ∨ x = 1 then (match zast 22 a i x g w with | some w => zgo (pc + 1) lv st g w | none => none) else none | _ => none) else none
  | .arraylength => if n = 1 then (match st with | (2, a) :: st => if 0 ≤ a ∧ a < g ∧ 20 ≤ (zsh a).1 ∧ (zsh a).1 ≤ 22 then zgo (pc + 1) lv ((0, ((zsh a).2 : Int)) :: st) g w else none | _ => none) else none
  | .new k => if n = 3 then (match (zCL (zcn m)).lookup k with | some c => if zlm m = false ∧ c < 9 ∧ zsh g = (c, zNf c) then zgo (pc + 3) lv ((2, (g : Int)) :: st) (g + 1) (zblank w g (fun j => if ztg c j.toNat = 2 then -1 else 0)) else none | none => none) else none
  | .newarray t => if n = 2 then (match st with | (0, x) :: st => if zlm m = false ∧ 0 ≤ x ∧ zsh g = (znk t, x.toNat) then zgo (pc + 2) lv ((2, (g : Int)) :: st) (g + 1) (zblank w g (fun _ => 0)) else none | _ => none) else none
  | .invokevirtual k => if n = 3 then zinvoke d m k pc lv st g w 0 else none
  | .invokestatic k => if n = 3 then zinvoke d m k pc lv st g w 1 else none
  | .invokespecial k => if n = 3 then zinvoke d m k pc lv st g w 2 else none
  | .ireturn => if n = 1 then (match st with | [(0, x)] => if zrt m = some .int ∨ (zrt m = some .boolean ∧ (x = 0 ∨ x = 1)) then some (.inr (.inl (0, x))) else none | _ => none) else none
  | .lreturn => if n = 1 then (match st with | [(1, x)] => if zrt m = some .long then some (.inr (.inl (1, x))) else none | _ => none) else none
  | .return_ => if n = 1 then (match st with | [] => if zrt m = none then some (.inr (.inl (9, 0))) else none | _ => none) else none
  | _ => none
def zst (d m : Nat) (S : zS) : Option zO := match decode (zby m) S.1 with
  | .ok (i, n) => zex d m S.1 n S.2.1 S.2.2.1 S.2.2.2.1 S.2.2.2.2 i
  | .error _ => none
def zrun : Nat → Nat → Nat → zS → Option zR
  | 0, _, _, _ => none
  | n + 1, d, m, S => match zst d m S with
    | none => none
    | some (.inl S') => zrun n d m S'
    | some (.inr (.inl v)) => some (v, S.2.2.2.1, S.2.2.2.2)
    | some (.inr (.inr (m', as, rest))) => match d with
      | 0 => none
      | d' + 1 => match zrun n d' m' (0, zloc m' as, [], S.2.2.2.1, S.2.2.2.2) with
        | none => none
        | some r => zrun n (d' + 1) m (S.1 + 3, S.2.1, zpush r.1 rest, r.2.1, r.2.2)
