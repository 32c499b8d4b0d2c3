/-! equations of runs, an instruction each -/
def zob (a : Int) (c g : Nat) : Prop := 0 ≤ a ∧ a < g ∧ (zsh a).1 = c
section ZQ
variable {d m pc g : Nat} {lv st : List zV} {w : zW}
theorem Rn_st {i : Jvm.ClassFile.Instr} {n : Nat} (hd : decode (zby m) pc = .ok (i, n)) : Rn d m pc lv st g w = zgoR d m pc lv g w (zex d m pc n lv st g w i) := by
  rw [Rn_eq]
  unfold zst
  rw [hd]
theorem Rn_at {i : Jvm.ClassFile.Instr} {n : Nat} {o : Option zO} (hd : decode (zby m) pc = .ok (i, n)) (h : zex d m pc n lv st g w i = o) : Rn d m pc lv st g w = zgoR d m pc lv g w o := by rw [Rn_st hd, h]
theorem q_iconst {v : Int} (hd : decode (zby m) pc = .ok (.iconst v, 1)) (hv : -1 ≤ v ∧ v ≤ 5) : Rn d m pc lv st g w = Rn d m (pc + 1) lv ((0, v) :: st) g w := by
  rw [Rn_st hd]; dsimp only [zex]; rw [if_pos ⟨rfl, hv⟩]; rfl
theorem q_bipush {v : Int} (hd : decode (zby m) pc = .ok (.bipush v, 2)) (hv : -128 ≤ v ∧ v ≤ 127) : Rn d m pc lv st g w = Rn d m (pc + 2) lv ((0, v) :: st) g w := by
  rw [Rn_st hd]; dsimp only [zex]; rw [if_pos ⟨rfl, hv⟩]; rfl
theorem q_sipush {v : Int} (hd : decode (zby m) pc = .ok (.sipush v, 3)) (hv : -32768 ≤ v ∧ v ≤ 32767) : Rn d m pc lv st g w = Rn d m (pc + 3) lv ((0, v) :: st) g w := by
  rw [Rn_st hd]; dsimp only [zex]; rw [if_pos ⟨rfl, hv⟩]; rfl
theorem q_lconst {v : Fin 2} {x : Int} (hd : decode (zby m) pc = .ok (.lconst v, 1)) (hx : ((v : Nat) : Int) = x) : Rn d m pc lv st g w = Rn d m (pc + 1) lv ((1, x) :: st) g w := by
  subst hx
  rw [Rn_st hd]; rfl
theorem q_ldc2 {k : Nat} {v : Int} (hd : decode (zby m) pc = .ok (.ldc2_w k, 3)) (hl : (zKL (zcn m)).lookup k = some v) : Rn d m pc lv st g w = Rn d m (pc + 3) lv ((1, v) :: st) g w := by
  rw [Rn_st hd]; dsimp only [zex]; rw [if_pos rfl, hl]; rfl
theorem q_ldc {k j : Nat} {x : Int} (hd : decode (zby m) pc = .ok (.ldc k, 2)) (hl : (zSL (zcn m)).lookup k = some j) (hx : (j : Int) = x) : Rn d m pc lv st g w = Rn d m (pc + 2) lv ((3, x) :: st) g w := by
  subst hx
  rw [Rn_st hd]; dsimp only [zex]; rw [if_pos rfl, hl]; rfl
theorem q_iload_n {k : Fin 4} {v : zV} (hd : decode (zby m) pc = .ok (.iload_n k, 1)) (hl : zld 0 lv k = some v) : Rn d m pc lv st g w = Rn d m (pc + 1) lv (v :: st) g w := by
  rw [Rn_st hd]; dsimp only [zex]; rw [if_pos rfl, hl]; rfl
theorem q_iload {k : Nat} {v : zV} (hd : decode (zby m) pc = .ok (.iload k, 2)) (hl : zld 0 lv k = some v) : Rn d m pc lv st g w = Rn d m (pc + 2) lv (v :: st) g w := by
  rw [Rn_st hd]; dsimp only [zex]; rw [if_pos rfl, hl]; rfl
theorem q_lload_n {k : Fin 4} {v : zV} (hd : decode (zby m) pc = .ok (.lload_n k, 1)) (hl : zld 1 lv k = some v) : Rn d m pc lv st g w = Rn d m (pc + 1) lv (v :: st) g w := by
  rw [Rn_st hd]; dsimp only [zex]; rw [if_pos rfl, hl]; rfl
theorem q_lload {k : Nat} {v : zV} (hd : decode (zby m) pc = .ok (.lload k, 2)) (hl : zld 1 lv k = some v) : Rn d m pc lv st g w = Rn d m (pc + 2) lv (v :: st) g w := by
  rw [Rn_st hd]; dsimp only [zex]; rw [if_pos rfl, hl]; rfl
theorem q_aload_n {k : Fin 4} {v : zV} (hd : decode (zby m) pc = .ok (.aload_n k, 1)) (hl : zld 2 lv k = some v) (h0 : 0 ≤ v.2) : Rn d m pc lv st g w = Rn d m (pc + 1) lv (v :: st) g w := by
  rw [Rn_st hd]; dsimp only [zex]; rw [if_pos rfl, hl]; (try dsimp only); rw [if_pos h0]; rfl
theorem q_aload {k : Nat} {v : zV} (hd : decode (zby m) pc = .ok (.aload k, 2)) (hl : zld 2 lv k = some v) (h0 : 0 ≤ v.2) : Rn d m pc lv st g w = Rn d m (pc + 2) lv (v :: st) g w := by
  rw [Rn_st hd]; dsimp only [zex]; rw [if_pos rfl, hl]; (try dsimp only); rw [if_pos h0]; rfl
theorem q_istore_n {k : Fin 4} {x : Int} {lv' : List zV} (hd : decode (zby m) pc = .ok (.istore_n k, 1)) (hs : zsto lv k (0, x) = some lv') : Rn d m pc lv ((0, x) :: st) g w = Rn d m (pc + 1) lv' st g w := by
  rw [Rn_at hd (o := (match zsto lv k (0, x) with | some lv => zgo (pc + 1) lv st g w | none => none)) rfl]; rw [hs]; rfl
theorem q_istore {k : Nat} {x : Int} {lv' : List zV} (hd : decode (zby m) pc = .ok (.istore k, 2)) (hs : zsto lv k (0, x) = some lv') : Rn d m pc lv ((0, x) :: st) g w = Rn d m (pc + 2) lv' st g w := by
  rw [Rn_at hd (o := (match zsto lv k (0, x) with | some lv => zgo (pc + 2) lv st g w | none => none)) rfl]; rw [hs]; rfl
theorem q_lstore_n {k : Fin 4} {x : Int} {lv' : List zV} (hd : decode (zby m) pc = .ok (.lstore_n k, 1)) (hs : zstoL lv k (1, x) = some lv') : Rn d m pc lv ((1, x) :: st) g w = Rn d m (pc + 1) lv' st g w := by
  rw [Rn_at hd (o := (match zstoL lv k (1, x) with | some lv => zgo (pc + 1) lv st g w | none => none)) rfl]; rw [hs]; rfl
theorem q_lstore {k : Nat} {x : Int} {lv' : List zV} (hd : decode (zby m) pc = .ok (.lstore k, 2)) (hs : zstoL lv k (1, x) = some lv') : Rn d m pc lv ((1, x) :: st) g w = Rn d m (pc + 2) lv' st g w := by
  rw [Rn_at hd (o := (match zstoL lv k (1, x) with | some lv => zgo (pc + 2) lv st g w | none => none)) rfl]; rw [hs]; rfl
theorem q_astore_n {k : Fin 4} {x : Int} {lv' : List zV} (hd : decode (zby m) pc = .ok (.astore_n k, 1)) (hs : zsto lv k (2, x) = some lv') (h0 : 0 ≤ x) : Rn d m pc lv ((2, x) :: st) g w = Rn d m (pc + 1) lv' st g w := by
  rw [Rn_at hd (o := (if 0 ≤ x then (match zsto lv k (2, x) with | some lv => zgo (pc + 1) lv st g w | none => none) else none)) rfl]; rw [if_pos h0, hs]; rfl
theorem q_astore {k : Nat} {x : Int} {lv' : List zV} (hd : decode (zby m) pc = .ok (.astore k, 2)) (hs : zsto lv k (2, x) = some lv') (h0 : 0 ≤ x) : Rn d m pc lv ((2, x) :: st) g w = Rn d m (pc + 2) lv' st g w := by
  rw [Rn_at hd (o := (if 0 ≤ x then (match zsto lv k (2, x) with | some lv => zgo (pc + 2) lv st g w | none => none) else none)) rfl]; rw [if_pos h0, hs]; rfl
theorem q_iinc {k : Nat} {v : Int} {x : zV} {lv' : List zV} (hd : decode (zby m) pc = .ok (.iinc k v, 3)) (hl : zld 0 lv k = some x) (hs : zsto lv k (0, w32 (x.2 + v)) = some lv') : Rn d m pc lv st g w = Rn d m (pc + 3) lv' st g w := by
  rw [Rn_st hd]; dsimp only [zex]; rw [if_pos rfl, hl]; (try dsimp only); rw [hs]; rfl
theorem q_iadd {x y : Int} (hd : decode (zby m) pc = .ok (.iadd, 1)) : Rn d m pc lv ((0, y) :: (0, x) :: st) g w = Rn d m (pc + 1) lv ((0, w32 (x + y)) :: st) g w := by rw [Rn_st hd]; rfl
theorem q_isub {x y : Int} (hd : decode (zby m) pc = .ok (.isub, 1)) : Rn d m pc lv ((0, y) :: (0, x) :: st) g w = Rn d m (pc + 1) lv ((0, w32 (x - y)) :: st) g w := by rw [Rn_st hd]; rfl
theorem q_imul {x y : Int} (hd : decode (zby m) pc = .ok (.imul, 1)) : Rn d m pc lv ((0, y) :: (0, x) :: st) g w = Rn d m (pc + 1) lv ((0, w32 (x * y)) :: st) g w := by rw [Rn_st hd]; rfl
theorem q_iand {x y : Int} (hd : decode (zby m) pc = .ok (.iand, 1)) : Rn d m pc lv ((0, y) :: (0, x) :: st) g w = Rn d m (pc + 1) lv ((0, z_and x y) :: st) g w := by rw [Rn_st hd]; rfl
theorem q_ior {x y : Int} (hd : decode (zby m) pc = .ok (.ior, 1)) : Rn d m pc lv ((0, y) :: (0, x) :: st) g w = Rn d m (pc + 1) lv ((0, z_or x y) :: st) g w := by rw [Rn_st hd]; rfl
theorem q_ishl {x y : Int} (hd : decode (zby m) pc = .ok (.ishl, 1)) : Rn d m pc lv ((0, y) :: (0, x) :: st) g w = Rn d m (pc + 1) lv ((0, z_shl x y) :: st) g w := by rw [Rn_st hd]; rfl
theorem q_idiv {x y : Int} (hd : decode (zby m) pc = .ok (.idiv, 1)) (hy : y ≠ 0) : Rn d m pc lv ((0, y) :: (0, x) :: st) g w = Rn d m (pc + 1) lv ((0, z_div x y) :: st) g w := by
  rw [Rn_at hd (o := (if y = 0 then none else zgo (pc + 1) lv ((0, z_div x y) :: st) g w)) rfl]; rw [if_neg hy]; rfl
theorem q_irem {x y : Int} (hd : decode (zby m) pc = .ok (.irem, 1)) (hy : y ≠ 0) : Rn d m pc lv ((0, y) :: (0, x) :: st) g w = Rn d m (pc + 1) lv ((0, z_rem x y) :: st) g w := by
  rw [Rn_at hd (o := (if y = 0 then none else zgo (pc + 1) lv ((0, z_rem x y) :: st) g w)) rfl]; rw [if_neg hy]; rfl
theorem q_land {x y : Int} (hd : decode (zby m) pc = .ok (.land, 1)) : Rn d m pc lv ((1, y) :: (1, x) :: st) g w = Rn d m (pc + 1) lv ((1, z_land x y) :: st) g w := by rw [Rn_st hd]; rfl
theorem q_lor {x y : Int} (hd : decode (zby m) pc = .ok (.lor, 1)) : Rn d m pc lv ((1, y) :: (1, x) :: st) g w = Rn d m (pc + 1) lv ((1, z_lor x y) :: st) g w := by rw [Rn_st hd]; rfl
theorem q_lmul {x y : Int} (hd : decode (zby m) pc = .ok (.lmul, 1)) : Rn d m pc lv ((1, y) :: (1, x) :: st) g w = Rn d m (pc + 1) lv ((1, z_lmul x y) :: st) g w := by rw [Rn_st hd]; rfl
theorem q_lsub {x y : Int} (hd : decode (zby m) pc = .ok (.lsub, 1)) : Rn d m pc lv ((1, y) :: (1, x) :: st) g w = Rn d m (pc + 1) lv ((1, z_lsub x y) :: st) g w := by rw [Rn_st hd]; rfl
theorem q_lshl {x y : Int} (hd : decode (zby m) pc = .ok (.lshl, 1)) : Rn d m pc lv ((0, y) :: (1, x) :: st) g w = Rn d m (pc + 1) lv ((1, z_lshl x y) :: st) g w := by rw [Rn_st hd]; rfl
theorem q_lshr {x y : Int} (hd : decode (zby m) pc = .ok (.lshr, 1)) : Rn d m pc lv ((0, y) :: (1, x) :: st) g w = Rn d m (pc + 1) lv ((1, z_lshr x y) :: st) g w := by rw [Rn_st hd]; rfl
theorem q_lushr {x y : Int} (hd : decode (zby m) pc = .ok (.lushr, 1)) : Rn d m pc lv ((0, y) :: (1, x) :: st) g w = Rn d m (pc + 1) lv ((1, z_lushr x y) :: st) g w := by rw [Rn_st hd]; rfl
theorem q_lcmp {x y : Int} (hd : decode (zby m) pc = .ok (.lcmp, 1)) : Rn d m pc lv ((1, y) :: (1, x) :: st) g w = Rn d m (pc + 1) lv ((0, z_cmp x y) :: st) g w := by rw [Rn_st hd]; rfl
theorem q_i2l {x : Int} (hd : decode (zby m) pc = .ok (.i2l, 1)) : Rn d m pc lv ((0, x) :: st) g w = Rn d m (pc + 1) lv ((1, x) :: st) g w := by rw [Rn_st hd]; rfl
theorem q_l2i {x : Int} (hd : decode (zby m) pc = .ok (.l2i, 1)) : Rn d m pc lv ((1, x) :: st) g w = Rn d m (pc + 1) lv ((0, z_l2i x) :: st) g w := by rw [Rn_st hd]; rfl
theorem q_i2c {x : Int} (hd : decode (zby m) pc = .ok (.i2c, 1)) : Rn d m pc lv ((0, x) :: st) g w = Rn d m (pc + 1) lv ((0, z_i2c x) :: st) g w := by rw [Rn_st hd]; rfl
theorem q_dup {v : zV} (hd : decode (zby m) pc = .ok (.dup, 1)) (hv : v.1 ≠ 1) : Rn d m pc lv (v :: st) g w = Rn d m (pc + 1) lv (v :: v :: st) g w := by
  rw [Rn_at hd (o := (if v.1 = 1 then none else zgo (pc + 1) lv (v :: v :: st) g w)) rfl]; rw [if_neg hv]; rfl
theorem q_dup2 {v u : zV} (hd : decode (zby m) pc = .ok (.dup2, 1)) (hv : v.1 ≠ 1) (hu : u.1 ≠ 1) : Rn d m pc lv (v :: u :: st) g w = Rn d m (pc + 1) lv (v :: u :: v :: u :: st) g w := by
  rw [Rn_at hd (o := (if v.1 = 1 ∨ u.1 = 1 then none else zgo (pc + 1) lv (v :: u :: v :: u :: st) g w)) rfl]; rw [if_neg (fun e => e.elim hv hu)]; rfl
theorem q_pop {v : zV} (hd : decode (zby m) pc = .ok (.pop, 1)) (hv : v.1 ≠ 1) : Rn d m pc lv (v :: st) g w = Rn d m (pc + 1) lv st g w := by
  rw [Rn_at hd (o := (if v.1 = 1 then none else zgo (pc + 1) lv st g w)) rfl]; rw [if_neg hv]; rfl
theorem q_ifb {A B : Option zR} {c : Bool} {P : Prop} [Decidable P] (h : c = decide P) : (if c = true then A else B) = if P then A else B := by
  subst h
  by_cases hp : P
  · rw [if_pos hp, if_pos (decide_eq_true hp)]
  · rw [if_neg hp, if_neg (fun e => hp (of_decide_eq_true e))]
theorem zgoR_if {A B : Option zO} {c : Prop} [Decidable c] : zgoR d m pc lv g w (if c then A else B) = if c then zgoR d m pc lv g w A else zgoR d m pc lv g w B := by
  split <;> rfl
theorem q_ifc {cd : Jvm.ClassFile.Cond} {off : Int} {tgt : Nat} {x : Int} {P : Prop} [Decidable P] (hd : decode (zby m) pc = .ok (.ifCond cd off, 3)) (ht : (pc : Int) + off = (tgt : Int)) (hp : zcond cd x 0 = decide P) : Rn d m pc lv ((0, x) :: st) g w = if P then Rn d m tgt lv st g w else Rn d m (pc + 3) lv st g w := by
  rw [Rn_at hd (o := if 3 = 3 ∧ 0 ≤ (pc : Int) + off then (if zcond cd x 0 = true then zgo ((pc : Int) + off).toNat lv st g w else zgo (pc + 3) lv st g w) else none) rfl, if_pos ⟨rfl, by omega⟩, zgoR_if, ht]
  exact q_ifb hp
theorem q_icmp {cd : Jvm.ClassFile.Cond} {off : Int} {tgt : Nat} {x y : Int} {P : Prop} [Decidable P] (hd : decode (zby m) pc = .ok (.if_icmp cd off, 3)) (ht : (pc : Int) + off = (tgt : Int)) (hp : zcond cd x y = decide P) : Rn d m pc lv ((0, y) :: (0, x) :: st) g w = if P then Rn d m tgt lv st g w else Rn d m (pc + 3) lv st g w := by
  rw [Rn_at hd (o := if 3 = 3 ∧ 0 ≤ (pc : Int) + off then (if zcond cd x y = true then zgo ((pc : Int) + off).toNat lv st g w else zgo (pc + 3) lv st g w) else none) rfl, if_pos ⟨rfl, by omega⟩, zgoR_if, ht]
  exact q_ifb hp
theorem zjmp_at {off : Int} {tgt : Nat} (ht : (pc : Int) + off = (tgt : Int)) : zjmp pc off lv st g w = zgo tgt lv st g w := by
  unfold zjmp
  rw [if_pos (by omega), ht]
  rfl
theorem q_goto {off : Int} {tgt : Nat} (hd : decode (zby m) pc = .ok (.goto off, 3)) (ht : (pc : Int) + off = (tgt : Int)) : Rn d m pc lv st g w = Rn d m tgt lv st g w := by
  rw [Rn_st hd]; dsimp only [zex]; rw [if_pos rfl, zjmp_at ht]; rfl
theorem q_tab {df lo hi : Int} {offs : Array Int} {len : Nat} {x : Int} (hd : decode (zby m) pc = .ok (.tableswitch df lo hi offs, len)) : Rn d m pc lv ((0, x) :: st) g w = zgoR d m pc lv g w (if x < lo ∨ hi < x then zjmp pc df lv st g w else (match offs[(x - lo).toNat]? with | some off => zjmp pc off lv st g w | none => none)) := by
  rw [Rn_st hd]; rfl
theorem q_lsw {df : Int} {ps : Array (Int × Int)} {len : Nat} {x : Int} (hd : decode (zby m) pc = .ok (.lookupswitch df ps, len)) (hp : (ps.toList.zip (ps.toList.drop 1)).all (fun (a, next) => a.1 < next.1) = true) : Rn d m pc lv ((0, x) :: st) g w = zgoR d m pc lv g w (zjmp pc (zsw ps.toList df x) lv st g w) := by
  rw [Rn_at hd (o := (if (ps.toList.zip (ps.toList.drop 1)).all (fun (a, next) => a.1 < next.1) = true then zjmp pc (zsw ps.toList df x) lv st g w else none)) rfl]; rw [if_pos hp]
theorem q_getl {k c f : Nat} {a o : Int} (hd : decode (zby m) pc = .ok (.getfield k, 3)) (hl : (zFL (zcn m)).lookup k = some (c, f)) (hlm : zlm m = true) (hlk : zlk c f = some o) (hf : f < zNf c) (ha : zob a c g) : Rn d m pc lv ((2, a) :: st) g w = Rn d m (pc + 3) lv ((2, a + o) :: st) g w := by
  rw [Rn_at hd (o := (match zget m k a g w with | some v => zgo (pc + 3) lv (v :: st) g w | none => none)) rfl]; unfold zget; rw [hl]; dsimp only; rw [if_pos ⟨ha.1, ha.2.1, ha.2.2, hf⟩, hlm, hlk]; rfl
theorem q_getf {k c f : Nat} {a : Int} {t : Nat} (hd : decode (zby m) pc = .ok (.getfield k, 3)) (hl : (zFL (zcn m)).lookup k = some (c, f)) (hlk : zlm m = false ∨ zlk c f = none) (hf : f < zNf c) (ht : ztg c f = t) (ha : zob a c g) : Rn d m pc lv ((2, a) :: st) g w = Rn d m (pc + 3) lv ((t, w a f) :: st) g w := by
  subst ht
  rw [Rn_at hd (o := (match zget m k a g w with | some v => zgo (pc + 3) lv (v :: st) g w | none => none)) rfl]; unfold zget; rw [hl]; dsimp only; rw [if_pos ⟨ha.1, ha.2.1, ha.2.2, hf⟩]
  rcases hlk with h | h
  · rw [h]; rfl
  · rw [h]; cases zlm m <;> rfl
theorem q_putf {k c f : Nat} {a : Int} {v : zV} (hd : decode (zby m) pc = .ok (.putfield k, 3)) (hl : (zFL (zcn m)).lookup k = some (c, f)) (hf : f < zNf c) (ht : ztg c f = v.1) (hlk : zlm m = true → zlk c f = none) (hfi : (zTt c f).2.2.2 = true → zlm m = false ∧ c = zcn m ∧ (zyn m).name = "<init>") (ha : zob a c g) (hb : zty c f = .boolean → v.2 = 0 ∨ v.2 = 1) : Rn d m pc lv (v :: (2, a) :: st) g w = Rn d m (pc + 3) lv st g (zup w a f v.2) := by
  rw [Rn_at hd (o := (match zput m k a v g w with | some w => zgo (pc + 3) lv st g w | none => none)) rfl]; unfold zput; rw [hl]; dsimp only; rw [if_pos ⟨ha.1, ha.2.1, ha.2.2, hf, ht, hb, hlk, hfi⟩]; rfl
theorem q_iaload {a i : Int} (hd : decode (zby m) pc = .ok (.iaload, 1)) (ha : zob a 20 g) (h0 : 0 ≤ i) (h1 : i < (zsh a).2) : Rn d m pc lv ((0, i) :: (2, a) :: st) g w = Rn d m (pc + 1) lv ((0, w a i) :: st) g w := by
  rw [Rn_at hd (o := (match zald 20 a i g w with | some v => zgo (pc + 1) lv ((0, v) :: st) g w | none => none)) rfl]; unfold zald; rw [if_pos ⟨ha.1, ha.2.1, ha.2.2, h0, h1⟩]; rfl
theorem q_laload {a i : Int} (hd : decode (zby m) pc = .ok (.laload, 1)) (ha : zob a 21 g) (h0 : 0 ≤ i) (h1 : i < (zsh a).2) : Rn d m pc lv ((0, i) :: (2, a) :: st) g w = Rn d m (pc + 1) lv ((1, w a i) :: st) g w := by
  rw [Rn_at hd (o := (match zald 21 a i g w with | some v => zgo (pc + 1) lv ((1, v) :: st) g w | none => none)) rfl]; unfold zald; rw [if_pos ⟨ha.1, ha.2.1, ha.2.2, h0, h1⟩]; rfl
theorem q_baload {a i : Int} (hd : decode (zby m) pc = .ok (.baload, 1)) (ha : zob a 22 g) (h0 : 0 ≤ i) (h1 : i < (zsh a).2) : Rn d m pc lv ((0, i) :: (2, a) :: st) g w = Rn d m (pc + 1) lv ((0, w a i) :: st) g w := by
  rw [Rn_at hd (o := (match zald 22 a i g w with | some v => zgo (pc + 1) lv ((0, v) :: st) g w | none => none)) rfl]; unfold zald; rw [if_pos ⟨ha.1, ha.2.1, ha.2.2, h0, h1⟩]; rfl
theorem q_iastore {a i x : Int} (hd : decode (zby m) pc = .ok (.iastore, 1)) (ha : zob a 20 g) (h0 : 0 ≤ i) (h1 : i < (zsh a).2) : Rn d m pc lv ((0, x) :: (0, i) :: (2, a) :: st) g w = Rn d m (pc + 1) lv st g (zup w a i x) := by
  rw [Rn_at hd (o := (match zast 20 a i x g w with | some w => zgo (pc + 1) lv st g w | none => none)) rfl]; unfold zast; rw [if_pos ⟨ha.1, ha.2.1, ha.2.2, h0, h1⟩]; rfl
theorem q_lastore {a i x : Int} (hd : decode (zby m) pc = .ok (.lastore, 1)) (ha : zob a 21 g) (h0 : 0 ≤ i) (h1 : i < (zsh a).2) : Rn d m pc lv ((1, x) :: (0, i) :: (2, a) :: st) g w = Rn d m (pc + 1) lv st g (zup w a i x) := by
  rw [Rn_at hd (o := (match zast 21 a i x g w with | some w => zgo (pc + 1) lv st g w | none => none)) rfl]; unfold zast; rw [if_pos ⟨ha.1, ha.2.1, ha.2.2, h0, h1⟩]; rfl
theorem q_bastore {a i x : Int} (hd : decode (zby m) pc = .ok (.bastore, 1)) (ha : zob a 22 g) (h0 : 0 ≤ i) (h1 : i < (zsh a).2) (hx : x = 0 ∨ x = 1) : Rn d m pc lv ((0, x) :: (0, i) :: (2, a) :: st) g w = Rn d m (pc + 1) lv st g (zup w a i x) := by
  rw [Rn_at hd (o := (if x = 0 ∨ x = 1 then (match zast 22 a i x g w with | some w => zgo (pc + 1) lv st g w | none => none) else none)) rfl]; unfold zast; rw [if_pos hx, if_pos ⟨ha.1, ha.2.1, ha.2.2, h0, h1⟩]; rfl
theorem q_alen {a : Int} (hd : decode (zby m) pc = .ok (.arraylength, 1)) (h0 : 0 ≤ a) (hg : a < g) (h1 : 20 ≤ (zsh a).1 ∧ (zsh a).1 ≤ 22) : Rn d m pc lv ((2, a) :: st) g w = Rn d m (pc + 1) lv ((0, ((zsh a).2 : Int)) :: st) g w := by
  rw [Rn_at hd (o := (if 0 ≤ a ∧ a < g ∧ 20 ≤ (zsh a).1 ∧ (zsh a).1 ≤ 22 then zgo (pc + 1) lv ((0, ((zsh a).2 : Int)) :: st) g w else none)) rfl]; rw [if_pos ⟨h0, hg, h1.1, h1.2⟩]; rfl
theorem q_new {k c : Nat} (hd : decode (zby m) pc = .ok (.new k, 3)) (hl : (zCL (zcn m)).lookup k = some c) (h : zlm m = false ∧ c < 9 ∧ zsh g = (c, zNf c)) : Rn d m pc lv st g w = Rn d m (pc + 3) lv ((2, (g : Int)) :: st) (g + 1) (zblank w g (fun j => if ztg c j.toNat = 2 then -1 else 0)) := by
  rw [Rn_st hd]; dsimp only [zex]; rw [if_pos rfl, hl]; (try dsimp only); rw [if_pos h]; rfl
theorem q_newarray {t : Jvm.ClassFile.ArrayType} {x : Int} (hd : decode (zby m) pc = .ok (.newarray t, 2)) (h : zlm m = false ∧ 0 ≤ x ∧ zsh g = (znk t, x.toNat)) : Rn d m pc lv ((0, x) :: st) g w = Rn d m (pc + 2) lv ((2, (g : Int)) :: st) (g + 1) (zblank w g (fun _ => 0)) := by
  rw [Rn_at hd (o := (if zlm m = false ∧ 0 ≤ x ∧ zsh g = (znk t, x.toNat) then zgo (pc + 2) lv ((2, (g : Int)) :: st) (g + 1) (zblank w g (fun _ => 0)) else none)) rfl]; rw [if_pos h]; rfl
theorem q_objInit {k n m' : Nat} {a : Int} (hd : decode (zby m) pc = .ok (.invokespecial k, 3)) (hl : (zML (zcn m)).lookup k = some (m', 20, n)) (ha : 0 ≤ a ∧ a < g) (hz : zcat st ≤ 8) : Rn (d + 1) m pc lv ((2, a) :: st) g w = Rn (d + 1) m (pc + 3) lv st g w := by
  rw [Rn_at hd (o := zinvoke (d + 1) m k pc lv ((2, a) :: st) g w 2) rfl]; unfold zinvoke; rw [hl]; dsimp only; rw [if_pos rfl, if_pos ⟨rfl, by omega⟩]; show zgoR _ _ _ _ _ _ (if 0 ≤ a ∧ a < g ∧ zcat st ≤ 8 then zgo (pc + 3) lv st g w else none) = _; rw [if_pos ⟨ha.1, ha.2, hz⟩]; rfl
theorem q_max {k n m' : Nat} {x y : Int} (hd : decode (zby m) pc = .ok (.invokestatic k, 3)) (hl : (zML (zcn m)).lookup k = some (m', 21, n)) (hz : zcat st ≤ 8) : Rn (d + 1) m pc lv ((0, y) :: (0, x) :: st) g w = Rn (d + 1) m (pc + 3) lv ((0, z_max x y) :: st) g w := by
  rw [Rn_at hd (o := zinvoke (d + 1) m k pc lv ((0, y) :: (0, x) :: st) g w 1) rfl]; unfold zinvoke; rw [hl]; dsimp only; rw [if_neg (by decide), if_pos rfl, if_pos ⟨rfl, by omega⟩]; show zgoR _ _ _ _ _ _ (if zcat st ≤ 8 then zgo (pc + 3) lv ((0, z_max x y) :: st) g w else none) = _; rw [if_pos hz]; rfl
theorem q_min {k n m' : Nat} {x y : Int} (hd : decode (zby m) pc = .ok (.invokestatic k, 3)) (hl : (zML (zcn m)).lookup k = some (m', 22, n)) (hz : zcat st ≤ 8) : Rn (d + 1) m pc lv ((0, y) :: (0, x) :: st) g w = Rn (d + 1) m (pc + 3) lv ((0, z_min x y) :: st) g w := by
  rw [Rn_at hd (o := zinvoke (d + 1) m k pc lv ((0, y) :: (0, x) :: st) g w 1) rfl]; unfold zinvoke; rw [hl]; dsimp only; rw [if_neg (by decide), if_neg (by decide), if_pos rfl, if_pos ⟨rfl, by omega⟩]; show zgoR _ _ _ _ _ _ (if zcat st ≤ 8 then zgo (pc + 3) lv ((0, z_min x y) :: st) g w else none) = _; rw [if_pos hz]; rfl
theorem q_idx {k n m' : Nat} {x i : Int} (hd : decode (zby m) pc = .ok (.invokevirtual k, 3)) (hl : (zML (zcn m)).lookup k = some (m', 23, n)) (hi : 0 ≤ i ∧ i < 3) (hz : zcat st ≤ 8) : Rn (d + 5) m pc lv ((0, x) :: (3, i) :: st) g w = Rn (d + 5) m (pc + 3) lv ((0, zix i.toNat x) :: st) g w := by
  rw [Rn_at hd (o := zinvoke (d + 5) m k pc lv ((0, x) :: (3, i) :: st) g w 0) rfl]; unfold zinvoke; rw [hl]; dsimp only; rw [if_neg (by decide), if_neg (by decide), if_neg (by decide), if_pos rfl, if_pos ⟨rfl, by omega⟩]; show zgoR _ _ _ _ _ _ (if 0 ≤ i ∧ i < 3 ∧ zcat st ≤ 8 then zgo (pc + 3) lv ((0, zix i.toNat x) :: st) g w else none) = _; rw [if_pos ⟨hi.1, hi.2, hz⟩]; rfl
theorem q_callS {k n m' kd : Nat} {as : List zV} (hd : decode (zby m) pc = .ok (.invokestatic k, 3)) (hl : (zML (zcn m)).lookup k = some (m', kd, n)) (hkd : (kd ≠ 20 ∧ kd ≠ 21 ∧ kd ≠ 22 ∧ kd ≠ 23) ∧ kd % 10 = 1) (hlm : zlm m = true ∧ zlm m' = true) (hn : as.length = n) (hf : (zflat as).length ≤ zmx m') (hz : zcat st ≤ 8) : Rn (d + 1) m pc lv (as.reverse ++ st) g w = (Cl d m' as g w).bind (fun r => Rn (d + 1) m (pc + 3) lv (zpush r.1 st) r.2.1 r.2.2) := by
  have e1 : (as.reverse ++ st).take n = as.reverse := by rw [← hn, ← List.length_reverse, List.take_left]
  have e2 : (as.reverse ++ st).drop n = st := by rw [← hn, ← List.length_reverse, List.drop_left]
  have e3 : zcall m m' n false (as.reverse ++ st) g w = some (.inr (.inr (m', as, st))) := by
    unfold zcall zmode
    rw [if_pos ⟨by rw [hlm.2, hlm.1]; rfl, by rw [List.length_append, List.length_reverse]; omega⟩]
    dsimp only
    rw [e1, e2, List.reverse_reverse, if_pos ⟨hz, hf⟩]
  rw [Rn_st hd]; dsimp only [zex]; unfold zinvoke; rw [if_pos rfl, hl]; (try dsimp only); rw [if_neg hkd.1.1, if_neg hkd.1.2.1, if_neg hkd.1.2.2.1, if_neg hkd.1.2.2.2, if_pos hkd.2]
  show zgoR _ _ _ _ _ _ (zcall m m' n false (as.reverse ++ st) g w) = _
  rw [e3]
  rfl
theorem zcallV {m' n : Nat} {as : List zV} {a : Int} (hmo : zmode m m' g w = true) (hn : as.length = n) (hf : (zflat ((2, a) :: as)).length ≤ zmx m') (ha : zob a (zcn m') g) (hz : zcat st ≤ 8) : zcall m m' n true (as.reverse ++ (2, a) :: st) g w = some (.inr (.inr (m', (2, a) :: as, st))) := by
  have e1 : (as.reverse ++ (2, a) :: st).take n = as.reverse := by rw [← hn, ← List.length_reverse, List.take_left]
  have e2 : (as.reverse ++ (2, a) :: st).drop n = (2, a) :: st := by rw [← hn, ← List.length_reverse, List.drop_left]
  unfold zcall
  rw [if_pos ⟨hmo, by rw [List.length_append, List.length_reverse]; omega⟩]
  rw [e1, e2, List.reverse_reverse]
  show (if 0 ≤ a ∧ a < g ∧ (zsh a).1 = zcn m' ∧ zcat st ≤ 8 ∧ (zflat ((2, a) :: as)).length ≤ zmx m' then (some (Sum.inr (Sum.inr (m', (2, a) :: as, st))) : Option zO) else none) = _
  rw [if_pos ⟨ha.1, ha.2.1, ha.2.2, hz, hf⟩]
theorem q_callV {k n m' kd : Nat} {as : List zV} {a : Int} (hd : decode (zby m) pc = .ok (.invokevirtual k, 3)) (hl : (zML (zcn m)).lookup k = some (m', kd, n)) (hkd : (kd ≠ 20 ∧ kd ≠ 21 ∧ kd ≠ 22 ∧ kd ≠ 23) ∧ kd % 10 = 0) (hmo : zmode m m' g w = true) (hn : as.length = n) (hf : (zflat ((2, a) :: as)).length ≤ zmx m') (ha : zob a (zcn m') g) (hz : zcat st ≤ 8) : Rn (d + 1) m pc lv (as.reverse ++ (2, a) :: st) g w = (Cl d m' ((2, a) :: as) g w).bind (fun r => Rn (d + 1) m (pc + 3) lv (zpush r.1 st) r.2.1 r.2.2) := by
  rw [Rn_st hd]; dsimp only [zex]; unfold zinvoke; rw [if_pos rfl, hl]; (try dsimp only); rw [if_neg hkd.1.1, if_neg hkd.1.2.1, if_neg hkd.1.2.2.1, if_neg hkd.1.2.2.2, if_pos hkd.2]
  show zgoR _ _ _ _ _ _ (zcall m m' n true (as.reverse ++ (2, a) :: st) g w) = _
  rw [zcallV hmo hn hf ha hz]
  rfl
theorem q_callI {k n m' kd : Nat} {as : List zV} {a : Int} (hd : decode (zby m) pc = .ok (.invokespecial k, 3)) (hl : (zML (zcn m)).lookup k = some (m', kd, n)) (hkd : (kd ≠ 20 ∧ kd ≠ 21 ∧ kd ≠ 22 ∧ kd ≠ 23) ∧ kd % 10 = 2) (hmo : zmode m m' g w = true) (hn : as.length = n) (hf : (zflat ((2, a) :: as)).length ≤ zmx m') (ha : zob a (zcn m') g) (hz : zcat st ≤ 8) : Rn (d + 1) m pc lv (as.reverse ++ (2, a) :: st) g w = (Cl d m' ((2, a) :: as) g w).bind (fun r => Rn (d + 1) m (pc + 3) lv (zpush r.1 st) r.2.1 r.2.2) := by
  rw [Rn_st hd]; dsimp only [zex]; unfold zinvoke; rw [if_pos rfl, hl]; (try dsimp only); rw [if_neg hkd.1.1, if_neg hkd.1.2.1, if_neg hkd.1.2.2.1, if_neg hkd.1.2.2.2, if_pos hkd.2]
  show zgoR _ _ _ _ _ _ (zcall m m' n true (as.reverse ++ (2, a) :: st) g w) = _
  rw [zcallV hmo hn hf ha hz]
  rfl
theorem q_iret {x : Int} (hd : decode (zby m) pc = .ok (.ireturn, 1)) (hr : zrt m = some .int) : Rn d m pc lv [(0, x)] g w = some ((0, x), g, w) := by
  rw [Rn_at hd (o := (if zrt m = some .int ∨ (zrt m = some .boolean ∧ (x = 0 ∨ x = 1)) then some (.inr (.inl (0, x))) else none)) rfl]; rw [if_pos (Or.inl hr)]; rfl
theorem q_zret {x : Int} (hd : decode (zby m) pc = .ok (.ireturn, 1)) (hr : zrt m = some .boolean) (hx : x = 0 ∨ x = 1) : Rn d m pc lv [(0, x)] g w = some ((0, x), g, w) := by
  rw [Rn_at hd (o := (if zrt m = some .int ∨ (zrt m = some .boolean ∧ (x = 0 ∨ x = 1)) then some (.inr (.inl (0, x))) else none)) rfl]; rw [if_pos (Or.inr ⟨hr, hx⟩)]; rfl
theorem q_lret {x : Int} (hd : decode (zby m) pc = .ok (.lreturn, 1)) (hr : zrt m = some .long) : Rn d m pc lv [(1, x)] g w = some ((1, x), g, w) := by
  rw [Rn_at hd (o := (if zrt m = some .long then some (.inr (.inl (1, x))) else none)) rfl]; rw [if_pos (hr)]; rfl
theorem q_vret (hd : decode (zby m) pc = .ok (.return_, 1)) (hr : zrt m = none) : Rn d m pc lv [] g w = some ((9, 0), g, w) := by
  rw [Rn_at hd (o := (if zrt m = none then some (.inr (.inl (9, 0))) else none)) rfl]; rw [if_pos (hr)]; rfl
theorem zpush_i (x : Int) (st : List zV) : zpush (0, x) st = (0, x) :: st := rfl
theorem zpush_l (x : Int) (st : List zV) : zpush (1, x) st = (1, x) :: st := rfl
theorem zpush_v (x : Int) (st : List zV) : zpush (9, x) st = st := rfl
end ZQ
