theorem z_look {α : Type} {k : Nat} {v : α} : ∀ {l : List (Nat × α)}, l.lookup k = some v → (k, v) ∈ l
  | [], h => by simp at h
  | (a, x) :: l, h => by
    rw [List.lookup_cons] at h
    by_cases e : k = a
    · subst e
      simp at h
      rw [h]
      exact List.mem_cons_self
    · have e2 : (k == a) = false := by simpa using e
      rw [e2] at h
      exact List.mem_cons_of_mem _ (z_look h)
theorem zld_spec {t : Nat} {lv : List zV} {i : Nat} {v : zV} (h : zld t lv i = some v) : lv[i]? = some v ∧ v.1 = t := by
  unfold zld at h
  split at h
  next u hu =>
    by_cases e : u.1 = t
    · rw [if_pos e] at h
      cases h
      exact ⟨hu, e⟩
    · rw [if_neg e] at h
      cases h
  next => cases h
theorem zcv_ref {b : Nat} {sa : Nat → Nat} {x : Int} (h : 0 ≤ x) : zcv b sa (2, x) = .ref (b + x.toNat) := by
  show (if x < 0 then _ else _) = _
  rw [if_neg (by omega)]
theorem zcv_cat {b : Nat} {sa : Nat → Nat} {v : zV} (h : v.1 ≠ 1) : (zcv b sa v).category = 1 := by
  obtain ⟨t, x⟩ := v
  unfold zcv
  split
  · rfl
  · exact absurd (by assumption) h
  · split <;> rfl
  · rfl
theorem zcv_cat1 {b : Nat} {sa : Nat → Nat} {v : zV} (h : v.1 = 1) : (zcv b sa v).category = 2 := by
  obtain ⟨t, x⟩ := v
  cases h
  rfl
theorem zcat_sum {b : Nat} {sa : Nat → Nat} (st : List zV) : ((st.map (zcv b sa)).map fun v => v.category).sum = zcat st := by
  unfold zcat
  rw [List.map_map]
  congr 1
  apply List.map_congr_left
  intro v _
  show (zcv b sa v).category = if v.1 = 1 then 2 else 1
  by_cases h : v.1 = 1
  · rw [if_pos h, zcv_cat1 h]
  · rw [if_neg h, zcv_cat h]
def zA (b : Nat) (sa : Nat → Nat) (lv : List zV) : List (Nat × Value) := (List.range lv.length).filterMap (fun j => (lv[j]?).bind (fun v => if v.1 < 4 then some (j, zcv b sa v) else none))
theorem zA_mem {b : Nat} {sa : Nat → Nat} {lv : List zV} {q : Nat × Value} : q ∈ zA b sa lv ↔ ∃ v, lv[q.1]? = some v ∧ v.1 < 4 ∧ q.2 = zcv b sa v := by
  unfold zA
  rw [List.mem_filterMap]
  constructor
  · rintro ⟨j, hj, h⟩
    cases hv : lv[j]? with
    | none => rw [hv] at h; cases h
    | some v =>
      rw [hv] at h
      simp only [Option.bind_some] at h
      by_cases h4 : v.1 < 4
      · rw [if_pos h4] at h
        cases h
        exact ⟨v, hv, h4, rfl⟩
      · rw [if_neg h4] at h
        cases h
  · rintro ⟨v, hv, h4, e⟩
    refine ⟨q.1, List.mem_range.mpr (List.getElem?_eq_some_iff.mp hv).1, ?_⟩
    rw [hv]
    simp only [Option.bind_some]
    rw [if_pos h4, ← e]
theorem zLV.has {b : Nat} {sa : Nat → Nat} {ls : Array Slot} {nL : Nat} {lv : List zV} (h : zLV b sa ls nL lv) : lv_has ls nL (zA b sa lv) := by
  refine ⟨h.1, h.2.1, fun q hq => ?_⟩
  obtain ⟨v, h1, h2, h3⟩ := zA_mem.mp hq
  rw [h3]
  exact (h.2.2.2 q.1 v h1 h2).1
theorem zLV.sto {b : Nat} {sa : Nat → Nat} {ls ls' : Array Slot} {nL : Nat} {lv lv' : List zV} {i : Nat} {v : zV} (h : zLV b sa ls nL lv) (hs : zsto lv i v = some lv') (hv : zin v)
    (h' : lv_has ls' nL ((i, zcv b sa v) :: (zA b sa lv).filter (fun q => !(q.1 == i) && !(q.1 + 1 == i && q.2.category == 2)))) : zLV b sa ls' nL lv' := by
  unfold zsto at hs
  split at hs
  next hc =>
    cases hs
    refine ⟨h'.1, h'.2.1, by rw [List.length_set]; exact h.2.2.1, fun j u hj h4 => ?_⟩
    by_cases e : j = i
    · subst e
      rw [List.getElem?_set_self hc.1] at hj
      cases hj
      exact ⟨h'.2.2 (j, zcv b sa v) List.mem_cons_self, hv⟩
    · rw [List.getElem?_set_ne (Ne.symm e)] at hj
      refine ⟨h'.2.2 (j, zcv b sa u) (List.mem_cons_of_mem _ (List.mem_filter.mpr ⟨zA_mem.mpr ⟨u, hj, h4, rfl⟩, ?_⟩)), (h.2.2.2 j u hj h4).2⟩
      have e1 : (j == i) = false := by simpa using e
      rw [show ((j, zcv b sa u) : Nat × Value).1 = j from rfl, show ((j, zcv b sa u) : Nat × Value).2 = zcv b sa u from rfl, e1]
      by_cases e2 : j + 1 = i
      · have hu : u.1 ≠ 1 := by
          rcases hc.2 with h0 | h0
          · omega
          · intro hu
            apply h0
            unfold ztag
            rw [show i - 1 = j by omega, List.getD_eq_getElem?_getD, hj]
            exact hu
        rw [zcv_cat hu]
        simp
      · have e3 : (j + 1 == i) = false := by simpa using e2
        rw [e3]
        rfl
  next => cases hs
theorem zLV.stoL {b : Nat} {sa : Nat → Nat} {ls ls' : Array Slot} {nL : Nat} {lv lv' : List zV} {i : Nat} {v : zV} (h : zLV b sa ls nL lv) (hs : zstoL lv i v = some lv') (hv : zin v)
    (h' : lv_has ls' nL ((i, zcv b sa v) :: (zA b sa lv).filter (fun q => !(q.1 == i) && (!(q.1 == i + 1) && !(q.1 + 1 == i && q.2.category == 2))))) : zLV b sa ls' nL lv' := by
  unfold zstoL at hs
  split at hs
  next hc =>
    cases hs
    refine ⟨h'.1, h'.2.1, by rw [List.length_set, List.length_set]; exact h.2.2.1, fun j u hj h4 => ?_⟩
    by_cases e0 : j = i + 1
    · subst e0
      rw [List.getElem?_set_self (by rw [List.length_set]; exact hc.1)] at hj
      cases hj
      exact absurd h4 (by decide)
    · rw [List.getElem?_set_ne (Ne.symm e0)] at hj
      by_cases e : j = i
      · subst e
        rw [List.getElem?_set_self (by omega)] at hj
        cases hj
        exact ⟨h'.2.2 (j, zcv b sa v) List.mem_cons_self, hv⟩
      · rw [List.getElem?_set_ne (Ne.symm e)] at hj
        refine ⟨h'.2.2 (j, zcv b sa u) (List.mem_cons_of_mem _ (List.mem_filter.mpr ⟨zA_mem.mpr ⟨u, hj, h4, rfl⟩, ?_⟩)), (h.2.2.2 j u hj h4).2⟩
        have e1 : (j == i) = false := by simpa using e
        have e4 : (j == i + 1) = false := by simpa using e0
        rw [show ((j, zcv b sa u) : Nat × Value).1 = j from rfl, show ((j, zcv b sa u) : Nat × Value).2 = zcv b sa u from rfl, e1, e4]
        by_cases e2 : j + 1 = i
        · have hu : u.1 ≠ 1 := by
            rcases hc.2 with h0 | h0
            · omega
            · intro hu
              apply h0
              unfold ztag
              rw [show i - 1 = j by omega, List.getD_eq_getElem?_getD, hj]
              exact hu
          rw [zcv_cat hu]
          simp
        · have e3 : (j + 1 == i) = false := by simpa using e2
          rw [e3]
          rfl
  next => cases hs
theorem zsto_lt {lv lv' : List zV} {i : Nat} {v : zV} (hs : zsto lv i v = some lv') : i < lv.length := by
  unfold zsto at hs
  split at hs
  next hc => exact hc.1
  next => cases hs
theorem zstoL_lt {lv lv' : List zV} {i : Nat} {v : zV} (hs : zstoL lv i v = some lv') : i + 1 < lv.length := by
  unfold zstoL at hs
  split at hs
  next hc => exact hc.1
  next => cases hs
section Z2
variable {p : Program} {l : Launch} {e : Env} {R : Room} {s : State} {mth : MethodId} {args : Array Value} {below : List Frame} {meth : Method} {c : Code} {D : va_G} {ids : Nat → ClassId} {b : Nat} {sa adV : Nat → Nat} {n0 nE d m : Nat} {Q : State → Prop} {pc : Nat} {lv st : List zV} {g : Nat} {w : zW}
theorem z_iload_n (C : zCx p R s mth args meth c D ids b sa adV n0 nE d m) {k : Fin 4} {v : zV} (hl : zld 0 lv k = some v) (hd : decode (zby m) pc = .ok (.iload_n k, 1)) (kk : zWW p l e R s mth args below meth c D ids b sa n0 m Q (pc + 1) lv (v :: st) g w) : zWW p l e R s mth args below meth c D ids b sa n0 m Q pc lv st g w := by
  obtain ⟨t, x⟩ := v
  obtain ⟨h1, h2⟩ := zld_spec hl
  cases h2
  exact z_pure (fun H locs ls cells slots hL hS k => lv_iload_n C.1 C.2.1 hd rfl (hL.2.2.2 _ _ h1 t4).1 k) (fun h hv => h.cons t4 (hv _ _ h1 t4)) kk
theorem z_iload (C : zCx p R s mth args meth c D ids b sa adV n0 nE d m) {k : Nat} {v : zV} (hl : zld 0 lv k = some v) (hd : decode (zby m) pc = .ok (.iload k, 2)) (kk : zWW p l e R s mth args below meth c D ids b sa n0 m Q (pc + 2) lv (v :: st) g w) : zWW p l e R s mth args below meth c D ids b sa n0 m Q pc lv st g w := by
  obtain ⟨t, x⟩ := v
  obtain ⟨h1, h2⟩ := zld_spec hl
  cases h2
  exact z_pure (fun H locs ls cells slots hL hS k => lv_iload C.1 C.2.1 hd (hL.2.2.2 _ _ h1 t4).1 k) (fun h hv => h.cons t4 (hv _ _ h1 t4)) kk
theorem z_lload_n (C : zCx p R s mth args meth c D ids b sa adV n0 nE d m) {k : Fin 4} {v : zV} (hl : zld 1 lv k = some v) (hd : decode (zby m) pc = .ok (.lload_n k, 1)) (kk : zWW p l e R s mth args below meth c D ids b sa n0 m Q (pc + 1) lv (v :: st) g w) : zWW p l e R s mth args below meth c D ids b sa n0 m Q pc lv st g w := by
  obtain ⟨t, x⟩ := v
  obtain ⟨h1, h2⟩ := zld_spec hl
  cases h2
  exact z_pure (fun H locs ls cells slots hL hS k => lv_lload_n C.1 C.2.1 hd rfl (hL.2.2.2 _ _ h1 t4).1 k) (fun h hv => h.cons t4 (hv _ _ h1 t4)) kk
theorem z_lload (C : zCx p R s mth args meth c D ids b sa adV n0 nE d m) {k : Nat} {v : zV} (hl : zld 1 lv k = some v) (hd : decode (zby m) pc = .ok (.lload k, 2)) (kk : zWW p l e R s mth args below meth c D ids b sa n0 m Q (pc + 2) lv (v :: st) g w) : zWW p l e R s mth args below meth c D ids b sa n0 m Q pc lv st g w := by
  obtain ⟨t, x⟩ := v
  obtain ⟨h1, h2⟩ := zld_spec hl
  cases h2
  exact z_pure (fun H locs ls cells slots hL hS k => lv_lload C.1 C.2.1 hd (hL.2.2.2 _ _ h1 t4).1 k) (fun h hv => h.cons t4 (hv _ _ h1 t4)) kk
theorem z_aload_n (C : zCx p R s mth args meth c D ids b sa adV n0 nE d m) {k : Fin 4} {v : zV} (hl : zld 2 lv k = some v) (h0 : 0 ≤ v.2) (hd : decode (zby m) pc = .ok (.aload_n k, 1)) (kk : zWW p l e R s mth args below meth c D ids b sa n0 m Q (pc + 1) lv (v :: st) g w) : zWW p l e R s mth args below meth c D ids b sa n0 m Q pc lv st g w := by
  obtain ⟨t, x⟩ := v
  obtain ⟨h1, h2⟩ := zld_spec hl
  cases h2
  refine z_pure (fun H locs ls cells slots hL hS k => ?_) (fun h hv => h.cons t4 (hv _ _ h1 t4)) kk
  have h3 := (hL.2.2.2 _ _ h1 t4).1
  rw [List.map_cons] at k
  rw [zcv_ref h0] at h3 k
  exact lv_aload_n C.1 C.2.1 hd rfl h3 k
theorem z_aload (C : zCx p R s mth args meth c D ids b sa adV n0 nE d m) {k : Nat} {v : zV} (hl : zld 2 lv k = some v) (h0 : 0 ≤ v.2) (hd : decode (zby m) pc = .ok (.aload k, 2)) (kk : zWW p l e R s mth args below meth c D ids b sa n0 m Q (pc + 2) lv (v :: st) g w) : zWW p l e R s mth args below meth c D ids b sa n0 m Q pc lv st g w := by
  obtain ⟨t, x⟩ := v
  obtain ⟨h1, h2⟩ := zld_spec hl
  cases h2
  refine z_pure (fun H locs ls cells slots hL hS k => ?_) (fun h hv => h.cons t4 (hv _ _ h1 t4)) kk
  have h3 := (hL.2.2.2 _ _ h1 t4).1
  rw [List.map_cons] at k
  rw [zcv_ref h0] at h3 k
  exact lv_aload C.1 C.2.1 hd h3 k
theorem z_istore_n (C : zCx p R s mth args meth c D ids b sa adV n0 nE d m) {k : Fin 4} {x : Int} {lv' : List zV} (hs : zsto lv k (0, x) = some lv') (hd : decode (zby m) pc = .ok (.istore_n k, 1)) (kk : zWW p l e R s mth args below meth c D ids b sa n0 m Q (pc + 1) lv' st g w) : zWW p l e R s mth args below meth c D ids b sa n0 m Q pc lv ((0, x) :: st) g w :=
  fun H locs ls hR hL hS hg => lv_istore_n (x := Int32.ofInt x) C.1 C.2.1 hd rfl hL.has (by rw [← hL.2.2.1]; exact zsto_lt hs) rfl (fun ls' h' => kk H locs ls' hR (hL.sto hs hS.head h') hS.tail hg)
theorem z_istore (C : zCx p R s mth args meth c D ids b sa adV n0 nE d m) {k : Nat} {x : Int} {lv' : List zV} (hs : zsto lv k (0, x) = some lv') (hd : decode (zby m) pc = .ok (.istore k, 2)) (kk : zWW p l e R s mth args below meth c D ids b sa n0 m Q (pc + 2) lv' st g w) : zWW p l e R s mth args below meth c D ids b sa n0 m Q pc lv ((0, x) :: st) g w :=
  fun H locs ls hR hL hS hg => lv_istore (x := Int32.ofInt x) C.1 C.2.1 hd hL.has (by rw [← hL.2.2.1]; exact zsto_lt hs) rfl (fun ls' h' => kk H locs ls' hR (hL.sto hs hS.head h') hS.tail hg)
theorem z_lstore_n (C : zCx p R s mth args meth c D ids b sa adV n0 nE d m) {k : Fin 4} {x : Int} {lv' : List zV} (hs : zstoL lv k (1, x) = some lv') (hd : decode (zby m) pc = .ok (.lstore_n k, 1)) (kk : zWW p l e R s mth args below meth c D ids b sa n0 m Q (pc + 1) lv' st g w) : zWW p l e R s mth args below meth c D ids b sa n0 m Q pc lv ((1, x) :: st) g w :=
  fun H locs ls hR hL hS hg => lv_lstore_n (x := Int64.ofInt x) C.1 C.2.1 hd rfl hL.has (by rw [← hL.2.2.1]; exact zstoL_lt hs) rfl (fun ls' h' => kk H locs ls' hR (hL.stoL hs hS.head h') hS.tail hg)
theorem z_lstore (C : zCx p R s mth args meth c D ids b sa adV n0 nE d m) {k : Nat} {x : Int} {lv' : List zV} (hs : zstoL lv k (1, x) = some lv') (hd : decode (zby m) pc = .ok (.lstore k, 2)) (kk : zWW p l e R s mth args below meth c D ids b sa n0 m Q (pc + 2) lv' st g w) : zWW p l e R s mth args below meth c D ids b sa n0 m Q pc lv ((1, x) :: st) g w :=
  fun H locs ls hR hL hS hg => lv_lstore (x := Int64.ofInt x) C.1 C.2.1 hd hL.has (by rw [← hL.2.2.1]; exact zstoL_lt hs) rfl (fun ls' h' => kk H locs ls' hR (hL.stoL hs hS.head h') hS.tail hg)
theorem z_astore_n (C : zCx p R s mth args meth c D ids b sa adV n0 nE d m) {k : Fin 4} {x : Int} {lv' : List zV} (h0 : 0 ≤ x) (hs : zsto lv k (2, x) = some lv') (hd : decode (zby m) pc = .ok (.astore_n k, 1)) (kk : zWW p l e R s mth args below meth c D ids b sa n0 m Q (pc + 1) lv' st g w) : zWW p l e R s mth args below meth c D ids b sa n0 m Q pc lv ((2, x) :: st) g w := by
  intro H locs ls hR hL hS hg
  rw [List.map_cons, zcv_ref h0]
  exact lv_astore_n C.1 C.2.1 hd rfl hL.has (by rw [← hL.2.2.1]; exact zsto_lt hs) rfl (fun ls' h' => kk H locs ls' hR (hL.sto hs hS.head (by rw [zcv_ref h0]; exact h')) hS.tail hg)
theorem z_astore (C : zCx p R s mth args meth c D ids b sa adV n0 nE d m) {k : Nat} {x : Int} {lv' : List zV} (h0 : 0 ≤ x) (hs : zsto lv k (2, x) = some lv') (hd : decode (zby m) pc = .ok (.astore k, 2)) (kk : zWW p l e R s mth args below meth c D ids b sa n0 m Q (pc + 2) lv' st g w) : zWW p l e R s mth args below meth c D ids b sa n0 m Q pc lv ((2, x) :: st) g w := by
  intro H locs ls hR hL hS hg
  rw [List.map_cons, zcv_ref h0]
  exact lv_astore C.1 C.2.1 hd hL.has (by rw [← hL.2.2.1]; exact zsto_lt hs) rfl (fun ls' h' => kk H locs ls' hR (hL.sto hs hS.head (by rw [zcv_ref h0]; exact h')) hS.tail hg)
theorem z_iinc (C : zCx p R s mth args meth c D ids b sa adV n0 nE d m) {k : Nat} {n : Int} {x : zV} {lv' : List zV} (hl : zld 0 lv k = some x) (hs : zsto lv k (0, w32 (x.2 + n)) = some lv') (hd : decode (zby m) pc = .ok (.iinc k n, 3)) (kk : zWW p l e R s mth args below meth c D ids b sa n0 m Q (pc + 3) lv' st g w) : zWW p l e R s mth args below meth c D ids b sa n0 m Q pc lv st g w := by
  obtain ⟨t, x⟩ := x
  obtain ⟨h1, h2⟩ := zld_spec hl
  cases h2
  intro H locs ls hR hL hS hg
  obtain ⟨j, hj⟩ := List.getElem?_of_mem (zA_mem (q := (k, zcv b sa (0, x))).mpr ⟨_, h1, t4, rfl⟩)
  exact lv_iinc (x := Int32.ofInt x) (v := Int32.ofInt (w32 (x + n))) C.1 C.2.1 hd hL.has (k := j) hj (by rw [w32_of, Int32.ofInt_add]) (by rw [← hL.2.2.1]; exact zsto_lt hs) rfl (fun ls' h' => kk H locs ls' hR (hL.sto hs (zin_w _) h') hS hg)
theorem z_dup (C : zCx p R s mth args meth c D ids b sa adV n0 nE d m) {v : zV} (hv : v.1 ≠ 1) (hd : decode (zby m) pc = .ok (.dup, 1)) (kk : zWW p l e R s mth args below meth c D ids b sa n0 m Q (pc + 1) lv (v :: v :: st) g w) : zWW p l e R s mth args below meth c D ids b sa n0 m Q pc lv (v :: st) g w :=
  z_pure (fun H locs ls cells slots hL hS k => lv_dup C.1 C.2.1 hd (zcv_cat hv) k) (fun h _ => h.cons h.tag h.head) kk
theorem z_dup2 (C : zCx p R s mth args meth c D ids b sa adV n0 nE d m) {v u : zV} (hv : v.1 ≠ 1) (hu : u.1 ≠ 1) (hd : decode (zby m) pc = .ok (.dup2, 1)) (kk : zWW p l e R s mth args below meth c D ids b sa n0 m Q (pc + 1) lv (v :: u :: v :: u :: st) g w) : zWW p l e R s mth args below meth c D ids b sa n0 m Q pc lv (v :: u :: st) g w :=
  z_pure (fun H locs ls cells slots hL hS k => lv_dup2_11 C.1 C.2.1 hd (zcv_cat hv) (zcv_cat hu) k) (fun h _ => (h.cons h.tail.tag h.tail.head).cons h.tag h.head) kk
theorem z_pop (C : zCx p R s mth args meth c D ids b sa adV n0 nE d m) {v : zV} (hv : v.1 ≠ 1) (hd : decode (zby m) pc = .ok (.pop, 1)) (kk : zWW p l e R s mth args below meth c D ids b sa n0 m Q (pc + 1) lv st g w) : zWW p l e R s mth args below meth c D ids b sa n0 m Q pc lv (v :: st) g w :=
  z_pure (fun H locs ls cells slots hL hS k => lv_pop C.1 C.2.1 hd (zcv_cat hv) k) (fun h _ => h.tail) kk
theorem zjmp_spec {pc pc' : Nat} {off : Int} {lv st lv' st' : List zV} {g g' : Nat} {w w' : zW} (h : zjmp pc off lv st g w = some (.inl (pc', lv', st', g', w'))) : (pc : Int) + off = (pc' : Int) ∧ lv' = lv ∧ st' = st ∧ g' = g ∧ w' = w := by
  unfold zjmp zgo at h
  split at h
  next h0 =>
    cases h
    exact ⟨(Int.toNat_of_nonneg h0).symm, rfl, rfl, rfl, rfl⟩
  next => cases h
theorem z_goto (C : zCx p R s mth args meth c D ids b sa adV n0 nE d m) {off : Int} {tgt : Nat} (ht : (pc : Int) + off = (tgt : Int)) (hd : decode (zby m) pc = .ok (.goto off, 3)) (kk : zWW p l e R s mth args below meth c D ids b sa n0 m Q tgt lv st g w) : zWW p l e R s mth args below meth c D ids b sa n0 m Q pc lv st g w :=
  z_pure (fun H locs ls cells slots hL hS k => lv_goto C.1 C.2.1 hd ht k) (fun h _ => h) kk
theorem z_in0 : zin (0, 0) := ⟨by decide, by decide⟩
theorem z_icmp (C : zCx p R s mth args meth c D ids b sa adV n0 nE d m) {cd : Jvm.ClassFile.Cond} {off : Int} {tgt : Nat} {x y : Int} (ht : (pc : Int) + off = (tgt : Int)) (hd : decode (zby m) pc = .ok (.if_icmp cd off, 3))
    (kt : zcond cd x y = true → zWW p l e R s mth args below meth c D ids b sa n0 m Q tgt lv st g w) (kf : ¬ zcond cd x y = true → zWW p l e R s mth args below meth c D ids b sa n0 m Q (pc + 3) lv st g w) : zWW p l e R s mth args below meth c D ids b sa n0 m Q pc lv ((0, y) :: (0, x) :: st) g w := by
  intro H locs ls hR hL hS hg
  have hy := hS.head
  have hx := hS.tail.head
  have kt' := fun h => kt h H locs ls hR hL hS.tail.tail hg
  have kf' := fun h => kf h H locs ls hR hL hS.tail.tail hg
  cases cd <;> simp only [zcond, decide_eq_true_eq] at kt' kf'
  · exact lv_icmp_eq (x := Int32.ofInt x) (y := Int32.ofInt y) C.1 C.2.1 hd ht (fun h => kt' ((zi_eq hx hy).mp h)) (fun h => kf' (fun e => h ((zi_eq hx hy).mpr e)))
  · exact lv_icmp_ne (x := Int32.ofInt x) (y := Int32.ofInt y) C.1 C.2.1 hd ht (fun h => kt' (fun e => h ((zi_eq hx hy).mpr e))) (fun h => kf' (fun e => e ((zi_eq hx hy).mp h)))
  · exact lv_icmp_lt (x := Int32.ofInt x) (y := Int32.ofInt y) C.1 C.2.1 hd ht (fun h => kt' ((zi_lt hx hy).mp h)) (fun h => kf' (fun e => h ((zi_lt hx hy).mpr e)))
  · exact lv_icmp_ge (x := Int32.ofInt x) (y := Int32.ofInt y) C.1 C.2.1 hd ht (fun h => kt' ((zi_le hy hx).mp h)) (fun h => kf' (fun e => h ((zi_le hy hx).mpr e)))
  · exact lv_icmp_gt (x := Int32.ofInt x) (y := Int32.ofInt y) C.1 C.2.1 hd ht (fun h => kt' ((zi_lt hy hx).mp h)) (fun h => kf' (fun e => h ((zi_lt hy hx).mpr e)))
  · exact lv_icmp_le (x := Int32.ofInt x) (y := Int32.ofInt y) C.1 C.2.1 hd ht (fun h => kt' ((zi_le hx hy).mp h)) (fun h => kf' (fun e => h ((zi_le hx hy).mpr e)))
theorem z_ifc (C : zCx p R s mth args meth c D ids b sa adV n0 nE d m) {cd : Jvm.ClassFile.Cond} {off : Int} {tgt : Nat} {x : Int} (ht : (pc : Int) + off = (tgt : Int)) (hd : decode (zby m) pc = .ok (.ifCond cd off, 3))
    (kt : zcond cd x 0 = true → zWW p l e R s mth args below meth c D ids b sa n0 m Q tgt lv st g w) (kf : ¬ zcond cd x 0 = true → zWW p l e R s mth args below meth c D ids b sa n0 m Q (pc + 3) lv st g w) : zWW p l e R s mth args below meth c D ids b sa n0 m Q pc lv ((0, x) :: st) g w := by
  intro H locs ls hR hL hS hg
  have hx := hS.head
  have hy := z_in0
  have kt' := fun h => kt h H locs ls hR hL hS.tail hg
  have kf' := fun h => kf h H locs ls hR hL hS.tail hg
  have e0 : (0 : Int32) = Int32.ofInt 0 := rfl
  cases cd <;> simp only [zcond, decide_eq_true_eq] at kt' kf'
  · exact lv_if_eq (x := Int32.ofInt x) C.1 C.2.1 hd ht (fun h => kt' ((zi_eq hx hy).mp h)) (fun h => kf' (fun e => h ((zi_eq hx hy).mpr e)))
  · exact lv_if_ne (x := Int32.ofInt x) C.1 C.2.1 hd ht (fun h => kt' (fun e => h ((zi_eq hx hy).mpr e))) (fun h => kf' (fun e => e ((zi_eq hx hy).mp h)))
  · exact lv_if_lt (x := Int32.ofInt x) C.1 C.2.1 hd ht (fun h => kt' ((zi_lt hx hy).mp h)) (fun h => kf' (fun e => h ((zi_lt hx hy).mpr e)))
  · exact lv_if_ge (x := Int32.ofInt x) C.1 C.2.1 hd ht (fun h => kt' ((zi_le hy hx).mp h)) (fun h => kf' (fun e => h ((zi_le hy hx).mpr e)))
  · exact lv_if_gt (x := Int32.ofInt x) C.1 C.2.1 hd ht (fun h => kt' ((zi_lt hy hx).mp h)) (fun h => kf' (fun e => h ((zi_lt hy hx).mpr e)))
  · exact lv_if_le (x := Int32.ofInt x) C.1 C.2.1 hd ht (fun h => kt' ((zi_le hx hy).mp h)) (fun h => kf' (fun e => h ((zi_le hx hy).mpr e)))
theorem z_tabO (C : zCx p R s mth args meth c D ids b sa adV n0 nE d m) {df lo hi : Int} {offs : Array Int} {len tgt : Nat} {x : Int} (h : x < lo ∨ hi < x) (ht : (pc : Int) + df = (tgt : Int)) (hd : decode (zby m) pc = .ok (.tableswitch df lo hi offs, len))
    (kk : zWW p l e R s mth args below meth c D ids b sa n0 m Q tgt lv st g w) : zWW p l e R s mth args below meth c D ids b sa n0 m Q pc lv ((0, x) :: st) g w :=
  z_pure (fun H locs ls cells slots hL hS k => lv_tableOut (x := Int32.ofInt x) C.1 C.2.1 hd (by rw [zi_to hS.head]; exact h) ht k) (fun h _ => h.tail) kk
theorem z_tabI (C : zCx p R s mth args meth c D ids b sa adV n0 nE d m) {df lo hi : Int} {offs : Array Int} {len tgt : Nat} {x off : Int} (h : ¬ (x < lo ∨ hi < x)) (ho : offs[(x - lo).toNat]? = some off) (ht : (pc : Int) + off = (tgt : Int)) (hd : decode (zby m) pc = .ok (.tableswitch df lo hi offs, len))
    (kk : zWW p l e R s mth args below meth c D ids b sa n0 m Q tgt lv st g w) : zWW p l e R s mth args below meth c D ids b sa n0 m Q pc lv ((0, x) :: st) g w :=
  z_pure (fun H locs ls cells slots hL hS k => lv_tableIn (x := Int32.ofInt x) C.1 C.2.1 hd (by rw [zi_to hS.head]; omega) (by rw [zi_to hS.head]; omega) (by rw [zi_to hS.head]; exact ho) ht k) (fun h _ => h.tail) kk
theorem zsw_eq : ∀ (ps : List (Int × Int)) (d x : Int), Op.lookupswitch.offset ps d x = zsw ps d x
  | [], d, x => rfl
  | (a, o) :: r, d, x => by
    rw [Op.lookupswitch.offset_cons, zsw, zsw_eq r d x]
theorem z_lsw (C : zCx p R s mth args meth c D ids b sa adV n0 nE d m) {df : Int} {ps : Array (Int × Int)} {len tgt : Nat} {x : Int} (hp : (ps.toList.zip (ps.toList.drop 1)).all (fun (a, next) => a.1 < next.1) = true) (ht : (pc : Int) + zsw ps.toList df x = (tgt : Int)) (hd : decode (zby m) pc = .ok (.lookupswitch df ps, len))
    (kk : zWW p l e R s mth args below meth c D ids b sa n0 m Q tgt lv st g w) : zWW p l e R s mth args below meth c D ids b sa n0 m Q pc lv ((0, x) :: st) g w :=
  z_pure (fun H locs ls cells slots hL hS k => lv_lookup (x := Int32.ofInt x) C.1 C.2.1 hd hp (by rw [zi_to hS.head, zsw_eq]) ht k) (fun h _ => h.tail) kk
end Z2
