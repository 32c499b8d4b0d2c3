theorem zsum_succ (g : Nat) : zsum (g + 1) = zsum g + (zsh (g : Int)).2 := by
  unfold zsum
  rw [List.range_succ, List.map_append, List.sum_append]
  simp
theorem zsum_le {a b : Nat} (h : a ≤ b) : zsum a ≤ zsum b := by
  induction h with
  | refl => exact Nat.le_refl _
  | step _ ih => rw [Nat.succ_eq_add_one, zsum_succ]; omega
def zrv (b : Nat) (sa : Nat → Nat) (v : zV) : Option Value := if v.1 = 9 then none else some (zcv b sa v)
def zQc (D : va_G) (ids : Nat → ClassId) (b : Nat) (sa : Nat → Nat) (lk : Bool) (r : zR) : Array Value → State → Outcome → State → Prop := fun _ st oc t =>
  oc = .returned (zrv b sa r.1) ∧ va_P D vwCl (zws ids b sa r.2.1 r.2.2) t.heap ∧ t.heap.size = b + r.2.1 ∧ st.heap.size ≤ t.heap.size ∧ (∀ q : Nat, q < b → t.heap[q]? = st.heap[q]?) ∧ zok r.2.1 r.2.2 ∧ (lk = true → r.2.1 = zN ∧ zLk r.2.2) ∧ (r.1.1 = 9 ∨ (r.1.1 < 4 ∧ zin r.1))
section Z5
variable {p : Program} {l : Launch} {e : Env} {R : Room} {s : State} {mth : MethodId} {args : Array Value} {below : List Frame} {meth : Method} {c : Code} {D : va_G} {ids : Nat → ClassId} {b : Nat} {sa adV : Nat → Nat} {n0 nE d m : Nat} {Q : State → Prop} {pc : Nat} {lv st : List zV} {g : Nat} {w : zW}
variable {H : Heap} {locs : List Loc}
theorem z_newo (C : zCx p R s mth args meth c D ids b sa adV n0 nE d m) {k c' : Nat} (hl : (zCL (zcn m)).lookup k = some c') (hc : zlm m = false ∧ c' < 9 ∧ zsh g = (c', zNf c')) (hge : g + 1 ≤ nE) (hd : decode (zby m) pc = .ok (.new k, 3))
    (kk : zWW p l e R s mth args below meth c D ids b sa n0 m Q (pc + 3) lv ((2, (g : Int)) :: st) (g + 1) (zblank w g (fun j => if ztg c' j.toNat = 2 then -1 else 0))) : zWW p l e R s mth args below meth c D ids b sa n0 m Q pc lv st g w := by
  obtain ⟨hlm, hc9, hsh⟩ := hc
  intro H locs ls hR hL hS hn
  have hcm : zcn m < 9 := by
    by_cases hc : zcn m < 9
    · exact hc
    · exfalso
      have : zCL (zcn m) = [] := by
        unfold zCL
        split <;> first | omega | rfl
      rw [this] at hl
      cases hl
  obtain ⟨w1, w2, w3⟩ := zcl_ok (zcn m) hcm _ (z_look hl)
  have hts := C.2.2.2.2.2.2.2.1
  have hK := C.2.2.2.2.2.2.2.2.1.1
  have hKn := hK.1 c' _ (zcl_at c' hc9)
  have hs1 := zsum_succ g
  rw [hsh] at hs1
  have hs2 := zsum_le hn
  have hs3 := zsum_le hge
  have hs1' : zsum (g + 1) = zsum g + zNf c' := hs1
  have hRc := C.2.2.2.2.2.2.2.2.2.2.2.1
  have hRs := C.2.2.2.2.2.2.2.2.2.2.2.2
  refine W.newcK (n := zNf c') C.1 C.2.1 C.2.2.2.2.2.1 (hts _ w1) (hts _ w2) (hts _ w3) rfl hd (by rw [hRc]; omega) (by rw [hRs]; omega) hKn.2.1 hR.2.1 fun H1 kC hkC e1 z1 o1 => ?_
  have e2 : g - n0 + 1 = (g + 1) - n0 := by omega
  have e3 : zsum g - zsum n0 + zNf c' = zsum (g + 1) - zsum n0 := by omega
  rw [e2, e3]
  have hlt : ∀ a : Nat, a < g → H1[b + a]? = H[b + a]? := fun a ha => o1 (b + a) (by omega)
  have k := kk H1 locs ls ⟨zP_iff.mpr fun a' ha' => ?_, by rw [z1]; omega, by rw [z1]; have := hR.2.2.1; have := hR.2.1; omega, hR.2.2.2.1, fun q hq => (o1 q (by omega)).trans (hR.2.2.2.2.1 q hq), hR.2.2.2.2.2.1, ?_, fun e => by rw [hlm] at e; cases e⟩ hL (hS.cons t4 trivial) (by omega)
  · rw [List.map_cons, zcv_ref (by omega), Int.toNat_natCast] at k
    exact k
  · by_cases e : a' = g
    · subst e
      have eb : (zblank w a' (fun j => if ztg c' j.toNat = 2 then -1 else 0)) a' = fun j : Int => if ztg c' j.toNat = 2 then -1 else 0 := by
        funext j
        unfold zblank
        rw [if_pos rfl]
      rw [eb, hsh, zE_obj hc9]
      refine ⟨_, zcl_at c' hc9, (u_born (zty c') hts (zuw_ok c' hc9) hKn hkC e1 (zty_ok c' hc9)).to fun j hj => ?_⟩
      have hj' : j < zNf c' := hj
      unfold vp_V
      rw [List.getD_eq_getElem?_getD, List.getElem?_map, List.getElem?_range hj']
      show defaultValue (zty c' j) = zcv b sa (ztg c' j, if ztg c' ((j : Nat) : Int).toNat = 2 then -1 else 0)
      have hg := zty_good c' hc9 j hj'
      rw [Int.toNat_natCast]
      unfold ztg
      cases hty : zty c' j with
      | int => rfl
      | boolean => rfl
      | object nm => rfl
      | array t => rfl
      | _ => rw [hty] at hg; cases hg
    · have eb : (zblank w g (fun j => if ztg c' j.toNat = 2 then -1 else 0)) a' = w a' := by
        funext j
        unfold zblank
        rw [if_neg (by omega)]
      rw [eb]
      exact (zP_iff.mp hR.1 a' (by omega)).kept (hlt a' (by omega))
  · intro a' ha' j hj
    unfold zblank
    by_cases e : a' = g
    · rw [if_pos (by omega)]
      dsimp only
      split <;> exact zin_small (by decide) (by decide)
    · rw [if_neg (by omega)]
      exact hR.2.2.2.2.2.2.1 a' (by omega) j hj
theorem z_newarr (C : zCx p R s mth args meth c D ids b sa adV n0 nE d m) {t : Jvm.ClassFile.ArrayType} {x : Int} {kd : Nat} (hkd : kd = znk t) (hc : zlm m = false ∧ 0 ≤ x ∧ zsh g = (kd, x.toNat)) (hge : g + 1 ≤ nE) (hd : decode (zby m) pc = .ok (.newarray t, 2))
    (kk : zWW p l e R s mth args below meth c D ids b sa n0 m Q (pc + 2) lv ((2, (g : Int)) :: st) (g + 1) (zblank w g (fun _ => 0))) : zWW p l e R s mth args below meth c D ids b sa n0 m Q pc lv ((0, x) :: st) g w := by
  obtain ⟨hlm, h0, hsh⟩ := hc
  intro H locs ls hR hL hS hn
  have hgN : g < zN := by
    by_cases h : g < zN
    · exact h
    · exfalso
      rw [zsh_big (by omega)] at hsh
      have : kd = 99 := (Prod.mk.inj hsh).1.symm
      rw [this] at hkd
      cases t <;> cases hkd
  have hx := zsh_len g hgN
  rw [hsh] at hx
  have hx' : x.toNat < 10000 := hx
  have hts := C.2.2.2.2.2.2.2.1
  have hK := C.2.2.2.2.2.2.2.2.1.1
  have hs1 := zsum_succ g
  rw [hsh] at hs1
  have hs2 := zsum_le hn
  have hs3 := zsum_le hge
  have hs1' : zsum (g + 1) = zsum g + x.toNat := hs1
  have hRc := C.2.2.2.2.2.2.2.2.2.2.2.1
  have hRs := C.2.2.2.2.2.2.2.2.2.2.2.2
  have hxn : (Int32.ofInt x).toNatClampNeg = x.toNat := Int32.toNatClampNeg_ofInt_of_le (by omega) (by omega)
  have hx0 : ¬ Int32.ofInt x < 0 := by
    rw [Int32.lt_iff_toInt_lt, zi_to (zin_small (by omega) (by omega)), Int32.toInt_zero]
    omega
  have hlt : ∀ (H1 : Heap), (∀ q : Nat, q < b + g → H1[q]? = H[q]?) → ∀ a : Nat, a < g → H1[b + a]? = H[b + a]? := fun H1 o1 a ha => o1 (b + a) (by omega)
  have eg : (zblank w g (fun _ => 0)) g = fun _ : Int => (0 : Int) := by
    funext j
    unfold zblank
    rw [if_pos rfl]
  have fin : ∀ H1 : Heap, H1.size = b + g + 1 → (∀ q : Nat, q < b + g → H1[q]? = H[q]?) → va_at D vwCl (b + g, zE ids b sa (kd, x.toNat) (fun _ => 0)) H1 → W p l e R s mth args below meth c H1 locs (g - n0 + 1) (zsum g - zsum n0 + x.toNat) Q (F0 mth (pc + 2) ls (.ref (b + g) :: st.map (zcv b sa))) := by
    intro H1 z1 o1 hat
    have e2 : g - n0 + 1 = (g + 1) - n0 := by omega
    have e3 : zsum g - zsum n0 + x.toNat = zsum (g + 1) - zsum n0 := by omega
    rw [e2, e3]
    have k := kk H1 locs ls ⟨zP_iff.mpr fun a' ha' => ?_, by rw [z1]; omega, by rw [z1]; have := hR.2.2.1; have := hR.2.1; omega, hR.2.2.2.1, fun q hq => (o1 q (by omega)).trans (hR.2.2.2.2.1 q hq), hR.2.2.2.2.2.1, ?_, fun e => by rw [hlm] at e; cases e⟩ hL (hS.tail.cons t4 trivial) (by omega)
    · rw [List.map_cons, zcv_ref (by omega), Int.toNat_natCast] at k
      exact k
    · by_cases e : a' = g
      · rw [e, eg, hsh]
        exact hat
      · have eb : (zblank w g (fun _ => 0)) a' = w a' := by
          funext j
          unfold zblank
          rw [if_neg (by omega)]
        rw [eb]
        exact (zP_iff.mp hR.1 a' (by omega)).kept (hlt H1 o1 a' (by omega))
    · intro a' ha' j hj
      unfold zblank
      by_cases e : a' = g
      · rw [if_pos (by omega)]
        dsimp only
        exact zin_small (by decide) (by decide)
      · rw [if_neg (by omega)]
        exact hR.2.2.2.2.2.2.1 a' (by omega) j hj
  rw [List.map_cons]
  have hcell : g - n0 + 1 ≤ R.cells := by rw [hRc]; omega
  have hslot : zsum g - zsum n0 + x.toNat ≤ R.slots := by rw [hRs]; omega
  cases t with
  | int =>
    refine va_newaK (atype := .int) (n := Int32.ofInt x) (N := x.toNat) C.1 C.2.1 (hts _ (zt1 60 rfl rfl)) rfl hd rfl hx0 hxn (by show x.toNat * 4 ≤ _; omega) hcell hslot hR.2.1 fun H1 cA e1 z1 o1 hA hNm => fin H1 z1 o1 ?_
    have hid : s.vm.findClass ("[" ++ (FieldType.int).toString) = some (ids 0) := (hK.2 0 _ rfl).2
    cases hNm.symm.trans hid
    subst hkd
    exact e1
  | long =>
    refine va_newaK (atype := .long) (n := Int32.ofInt x) (N := x.toNat) C.1 C.2.1 (hts _ (zt1 160 rfl rfl)) rfl hd rfl hx0 hxn (by show x.toNat * 8 ≤ _; omega) hcell hslot hR.2.1 fun H1 cA e1 z1 o1 hA hNm => fin H1 z1 o1 ?_
    have hid : s.vm.findClass ("[" ++ (FieldType.long).toString) = some (ids 1) := (hK.2 1 _ rfl).2
    cases hNm.symm.trans hid
    subst hkd
    exact e1
  | boolean =>
    refine va_newaK (atype := .boolean) (n := Int32.ofInt x) (N := x.toNat) C.1 C.2.1 (hts _ (zt1 161 rfl rfl)) rfl hd rfl hx0 hxn (by show x.toNat * 1 ≤ _; omega) hcell hslot hR.2.1 fun H1 cA e1 z1 o1 hA hNm => fin H1 z1 o1 ?_
    have hid : s.vm.findClass ("[" ++ (FieldType.boolean).toString) = some (ids 2) := (hK.2 2 _ rfl).2
    cases hNm.symm.trans hid
    subst hkd
    exact e1
  | _ =>
    exfalso
    have h98 : kd = 98 := hkd
    rw [h98] at hsh
    have : ∀ a, a < zN → (zsh (a : Nat)).1 ≠ 98 := by decide +kernel
    exact this g hgN (by rw [hsh])
theorem z_ldc2 (C : zCx p R s mth args meth c D ids b sa adV n0 nE d m) {k : Nat} {v : Int} (hl : (zKL (zcn m)).lookup k = some v) (hd : decode (zby m) pc = .ok (.ldc2_w k, 3)) (kk : zWW p l e R s mth args below meth c D ids b sa n0 m Q (pc + 3) lv ((1, v) :: st) g w) : zWW p l e R s mth args below meth c D ids b sa n0 m Q pc lv st g w := by
  have hcm : zcn m < 9 := by
    by_cases hc : zcn m < 9
    · exact hc
    · exfalso
      have : zKL (zcn m) = [] := by
        unfold zKL
        split <;> first | omega | rfl
      rw [this] at hl
      cases hl
  obtain ⟨w1, w2⟩ := zkl_ok (zcn m) hcm _ (z_look hl)
  exact z_pure (fun H locs ls cells slots hL hS k => lv_ldc2 (v := Int64.ofInt v) C.1 C.2.1 C.2.2.2.2.2.1 (C.2.2.2.2.2.2.2.1 _ w1) hd k) (fun h _ => h.cons t4 w2) kk
theorem zSL_ok : ∀ c, c < 10 → ∀ q ∈ zSL c, c = 1 ∧ q.2 < 3 ∧ (zSX.getD q.2 (0, "")).1 = q.1 := by decide +kernel
theorem z_ldc (C : zCx p R s mth args meth c D ids b sa adV n0 nE d m) {k j : Nat} (hl : (zSL (zcn m)).lookup k = some j) (hd : decode (zby m) pc = .ok (.ldc k, 2)) (kk : zWW p l e R s mth args below meth c D ids b sa n0 m Q (pc + 2) lv ((3, (j : Int)) :: st) g w) : zWW p l e R s mth args below meth c D ids b sa n0 m Q pc lv st g w := by
  have hcm : zcn m < 10 := by
    by_cases hc : zcn m < 10
    · exact hc
    · exfalso
      have : zSL (zcn m) = [] := by
        unfold zSL
        split <;> first | omega | rfl
      rw [this] at hl
      cases hl
  obtain ⟨w1, w2, w3⟩ := zSL_ok (zcn m) hcm _ (z_look hl)
  have w2' : j < 3 := w2
  have hZ := C.2.2.2.2.2.2.2.2.1.2.2.1 j w2'
  have hown := C.2.2.2.2.2.1
  rw [w1] at hown
  rw [w3] at hZ
  exact z_pure (fun H locs ls cells slots hL hS kx => va_ldcS (q := sa j) C.1 C.2.1 hown hZ hd (by
    have e : zcv b sa (3, (j : Int)) = .ref (sa j) := by
      show Value.ref (sa (j : Int).toNat) = _
      rw [Int.toNat_natCast]
    rw [List.map_cons, e] at kx
    exact kx)) (fun h _ => h.cons t4 (show zin (3, (j : Int)) from trivial)) kk
theorem zrest {ls : Array Slot} (hz : zcat st ≤ 8) : 2 * (F0 mth pc ls (st.map (zcv b sa))).monitorRoom + ((st.map (zcv b sa)).map fun v => v.category).sum ≤ 8 := by
  rw [zcat_sum]
  show 2 * 0 + _ ≤ 8
  omega
theorem z_obj (C : zCx p R s mth args meth c D ids b sa adV n0 nE d m) {k : Nat} {q : Nat × Nat × Nat} {a : Int} (hl : (zML (zcn m)).lookup k = some q) (hq : q.2.1 = 20) (h1 : 1 ≤ d) (ha : 0 ≤ a ∧ a < g ∧ zcat st ≤ 8) (hd : decode (zby m) pc = .ok (.invokespecial k, 3)) (kk : zWW p l e R s mth args below meth c D ids b sa n0 m Q (pc + 3) lv st g w) : zWW p l e R s mth args below meth c D ids b sa n0 m Q pc lv ((2, a) :: st) g w := by
  have hcm : zcn m < 9 := by
    by_cases hc : zcn m < 9
    · exact hc
    · exfalso
      have : zML (zcn m) = [] := by
        unfold zML
        split <;> first | omega | rfl
      rw [this] at hl
      cases hl
  obtain ⟨m', kd, n⟩ := q
  cases hq
  obtain ⟨w1, w2, w3⟩ := zml_ok (zcn m) hcm _ (z_look hl)
  have hts := C.2.2.2.2.2.2.2.1
  have hfr := C.2.2.2.2.2.2.2.2.2.1
  have hlo := C.2.2.2.2.2.2.2.2.2.2.1
  intro H locs ls hR hL hS hn
  have hz := zcat_sum (b := b) (sa := sa) st
  rw [List.map_cons, zcv_ref ha.1]
  refine W.objInit C.1 C.2.1 C.2.2.2.2.2.1 (hts _ w1) (hts _ w2) (hts _ w3) rfl (by rw [C.2.2.2.2.1]; exact hL.1) rfl hd (by omega) (by show 2 * 0 + _ + 12 ≤ _; rw [hz]; omega) ?_
  exact kk H locs ls hR hL hS.tail hn
theorem z_rmax (C : zCx p R s mth args meth c D ids b sa adV n0 nE d m) {k : Nat} {q : Nat × Nat × Nat} {x y : Int} (hl : (zML (zcn m)).lookup k = some q) (hq : q.2.1 = 21) (h1 : 1 ≤ d) (hge : g ≤ nE) (ha : zcat st ≤ 8) (hd : decode (zby m) pc = .ok (.invokestatic k, 3)) (kk : zWW p l e R s mth args below meth c D ids b sa n0 m Q (pc + 3) lv ((0, z_max x y) :: st) g w) : zWW p l e R s mth args below meth c D ids b sa n0 m Q pc lv ((0, y) :: (0, x) :: st) g w := by
  have hcm : zcn m < 9 := by
    by_cases hc : zcn m < 9
    · exact hc
    · exfalso
      have : zML (zcn m) = [] := by
        unfold zML
        split <;> first | omega | rfl
      rw [this] at hl
      cases hl
  obtain ⟨m', kd, n⟩ := q
  cases hq
  obtain ⟨w1, w2, w3, w4⟩ := zml_ok (zcn m) hcm _ (z_look hl)
  have hts := C.2.2.2.2.2.2.2.1
  have hfr := C.2.2.2.2.2.2.2.2.2.1
  have hlo := C.2.2.2.2.2.2.2.2.2.2.1
  intro H locs ls hR hL hS hn
  have hz := zcat_sum (b := b) (sa := sa) st
  have hs2 := zsum_le hge
  rw [List.map_cons, List.map_cons]
  refine va_mmax (x := Int32.ofInt x) (y := Int32.ofInt y) C.1 C.2.1 (by rw [C.2.2.2.2.1]; exact hL.1.symm) C.2.2.2.2.2.1 (hts _ w1) (hts _ w2) (hts _ w3) (hts _ w4) (by omega) (by rw [hz]; omega) (by rw [C.2.2.2.2.2.2.2.2.2.2.2.1]; omega) (by rw [C.2.2.2.2.2.2.2.2.2.2.2.2]; omega) hd ?_
  have e : (if Int32.ofInt x < Int32.ofInt y then Int32.ofInt y else Int32.ofInt x) = Int32.ofInt (z_max x y) := by
    unfold z_max
    by_cases h : x < y
    · rw [if_pos h, if_pos ((zi_lt hS.tail.head hS.head).mpr h)]
    · rw [if_neg h, if_neg (fun e => h ((zi_lt hS.tail.head hS.head).mp e))]
  rw [e]
  refine kk H locs ls hR hL (hS.tail.tail.cons t4 ?_) hn
  unfold z_max
  split
  · exact hS.head
  · exact hS.tail.head
theorem z_rmin (C : zCx p R s mth args meth c D ids b sa adV n0 nE d m) {k : Nat} {q : Nat × Nat × Nat} {x y : Int} (hl : (zML (zcn m)).lookup k = some q) (hq : q.2.1 = 22) (h1 : 1 ≤ d) (hge : g ≤ nE) (ha : zcat st ≤ 8) (hd : decode (zby m) pc = .ok (.invokestatic k, 3)) (kk : zWW p l e R s mth args below meth c D ids b sa n0 m Q (pc + 3) lv ((0, z_min x y) :: st) g w) : zWW p l e R s mth args below meth c D ids b sa n0 m Q pc lv ((0, y) :: (0, x) :: st) g w := by
  have hcm : zcn m < 9 := by
    by_cases hc : zcn m < 9
    · exact hc
    · exfalso
      have : zML (zcn m) = [] := by
        unfold zML
        split <;> first | omega | rfl
      rw [this] at hl
      cases hl
  obtain ⟨m', kd, n⟩ := q
  cases hq
  obtain ⟨w1, w2, w3, w4⟩ := zml_ok (zcn m) hcm _ (z_look hl)
  have hts := C.2.2.2.2.2.2.2.1
  have hfr := C.2.2.2.2.2.2.2.2.2.1
  have hlo := C.2.2.2.2.2.2.2.2.2.2.1
  intro H locs ls hR hL hS hn
  have hz := zcat_sum (b := b) (sa := sa) st
  have hs2 := zsum_le hge
  rw [List.map_cons, List.map_cons]
  refine va_mmin (x := Int32.ofInt x) (y := Int32.ofInt y) C.1 C.2.1 (by rw [C.2.2.2.2.1]; exact hL.1.symm) C.2.2.2.2.2.1 (hts _ w1) (hts _ w2) (hts _ w3) (hts _ w4) (by omega) (by rw [hz]; omega) (by rw [C.2.2.2.2.2.2.2.2.2.2.2.1]; omega) (by rw [C.2.2.2.2.2.2.2.2.2.2.2.2]; omega) hd ?_
  have e : (if Int32.ofInt y < Int32.ofInt x then Int32.ofInt y else Int32.ofInt x) = Int32.ofInt (z_min x y) := by
    unfold z_min
    by_cases h : y < x
    · rw [if_pos h, if_pos ((zi_lt hS.head hS.tail.head).mpr h)]
    · rw [if_neg h, if_neg (fun e => h ((zi_lt hS.head hS.tail.head).mp e))]
  rw [e]
  refine kk H locs ls hR hL (hS.tail.tail.cons t4 ?_) hn
  unfold z_min
  split
  · exact hS.head
  · exact hS.tail.head
theorem zend {locs : List Loc} {v : zV} (hR : zRep D ids b sa s (zlm m) H locs g w) (hv : v.1 = 9 ∨ (v.1 < 4 ∧ zin v)) {t : State} (ht : t.heap = H) : zQc D ids b sa (zlm m) (v, g, w) args s (.returned (zrv b sa v)) t :=
  ⟨rfl, by rw [ht]; exact hR.1, by rw [ht]; exact hR.2.1, by rw [ht]; exact hR.2.2.1, fun q hq => by rw [ht]; exact hR.2.2.2.2.1 q hq, hR.2.2.2.2.2.2.1, hR.2.2.2.2.2.2.2, hv⟩
theorem z_iret (C : zCx p R s mth args meth c D ids b sa adV n0 nE d m) {x : Int} (hr : zrt m = some .int ∨ (zrt m = some .boolean ∧ (x = 0 ∨ x = 1))) (hd : decode (zby m) pc = .ok (.ireturn, 1)) : zWW p l e R s mth args below meth c D ids b sa n0 m (MQ below (zQc D ids b sa (zlm m) ((0, x), g, w)) args s (g - n0) (zsum g - zsum n0) (fun q => b ≤ q)) pc lv [(0, x)] g w := by
  intro H locs ls hR hL hS hn
  have hlk := C.2.2.2.1
  rcases hr with hr | ⟨hr, hx⟩
  · exact W.iret (v := Int32.ofInt x) C.1 C.2.1 (by rw [C.2.2.1]; exact hr) (fun t ht _ => zend hR (Or.inr ⟨t4, hS.head⟩) ht) hR.2.2.2.2.2.1 hd hlk
  · exact W.zret (v := Int32.ofInt x) (ty := .boolean) C.1 C.2.1 (by rw [C.2.2.1]; exact hr) (znar_bool hx).1 (fun t ht _ => zend hR (Or.inr ⟨t4, hS.head⟩) ht) hR.2.2.2.2.2.1 hd hlk
theorem z_lret (C : zCx p R s mth args meth c D ids b sa adV n0 nE d m) {x : Int} (hr : zrt m = some .long) (hd : decode (zby m) pc = .ok (.lreturn, 1)) : zWW p l e R s mth args below meth c D ids b sa n0 m (MQ below (zQc D ids b sa (zlm m) ((1, x), g, w)) args s (g - n0) (zsum g - zsum n0) (fun q => b ≤ q)) pc lv [(1, x)] g w := by
  intro H locs ls hR hL hS hn
  have hlk := C.2.2.2.1
  exact W.lret (v := Int64.ofInt x) C.1 C.2.1 (by rw [C.2.2.1]; exact hr) (fun t ht _ => zend hR (Or.inr ⟨t4, hS.head⟩) ht) hR.2.2.2.2.2.1 hd hlk
theorem z_vret (C : zCx p R s mth args meth c D ids b sa adV n0 nE d m) (hr : zrt m = none) (hd : decode (zby m) pc = .ok (.return_, 1)) : zWW p l e R s mth args below meth c D ids b sa n0 m (MQ below (zQc D ids b sa (zlm m) ((9, 0), g, w)) args s (g - n0) (zsum g - zsum n0) (fun q => b ≤ q)) pc lv [] g w := by
  intro H locs ls hR hL hS hn
  have hlk := C.2.2.2.1
  exact W.vret C.1 C.2.1 (by rw [C.2.2.1]; exact hr) (fun t ht _ => zend hR (Or.inl rfl) ht) hR.2.2.2.2.2.1 hd hlk
end Z5
