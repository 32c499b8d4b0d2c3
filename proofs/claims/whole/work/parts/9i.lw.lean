/-! the law's own rows: its frame over the small machine's world -/
theorem zsum_92 : zsum 92 ≤ 7302250 := by decide +kernel
section LW
variable {p : Program} {l : Launch} {e : Env} {s : State} {m : MethodId} {below : List Frame} {meth : Method} {c : Code} {b L : Nat} {xs : Nat → Int32} {Q : State → Prop} {pc : Nat} {ls : Array Slot} {rest : List Value} {D : va_G} {ids : Nat → ClassId} {sa adV : Nat → Nat} {H : Heap} {locs : List Loc} {g : Nat} {w : zW} {lk : Bool}
theorem lw_S (hR : zRep D ids s.heap.size sa s lk H locs g w) : va_S (fun q => s.heap.size ≤ q) s.heap H locs := ⟨hR.2.2.1, fun a _ h => hR.2.2.2.2.1 a (Nat.not_le.mp h), hR.2.2.2.2.2.1⟩
theorem lw_ht (C0 : lw_At p s m meth c b L xs) : ∀ x ∈ zTB, x.before #[Value.ref b] s = true := fun x h => C0.2.2.2.2.2.1 x (zTB_lw h)
theorem lw_words {m' : Nat} (C0 : lw_At p s m meth c b L xs) (hm : zmok m') : ∀ x ∈ zwd m', ∀ (a' : Array Value) (U : State), s.WarmedH U.vm → x.before a' U = true := by
  intro x hx a' U hW
  have hx' : x ∈ zTB := by
    rcases List.mem_cons.mp hx with rfl | h
    · exact hm.1
    · exact h
  exact word_at hW (good_of_word (List.mem_filter.mp hx').2) (lw_ht C0 x hx')
theorem lw_pre {m' : Nat} {as : List zV} (KK : zKK D ids s.heap.size sa adV s s.heap) (hR : zRep D ids s.heap.size sa s lk H locs g w) (hlk : zlm m' = true → lk = true) (has : zST as) : ∀ U : State, U.heap = H → s.WarmedH U.vm → zPc D ids s.heap.size sa adV (zlm m') as g w (as.map (zcv s.heap.size sa)).toArray U := by
  intro U hU hW
  exact ⟨rfl, by rw [hU]; exact hR.1, by rw [hU]; exact hR.2.1, hR.2.2.2.2.2.2.1, fun e => hR.2.2.2.2.2.2.2 (hlk e), by rw [hU]; exact KK.call hR.2.2.2.2.1 hW, has⟩
/-- behind a call of the law -/
theorem lw_after {m' : Nat} {r : zR} {a : Array Value} (hge : g ≤ r.2.1) (hR : zRep D ids s.heap.size sa s lk H locs g w)
    (kk : ∀ (H' : Heap) (locs' : List Loc), zRep D ids s.heap.size sa s (zlm m') H' locs' r.2.1 r.2.2 → (r.1.1 = 9 ∨ (r.1.1 < 4 ∧ zin r.1)) → W p l e room_1 s m #[Value.ref b] below meth c H' locs' r.2.1 (zsum r.2.1) Q (F0 m (pc + 3) ls ((zrv s.heap.size sa r.1).toList ++ rest))) {st : List Value} {T : State}
    (hrun : ∃ (v : Option Value) (st₀ t T' : State) (L : List Loc), st₀.heap = H ∧ Stand p l e room_1 s m #[Value.ref b] below meth c T' (locs ++ L) (g + (r.2.1 - g)) (zsum g + (zsum r.2.1 - zsum g)) ∧ (∀ q ∈ L, s.heap.size ≤ q.base) ∧ T'.heap = t.heap ∧ T'.vm = t.vm ∧ zQc D ids s.heap.size sa (zlm m') r a st₀ (.returned v) t ∧
      Goes p e below T (F0 m pc ls st) T' { (F0 m pc ls st) with pc := pc + 3, stack := v.toList ++ rest }) : ∃ t, Steps p.tables e below (T.setTop (F0 m pc ls st)) t ∧ Q t := by
  obtain ⟨v, st₀, t, T', L, h0, X', hLf, e1, e2, ⟨hv, hP, hsz, hle, hold, hok, hlk, hvv⟩, hst⟩ := hrun
  cases hv
  have hs2 := zsum_le hge
  rw [show g + (r.2.1 - g) = r.2.1 by omega, show zsum g + (zsum r.2.1 - zsum g) = zsum r.2.1 by omega] at X'
  rw [h0] at hle hold
  obtain ⟨t2, a1, b1⟩ := kk T'.heap (locs ++ L) ⟨by rw [e1]; exact hP, by rw [e1]; exact hsz, by rw [e1]; exact Nat.le_trans hR.2.2.1 hle, hR.2.2.2.1, fun q hq => by rw [e1, hold q hq]; exact hR.2.2.2.2.1 q hq, fun q hq => by
    rcases List.mem_append.mp hq with h | h
    · exact hR.2.2.2.2.2.1 q h
    · exact hLf q h, hok, hlk⟩ hvv T' rfl X'
  exact ⟨t2, hst t2 a1, b1⟩
theorem lw_recv {a : Int} {cc : Nat} (KK : zKK D ids s.heap.size sa adV s s.heap) (hR : zRep D ids s.heap.size sa s lk H locs g w) (h0 : 0 ≤ a) (hg : a < g) (hk : (zsh a).1 = cc) (hc : cc < 9) : ∃ cell : Cell, H[s.heap.size + a.toNat]? = some cell ∧ cell.vm.isStatics = false ∧ s.vm.findClass (zRn cc) = some cell.cls := by
  have he : (zws ids s.heap.size sa g w)[a.toNat]? = some (s.heap.size + a.toNat, zE ids s.heap.size sa (zsh a) (w a)) := by
    rw [zws_at (by omega), Int.toNat_of_nonneg h0]
  rw [zE_obj (by omega), hk] at he
  exact va_recv (q := (zRn cc, zTt cc, zNf cc)) KK.1 hR.1 (zcl_at cc hc) he
/-- a method of the class or of the reference is called -/
theorem lw_call {m' k n : Nat} {a x : Int} {As : List zV} {w' : zW} (C0 : lw_At p s m meth c b L xs) (KK : zKK D ids s.heap.size sa adV s s.heap) (hCl : Cl 10 m' ((2, a) :: As) 92 w = some ((0, x), 92, w')) (hmo : zmok m') (hf : (zflat ((2, a) :: As)).length ≤ zmx m') (hlm : zlm m' = true) (w1 : Jvm.Cond.methodLink R_law k (zyn m') ∈ zTB) (w2 : Jvm.Cond.instanceMethod (zyn m') ∈ zTB) (w3 : Jvm.Cond.selects (zyn m').cls (zyn m') (zyn m') ∈ zTB) (w4 : (parseMethodDescriptor (zyn m').desc).map (fun d => d.parameters.length) = some n) (hAs : As.length = n)
    (h0 : 0 ≤ a) (ha : a < 92) (hk : (zsh a).1 = zcn m') (hST : zST As) (hls : ls.size = 4) (hrest : (rest.map fun v => v.category).sum ≤ 8) (hd : decode code pc = .ok (.invokevirtual k, 3)) (hR : zRep D ids s.heap.size sa s true H locs 92 w)
    (kk : ∀ (H' : Heap) (locs' : List Loc), zRep D ids s.heap.size sa s true H' locs' 92 w' → zin (0, x) → W p l e room_1 s m #[Value.ref b] below meth c H' locs' 92 (zsum 92) Q (F0 m (pc + 3) ls (.int (Int32.ofInt x) :: rest))) : W p l e room_1 s m #[Value.ref b] below meth c H locs 92 (zsum 92) Q (F0 m pc ls ((As.map (zcv s.heap.size sa)).reverse ++ .ref (s.heap.size + a.toNat) :: rest)) := by
  obtain ⟨c1, c2, c3, c4, c5, c6, c7, c8, c9, c10⟩ := id C0
  have ht := lw_ht C0
  obtain ⟨o1, o2, o3, o4, o5, o6, o7⟩ := id hmo
  have hM := Cl_met hCl hmo hf
  have hz := zsum_92
  have hSa : zST ((2, a) :: As) := hST.cons (by show 2 < 4; decide) trivial
  intro T hT X
  refine lw_after (l := l) (b := b) (meth := meth) (c := c) (rest := rest) (m' := m') (r := ((0, x), 92, w')) (a := (Value.ref (s.heap.size + a.toNat) :: As.map (zcv s.heap.size sa)).toArray) (Nat.le_refl _) hR (fun H' locs' hR' hv => ?_) ?_
  · rw [hlm] at hR'
    have hx : zin (0, x) := by
      rcases hv with h | h
      · exact absurd h (by show ¬ (0 = 9); decide)
      · exact h.2
    exact kk H' locs' hR' hx
  · have := va_runV (H := H) (locs := locs) (cells := 92) (slots := zsum 92) (C := zRn (zcn m')) (As := As.map (zcv s.heap.size sa)) (rest := rest) (b := s.heap.size + a.toNat) (g := F0 m pc ls ((As.map (zcv s.heap.size sa)).reverse ++ .ref (s.heap.size + a.toNat) :: rest)) (n := n) (ret := zrt m') (bytes := zby m') (maxL := zmx m') (index := k) ⟨c1, c2, c4, c5, ht⟩ (hM l D ids s.heap.size sa adV)
      ⟨⟨rfl, rfl, by show 10 + 1 ≤ 14; decide, by show 8 + (zmx m' + 11) + 40 * 10 ≤ 544; omega, lw_words C0 hmo, List.mem_cons_self, ht _ o1, ht _ o2, o3, zlen w4, ht _ w1⟩, ht _ w2, by rw [← o5]; exact ht _ w3⟩
      ⟨zPc_blind, lw_recv KK hR h0 ha hk o7, fun U hU hW => by
        have := lw_pre (m' := m') KK hR (fun _ => rfl) hSa U hU hW
        rw [List.map_cons, zcv_ref h0] at this
        exact this⟩ rfl (by rw [List.length_map]; exact hAs) hls rfl (by show 2 * 0 + _ ≤ 8; omega) hd ⟨by show 92 + (92 - 92) ≤ 600000; decide, by show zsum 92 + (zsum 92 - zsum 92) ≤ 7302250; omega⟩ T hT X
    exact this
/-- a constructor is called -/
theorem lw_ctor {m' k g2 : Nat} {a : Int} {w' : zW} (C0 : lw_At p s m meth c b L xs) (KK : zKK D ids s.heap.size sa adV s s.heap) (hCl : Cl 9 m' [(2, a)] g w = some ((9, 0), g2, w')) (hmo : zmok m') (hf : (zflat [((2, a) : zV)]).length ≤ zmx m') (hlm : zlm m' = false) (hnone : zrt m' = none) (hname : (zyn m').name = "<init>") (w1 : Jvm.Cond.methodLink R_law k (zyn m') ∈ zTB) (w2 : Jvm.Cond.instanceMethod (zyn m') ∈ zTB) (w4 : (parseMethodDescriptor (zyn m').desc).map (fun d => d.parameters.length) = some 0)
    (h0 : 0 ≤ a) (hge : g ≤ g2) (h92 : g2 ≤ 92) (hls : ls.size = 4) (hrest : (rest.map fun v => v.category).sum ≤ 8) (hd : decode code pc = .ok (.invokespecial k, 3)) (hR : zRep D ids s.heap.size sa s false H locs g w)
    (kk : ∀ (H' : Heap) (locs' : List Loc), zRep D ids s.heap.size sa s false H' locs' g2 w' → W p l e room_1 s m #[Value.ref b] below meth c H' locs' g2 (zsum g2) Q (F0 m (pc + 3) ls rest)) : W p l e room_1 s m #[Value.ref b] below meth c H locs g (zsum g) Q (F0 m pc ls (.ref (s.heap.size + a.toNat) :: rest)) := by
  obtain ⟨c1, c2, c3, c4, c5, c6, c7, c8, c9, c10⟩ := id C0
  have ht := lw_ht C0
  obtain ⟨o1, o2, o3, o4, o5, o6, o7⟩ := id hmo
  rw [hnone] at o1
  have hM := Cl_met hCl hmo hf
  have hz := zsum_92
  have hs1 := zsum_le hge
  have hs2 := zsum_le h92
  have hSa : zST [((2, a) : zV)] := fun v hv => by
    rw [List.mem_singleton] at hv
    subst hv
    exact ⟨by show 2 < 4; decide, trivial⟩
  intro T hT X
  refine lw_after (l := l) (b := b) (meth := meth) (c := c) (rest := rest) (m' := m') (r := ((9, 0), g2, w')) (a := (Value.ref (s.heap.size + a.toNat) :: []).toArray) hge hR (fun H' locs' hR' hv => ?_) ?_
  · rw [hlm] at hR'
    exact kk H' locs' hR'
  · have := va_runI (H := H) (locs := locs) (cells := g) (slots := zsum g) (As := []) (rest := rest) (b := s.heap.size + a.toNat) (g := F0 m pc ls (.ref (s.heap.size + a.toNat) :: rest)) (n := 0) (bytes := zby m') (maxL := zmx m') (index := k) ⟨c1, c2, c4, c5, ht⟩ (hM l D ids s.heap.size sa adV)
      ⟨⟨rfl, rfl, by show 9 + 1 ≤ 14; decide, by show 8 + (zmx m' + 11) + 40 * 9 ≤ 544; omega, lw_words C0 hmo, by rw [← hnone]; exact List.mem_cons_self, ht _ o1, ht _ o2, o3, zlen w4, ht _ w1⟩, hname, ht _ w2⟩
      ⟨zPc_blind, fun U hU hW => by
        have := lw_pre (m' := m') KK hR (fun e => by rw [hlm] at e; cases e) hSa U hU hW
        rw [List.map_cons, List.map_nil, zcv_ref h0] at this
        exact this⟩ rfl rfl hls rfl (by show 2 * 0 + _ ≤ 8; omega) hd ⟨by show g + (g2 - g) ≤ 600000; omega, by show zsum g + (zsum g2 - zsum g) ≤ 7302250; omega⟩ T hT X
    exact this
/-- an object is made -/
theorem lw_new {k c' : Nat} (C0 : lw_At p s m meth c b L xs) (KK : zKK D ids s.heap.size sa adV s s.heap) (hc9 : c' < 9) (hsh : zsh g = (c', zNf c')) (h92 : g + 1 ≤ 92) (w1 : Jvm.Cond.classLink R_law k (zRn c') ∈ zTB) (w2 : Jvm.Cond.instantiable (zRn c') (zNf c') ∈ zTB) (w3 : Jvm.Cond.initialized (zRn c') ∈ zTB) (hd : decode code pc = .ok (.new k, 3)) (hR : zRep D ids s.heap.size sa s false H locs g w)
    (kk : ∀ (H' : Heap), zRep D ids s.heap.size sa s false H' locs (g + 1) (zblank w g (fun j => if ztg c' j.toNat = 2 then -1 else 0)) → W p l e room_1 s m #[Value.ref b] below meth c H' locs (g + 1) (zsum (g + 1)) Q (F0 m (pc + 3) ls (.ref (s.heap.size + g) :: rest))) : W p l e room_1 s m #[Value.ref b] below meth c H locs g (zsum g) Q (F0 m pc ls rest) := by
  obtain ⟨c1, c2, c3, c4, c5, c6, c7, c8, c9, c10⟩ := id C0
  have hts := lw_ht C0
  have hKn := KK.1.1 c' _ (zcl_at c' hc9)
  have hs1 := zsum_succ g
  rw [hsh] at hs1
  have hs3 := zsum_le h92
  have hz := zsum_92
  have hs1' : zsum (g + 1) = zsum g + zNf c' := hs1
  refine W.newcK (n := zNf c') c1 c2 c5 (hts _ w1) (hts _ w2) (hts _ w3) rfl hd (by show g + 1 ≤ 600000; omega) (by show zsum g + zNf c' ≤ 7302250; omega) hKn.2.1 hR.2.1 fun H1 kC hkC e1 z1 o1 => ?_
  rw [← hs1']
  have hlt : ∀ a : Nat, a < g → H1[s.heap.size + a]? = H[s.heap.size + a]? := fun a ha => o1 (s.heap.size + a) (by omega)
  refine kk H1 ⟨zP_iff.mpr fun a' ha' => ?_, by rw [z1]; omega, by rw [z1]; have := hR.2.2.1; have := hR.2.1; omega, hR.2.2.2.1, fun q hq => (o1 q (by omega)).trans (hR.2.2.2.2.1 q hq), hR.2.2.2.2.2.1, ?_, fun e => by cases e⟩
  · by_cases e : a' = g
    · subst e
      have eb : (zblank w a' (fun j => if ztg c' j.toNat = 2 then -1 else 0)) a' = fun j : Int => if ztg c' j.toNat = 2 then -1 else 0 := by
        funext j
        unfold zblank
        rw [if_pos rfl]
      rw [eb, hsh, zE_obj hc9]
      refine ⟨_, zcl_at c' hc9, (u_born (zty c') hts (zuw_ok c' hc9) hKn hkC e1 (zty_ok c' hc9)).to fun j hj => ?_⟩
      have hj' : j < zNf c' := hj
      unfold vp_V
      rw [List.getD_eq_getElem?_getD, List.getElem?_map, List.getElem?_range hj']
      show defaultValue (zty c' j) = zcv s.heap.size sa (ztg c' j, if ztg c' ((j : Nat) : Int).toNat = 2 then -1 else 0)
      have hg := zty_good c' hc9 j hj'
      rw [Int.toNat_natCast]
      unfold ztg
      cases hty : zty c' j with
      | int => rfl
      | boolean => rfl
      | object nm => rfl
      | array t => rfl
      | _ => rw [hty] at hg; cases hg
    · have eb : (zblank w g (fun j => if ztg c' j.toNat = 2 then -1 else 0)) a' = w a' := by
        funext j
        unfold zblank
        rw [if_neg (by omega)]
      rw [eb]
      exact (zP_iff.mp hR.1 a' (by omega)).kept (hlt a' (by omega))
  · intro a' ha' j hj
    unfold zblank
    by_cases e : a' = g
    · rw [if_pos (by omega)]
      dsimp only
      split <;> exact zin_small (by decide) (by decide)
    · rw [if_neg (by omega)]
      exact hR.2.2.2.2.2.2.1 a' (by omega) j hj
end LW
theorem vin {k j L : Nat} (h : k + j < L) (hL : L ≤ 1536) : vp_in (nI k + nI j) L := by
  rw [nI_add]
  exact nI_in h (by omega)
theorem zcv_int (b : Nat) (sa : Nat → Nat) (v : Int32) : zcv b sa (0, v.toInt) = .int v := by
  show Value.int (Int32.ofInt v.toInt) = .int v
  rw [zo_i]
theorem zST_1 (v : Int32) : zST [((0, v.toInt) : zV)] := fun x hx => by
  rw [List.mem_singleton] at hx
  subst hx
  exact ⟨by show 0 < 4; decide, zin_i v⟩
theorem zST_2 (v u : Int32) : zST [((0, v.toInt) : zV), (0, u.toInt)] := (zST_1 u).cons (by show 0 < 4; decide) (zin_i v)
theorem zST_0 : zST [] := fun _ h => absurd h List.not_mem_nil
