def zwd (m : Nat) : List Jvm.Cond := Jvm.Cond.code (zyn m) (zby m) (zmx m) (zrt m) :: zTB
def zrm (d mc ms : Nat) : Room := { frames := d, cells := mc, slots := ms, locals := 40 * d }
def zPc (D : va_G) (ids : Nat → ClassId) (b : Nat) (sa adV : Nat → Nat) (lk : Bool) (as : List zV) (g : Nat) (w : zW) : Array Value → State → Prop := fun v U =>
  v = (as.map (zcv b sa)).toArray ∧ va_P D vwCl (zws ids b sa g w) U.heap ∧ U.heap.size = b + g ∧ zok g w ∧ (lk = true → g = zN ∧ zLk w) ∧ zKK D ids b sa adV U U.heap ∧ zST as
def zMt (d m : Nat) (as : List zV) (g : Nat) (w : zW) (r : zR) : Prop := ∀ (l : Launch) (D : va_G) (ids : Nat → ClassId) (b : Nat) (sa adV : Nat → Nat),
  Met l (zyn m) (zwd m) (zrm d (r.2.1 - g) (zsum r.2.1 - zsum g)) (zPc D ids b sa adV (zlm m) as g w) (zQc D ids b sa (zlm m) r) (r.2.1 - g) (zsum r.2.1 - zsum g) (fun q => b ≤ q)
theorem zKK.call {D : va_G} {ids : Nat → ClassId} {b : Nat} {sa adV : Nat → Nat} {s U : State} {H : Heap} (h : zKK D ids b sa adV s s.heap) (hq : ∀ q : Nat, q < b → H[q]? = s.heap[q]?) (hW : s.WarmedH U.vm) : zKK D ids b sa adV U H := by
  obtain ⟨h1, h2, h3, h4, h5⟩ := h
  have hq' : ∀ a : Nat, a < s.heap.size → ¬ (fun q => b ≤ q) a → H[a]? = s.heap[a]? := fun a _ h => hq a (Nat.not_le.mp h)
  refine ⟨h1.moved hW.alike, fun x hx => ?_, fun i hi => (h3 i hi).warm hW, (h4.moved hW.alike).kept hq', (h5.moved hW.alike).kept hq'⟩
  have hn := (List.mem_filter.mp hx).2
  have h9 := h2 x hx
  cases x <;> first | (exact va_Nw.warmM hW h9) | (exfalso; revert hn; simp [zisN])
theorem zKK.blind {D : va_G} {ids : Nat → ClassId} {b : Nat} {sa adV : Nat → Nat} {U : State} {g : JFrame} {mk : MethodId} {a : Array Value} (h : zKK D ids b sa adV U U.heap) : zKK D ids b sa adV (U.calling g mk a) (U.calling g mk a).heap := by
  obtain ⟨h1, h2, h3, h4, h5⟩ := h
  refine ⟨va_K.moved (u := U) (U := U.calling g mk a) (Vm.Alike.refl U.vm) h1, fun x hx => ?_, fun i hi => vk_R.same (u := U) rfl (h3 i hi), vk_S.moved (u := U) (U := U.calling g mk a) (Vm.Alike.refl U.vm) h4, va_Z.moved (u := U) (U := U.calling g mk a) (Vm.Alike.refl U.vm) h5⟩
  have hn := (List.mem_filter.mp hx).2
  have h9 := h2 x hx
  cases x <;> first | (exact va_Nw.same (u := U) rfl rfl h9) | (exfalso; revert hn; simp [zisN])
theorem zPc_blind {D : va_G} {ids : Nat → ClassId} {b : Nat} {sa adV : Nat → Nat} {lk : Bool} {as : List zV} {g : Nat} {w : zW} : FrameBlind (zPc D ids b sa adV lk as g w) :=
  fun _ _ _ _ q => ⟨q.1, q.2.1, q.2.2.1, q.2.2.2.1, q.2.2.2.2.1, q.2.2.2.2.2.1.blind, q.2.2.2.2.2.2⟩
theorem zpush_map {b : Nat} {sa : Nat → Nat} (v : zV) (st : List zV) : (zpush v st).map (zcv b sa) = (zrv b sa v).toList ++ st.map (zcv b sa) := by
  unfold zpush zrv
  split <;> rfl
theorem zpush_ST {v : zV} {st : List zV} (hv : v.1 = 9 ∨ (v.1 < 4 ∧ zin v)) (h : zST st) : zST (zpush v st) := by
  unfold zpush
  split
  · exact h
  · next h9 =>
    rcases hv with hv | hv
    · exact absurd hv h9
    · exact h.cons hv.1 hv.2
section Z6
variable {p : Program} {l : Launch} {e : Env} {R : Room} {s : State} {mth : MethodId} {args : Array Value} {below : List Frame} {meth : Method} {c : Code} {D : va_G} {ids : Nat → ClassId} {b : Nat} {sa adV : Nat → Nat} {n0 nE d m : Nat} {Q : State → Prop} {pc : Nat} {lv st : List zV} {g : Nat} {w : zW}
theorem zwd_ok (C : zCx p R s mth args meth c D ids b sa adV n0 nE d m) {m' : Nat} (hm : zmok m') : ∀ x ∈ zwd m', ∀ (a' : Array Value) (U : State), s.WarmedH U.vm → x.before a' U = true := by
  intro x hx a' U hW
  have hx' : x ∈ zTB := by
    rcases List.mem_cons.mp hx with rfl | h
    · exact hm.1
    · exact h
  exact word_at hW (good_of_word (List.mem_filter.mp hx').2) (C.2.2.2.2.2.2.2.1 x hx')
/-- behind a call -/
theorem z_after {m' : Nat} {as rest : List zV} {r : zR} {a : Array Value} (C : zCx p R s mth args meth c D ids b sa adV n0 nE d m) (hmode : zmode m m' g w = true) (hge : g ≤ r.2.1) (kk : zWW p l e R s mth args below meth c D ids b sa n0 m Q (pc + 3) lv (zpush r.1 rest) r.2.1 r.2.2) {H : Heap} {locs : List Loc} {ls : Array Slot} (hR : zRep D ids b sa s (zlm m) H locs g w) (hL : zLV b sa ls (zmx m) lv) (hS : zST rest) (hn : n0 ≤ g)
    {T : State} (hrun : ∃ (v : Option Value) (st₀ t T' : State) (L : List Loc), st₀.heap = H ∧ Stand p l e R s mth args below meth c T' (locs ++ L) (g - n0 + (r.2.1 - g)) (zsum g - zsum n0 + (zsum r.2.1 - zsum g)) ∧ (∀ q ∈ L, b ≤ q.base) ∧ T'.heap = t.heap ∧ T'.vm = t.vm ∧ zQc D ids b sa (zlm m') r a st₀ (.returned v) t ∧
      Goes p e below T (F0 mth pc ls (st.map (zcv b sa))) T' { (F0 mth pc ls (st.map (zcv b sa))) with pc := pc + 3, stack := v.toList ++ rest.map (zcv b sa) }) : ∃ t, Steps p.tables e below (T.setTop (F0 mth pc ls (st.map (zcv b sa)))) t ∧ Q t := by
  obtain ⟨v, st₀, t, T', L, h0, X', hLf, e1, e2, ⟨hv, hP, hsz, hle, hold, hok, hlk, hvv⟩, hst⟩ := hrun
  cases hv
  have hs1 := zsum_le hn
  have hs2 := zsum_le hge
  rw [show g - n0 + (r.2.1 - g) = r.2.1 - n0 by omega, show zsum g - zsum n0 + (zsum r.2.1 - zsum g) = zsum r.2.1 - zsum n0 by omega] at X'
  rw [h0] at hle hold
  obtain ⟨t2, a1, b1⟩ := kk T'.heap (locs ++ L) ls ⟨by rw [e1]; exact hP, by rw [e1]; exact hsz, by rw [e1]; exact Nat.le_trans hR.2.2.1 hle, hR.2.2.2.1, fun q hq => by rw [e1, hold q hq]; exact hR.2.2.2.2.1 q hq, fun q hq => by
    rcases List.mem_append.mp hq with h | h
    · exact hR.2.2.2.2.2.1 q h
    · exact hLf q h, hok, fun e => hlk (by
      unfold zmode at hmode
      by_cases h9 : zlm m' = true
      · exact h9
      · rw [if_neg h9, e] at hmode
        cases hmode)⟩ hL (zpush_ST hvv hS) (by omega) T' rfl X'
  rw [zpush_map] at a1
  exact ⟨t2, hst t2 a1, b1⟩
theorem zLkB_ok {w : zW} (h : zLkB w = true) : zLk w := by
  intro q hq
  have := List.all_eq_true.mp h q hq
  simpa using this
theorem zPre {m' : Nat} {as : List zV} (C : zCx p R s mth args meth c D ids b sa adV n0 nE d m) (hmode : zmode m m' g w = true) {H : Heap} {locs : List Loc} (hR : zRep D ids b sa s (zlm m) H locs g w) (has : zST as) : ∀ U : State, U.heap = H → s.WarmedH U.vm → zPc D ids b sa adV (zlm m') as g w (as.map (zcv b sa)).toArray U := by
  intro U hU hW
  refine ⟨rfl, by rw [hU]; exact hR.1, by rw [hU]; exact hR.2.1, hR.2.2.2.2.2.2.1, fun e => ?_, by rw [hU]; exact C.2.2.2.2.2.2.2.2.1.call hR.2.2.2.2.1 hW, has⟩
  unfold zmode at hmode
  rw [if_pos e] at hmode
  simp only [Bool.or_eq_true, Bool.and_eq_true, decide_eq_true_eq] at hmode
  rcases hmode with h | ⟨h1, h2⟩
  · exact hR.2.2.2.2.2.2.2 h
  · exact ⟨h1, zLkB_ok h2⟩
theorem zlen {y : MethodName} {n : Nat} (h : (parseMethodDescriptor y.desc).map (fun d => d.parameters.length) = some n) : ∀ sig, parseMethodDescriptor y.desc = some sig → n = sig.parameters.length := by
  intro sig hs
  rw [hs] at h
  exact (Option.some.inj h).symm
theorem zrecv {a : Int} {cc : Nat} (C : zCx p R s mth args meth c D ids b sa adV n0 nE d m) {H : Heap} {locs : List Loc} (hR : zRep D ids b sa s (zlm m) H locs g w) (h0 : 0 ≤ a) (hg : a < g) (hk : (zsh a).1 = cc) (hc : cc < 9) : ∃ cell : Cell, H[b + a.toNat]? = some cell ∧ cell.vm.isStatics = false ∧ s.vm.findClass (zRn cc) = some cell.cls := by
  have he := zPat hR h0 hg
  rw [zE_obj (by omega), hk] at he
  exact va_recv (q := (zRn cc, zTt cc, zNf cc)) C.2.2.2.2.2.2.2.2.1.1 hR.1 (zcl_at cc hc) he
theorem z_call0 (C : zCx p R s mth args meth c D ids b sa adV n0 nE d m) {k m' n d' : Nat} {a : Int} {As rest : List zV} {r : zR} (hl : (zML (zcn m)).lookup k = some (m', 0, n)) (hmode : zmode m m' g w = true) (hAs : As.length = n) (hst : st = As.reverse ++ (2, a) :: rest) (h0 : 0 ≤ a) (hag : a < g) (hk : (zsh a).1 = zcn m') (hz : zcat rest ≤ 8)
    (hdd : d = d' + 1) (hge : g ≤ r.2.1) (hle : r.2.1 ≤ nE) (hM : zMt d' m' ((2, a) :: As) g w r) (hd : decode (zby m) pc = .ok (.invokevirtual k, 3)) (kk : zWW p l e R s mth args below meth c D ids b sa n0 m Q (pc + 3) lv (zpush r.1 rest) r.2.1 r.2.2) : zWW p l e R s mth args below meth c D ids b sa n0 m Q pc lv st g w := by
  have hcm : zcn m < 9 := by
    by_cases hc : zcn m < 9
    · exact hc
    · exfalso
      have : zML (zcn m) = [] := by
        unfold zML
        split <;> first | omega | rfl
      rw [this] at hl
      cases hl
  obtain ⟨hmo, w1, w2, w3, w4⟩ := zml_ok (zcn m) hcm _ (z_look hl)
  have hmo : zmok m' := hmo
  obtain ⟨o1, o2, o3, o4, o5, o6, o7⟩ := id hmo
  have hts := C.2.2.2.2.2.2.2.1
  have hfr := C.2.2.2.2.2.2.2.2.2.1
  have hlo := C.2.2.2.2.2.2.2.2.2.2.1
  intro H locs ls hR hL hS hn T hT X
  have hSa : zST ((2, a) :: As) := fun v hv => hS v (by
    rw [hst]
    rcases List.mem_cons.mp hv with rfl | h
    · simp
    · simp [h])
  have hSr : zST rest := fun v hv => hS v (by rw [hst]; simp [hv])
  have hs1 := zsum_le hn
  have hs2 := zsum_le hge
  have hs3 := zsum_le hle
  refine z_after (r := r) (m' := m') (as := As) (a := (Value.ref (b + a.toNat) :: As.map (zcv b sa)).toArray) C hmode hge kk hR hL hSr hn ?_
  have := va_runV (H := H) (locs := locs) (cells := g - n0) (slots := zsum g - zsum n0) (C := zRn (zcn m')) (As := As.map (zcv b sa)) (rest := rest.map (zcv b sa)) (b := b + a.toNat) (g := F0 mth pc ls (st.map (zcv b sa))) (n := n) (ret := zrt m') (bytes := zby m') (maxL := zmx m') (index := k) ⟨C.1, C.2.1, C.2.2.2.2.1, C.2.2.2.2.2.1, hts⟩ (hM l D ids b sa adV)
    ⟨⟨rfl, rfl, by show d' + 1 ≤ _; omega, by show 8 + (zmx m' + 11) + 40 * d' ≤ _; omega, zwd_ok C hmo, List.mem_cons_self, hts _ o1, hts _ o2, o3, zlen w4, hts _ w1⟩, hts _ w2, by rw [← o5]; exact hts _ w3⟩
    ⟨zPc_blind, zrecv C hR h0 hag hk o7, fun U hU hW => by
      have := zPre C hmode hR hSa U hU hW
      rw [List.map_cons, zcv_ref h0] at this
      exact this⟩ rfl (by rw [List.length_map]; exact hAs) hL.1 (by rw [hst]; simp [zcv_ref h0]) (by rw [zcat_sum]; show 2 * 0 + _ ≤ 8; omega) hd ⟨by rw [C.2.2.2.2.2.2.2.2.2.2.2.1]; omega, by rw [C.2.2.2.2.2.2.2.2.2.2.2.2]; omega⟩ T hT X
  exact this
theorem z_call1 (C : zCx p R s mth args meth c D ids b sa adV n0 nE d m) {k m' n d' : Nat} {As rest : List zV} {r : zR} (hl : (zML (zcn m)).lookup k = some (m', 1, n)) (hmode : zmode m m' g w = true) (hAs : As.length = n) (hst : st = As.reverse ++ rest) (hz : zcat rest ≤ 8)
    (hdd : d = d' + 1) (hge : g ≤ r.2.1) (hle : r.2.1 ≤ nE) (hM : zMt d' m' As g w r) (hd : decode (zby m) pc = .ok (.invokestatic k, 3)) (kk : zWW p l e R s mth args below meth c D ids b sa n0 m Q (pc + 3) lv (zpush r.1 rest) r.2.1 r.2.2) : zWW p l e R s mth args below meth c D ids b sa n0 m Q pc lv st g w := by
  have hcm : zcn m < 9 := by
    by_cases hc : zcn m < 9
    · exact hc
    · exfalso
      have : zML (zcn m) = [] := by
        unfold zML
        split <;> first | omega | rfl
      rw [this] at hl
      cases hl
  obtain ⟨hmo, w1, w2, w4⟩ := zml_ok (zcn m) hcm _ (z_look hl)
  have hmo : zmok m' := hmo
  obtain ⟨o1, o2, o3, o4, o5, o6, o7⟩ := id hmo
  have hts := C.2.2.2.2.2.2.2.1
  have hfr := C.2.2.2.2.2.2.2.2.2.1
  have hlo := C.2.2.2.2.2.2.2.2.2.2.1
  intro H locs ls hR hL hS hn T hT X
  have hSa : zST As := fun v hv => hS v (by rw [hst]; simp [hv])
  have hSr : zST rest := fun v hv => hS v (by rw [hst]; simp [hv])
  have hs1 := zsum_le hn
  have hs2 := zsum_le hge
  have hs3 := zsum_le hle
  refine z_after (r := r) (m' := m') (as := As) (a := (As.map (zcv b sa)).toArray) C hmode hge kk hR hL hSr hn ?_
  have := va_runS (H := H) (locs := locs) (cells := g - n0) (slots := zsum g - zsum n0) (As := As.map (zcv b sa)) (rest := rest.map (zcv b sa)) (g := F0 mth pc ls (st.map (zcv b sa))) (n := n) (ret := zrt m') (bytes := zby m') (maxL := zmx m') (index := k) ⟨C.1, C.2.1, C.2.2.2.2.1, C.2.2.2.2.2.1, hts⟩ (hM l D ids b sa adV)
    ⟨⟨rfl, rfl, by show d' + 1 ≤ _; omega, by show 8 + (zmx m' + 11) + 40 * d' ≤ _; omega, zwd_ok C hmo, List.mem_cons_self, hts _ o1, hts _ o2, o3, zlen w4, hts _ w1⟩, hts _ w2⟩
    ⟨zPc_blind, fun U hU hW => zPre C hmode hR hSa U hU hW⟩ rfl (by rw [List.length_map]; exact hAs) hL.1 (by rw [hst]; simp) (by rw [zcat_sum]; show 2 * 0 + _ ≤ 8; omega) hd ⟨by rw [C.2.2.2.2.2.2.2.2.2.2.2.1]; omega, by rw [C.2.2.2.2.2.2.2.2.2.2.2.2]; omega⟩ T hT X
  exact this
theorem z_call11 (C : zCx p R s mth args meth c D ids b sa adV n0 nE d m) {k m' n d' : Nat} {As rest : List zV} {r : zR} (hl : (zML (zcn m)).lookup k = some (m', 11, n)) (hmode : zmode m m' g w = true) (hAs : As.length = n) (hst : st = As.reverse ++ rest) (hz : zcat rest ≤ 8)
    (hdd : d = d' + 1) (hge : g ≤ r.2.1) (hle : r.2.1 ≤ nE) (hM : zMt d' m' As g w r) (hd : decode (zby m) pc = .ok (.invokestatic k, 3)) (kk : zWW p l e R s mth args below meth c D ids b sa n0 m Q (pc + 3) lv (zpush r.1 rest) r.2.1 r.2.2) : zWW p l e R s mth args below meth c D ids b sa n0 m Q pc lv st g w := by
  have hcm : zcn m < 9 := by
    by_cases hc : zcn m < 9
    · exact hc
    · exfalso
      have : zML (zcn m) = [] := by
        unfold zML
        split <;> first | omega | rfl
      rw [this] at hl
      cases hl
  obtain ⟨hmo, w1, w2, w4⟩ := zml_ok (zcn m) hcm _ (z_look hl)
  have hmo : zmok m' := hmo
  obtain ⟨o1, o2, o3, o4, o5, o6, o7⟩ := id hmo
  have hts := C.2.2.2.2.2.2.2.1
  have hfr := C.2.2.2.2.2.2.2.2.2.1
  have hlo := C.2.2.2.2.2.2.2.2.2.2.1
  intro H locs ls hR hL hS hn T hT X
  have hSa : zST As := fun v hv => hS v (by rw [hst]; simp [hv])
  have hSr : zST rest := fun v hv => hS v (by rw [hst]; simp [hv])
  have hs1 := zsum_le hn
  have hs2 := zsum_le hge
  have hs3 := zsum_le hle
  refine z_after (r := r) (m' := m') (as := As) (a := (As.map (zcv b sa)).toArray) C hmode hge kk hR hL hSr hn ?_
  have := va_runSN (H := H) (locs := locs) (cells := g - n0) (slots := zsum g - zsum n0) (As := As.map (zcv b sa)) (rest := rest.map (zcv b sa)) (g := F0 mth pc ls (st.map (zcv b sa))) (n := n) (ret := zrt m') (bytes := zby m') (maxL := zmx m') (index := k) ⟨C.1, C.2.1, C.2.2.2.2.1, C.2.2.2.2.2.1, hts⟩ (hM l D ids b sa adV)
    ⟨⟨⟨rfl, rfl, by show d' + 1 ≤ _; omega, by show 8 + (zmx m' + 11) + 40 * d' ≤ _; omega, zwd_ok C hmo, List.mem_cons_self⟩, hts _ o1, hts _ o2, o3, zlen w4, va_Nw.use rfl (C.2.2.2.2.2.2.2.2.1.2.1 _ w1)⟩, hts _ w2, trivial⟩
    ⟨zPc_blind, fun U hU hW => zPre C hmode hR hSa U hU hW⟩ rfl (by rw [List.length_map]; exact hAs) hL.1 (by rw [hst]; simp) (by rw [zcat_sum]; show 2 * 0 + _ ≤ 8; omega) hd ⟨by rw [C.2.2.2.2.2.2.2.2.2.2.2.1]; omega, by rw [C.2.2.2.2.2.2.2.2.2.2.2.2]; omega⟩ T hT X
  exact this
theorem z_call2 (C : zCx p R s mth args meth c D ids b sa adV n0 nE d m) {k m' n d' : Nat} {a : Int} {As rest : List zV} {r : zR} (hl : (zML (zcn m)).lookup k = some (m', 2, n)) (hmode : zmode m m' g w = true) (hAs : As.length = n) (hst : st = As.reverse ++ (2, a) :: rest) (h0 : 0 ≤ a) (hz : zcat rest ≤ 8)
    (hdd : d = d' + 1) (hge : g ≤ r.2.1) (hle : r.2.1 ≤ nE) (hM : zMt d' m' ((2, a) :: As) g w r) (hd : decode (zby m) pc = .ok (.invokespecial k, 3)) (kk : zWW p l e R s mth args below meth c D ids b sa n0 m Q (pc + 3) lv (zpush r.1 rest) r.2.1 r.2.2) : zWW p l e R s mth args below meth c D ids b sa n0 m Q pc lv st g w := by
  have hcm : zcn m < 9 := by
    by_cases hc : zcn m < 9
    · exact hc
    · exfalso
      have : zML (zcn m) = [] := by
        unfold zML
        split <;> first | omega | rfl
      rw [this] at hl
      cases hl
  obtain ⟨hmo, w1, w2, w3, w5, w4⟩ := zml_ok (zcn m) hcm _ (z_look hl)
  have hmo : zmok m' := hmo
  obtain ⟨o1, o2, o3, o4, o5, o6, o7⟩ := id hmo
  have hts := C.2.2.2.2.2.2.2.1
  have hfr := C.2.2.2.2.2.2.2.2.2.1
  have hlo := C.2.2.2.2.2.2.2.2.2.2.1
  have w5' : zrt m' = none := w5
  rw [w5'] at o1
  intro H locs ls hR hL hS hn T hT X
  have hSa : zST ((2, a) :: As) := fun v hv => hS v (by
    rw [hst]
    rcases List.mem_cons.mp hv with rfl | h
    · simp
    · simp [h])
  have hSr : zST rest := fun v hv => hS v (by rw [hst]; simp [hv])
  have hs1 := zsum_le hn
  have hs2 := zsum_le hge
  have hs3 := zsum_le hle
  refine z_after (r := r) (m' := m') (as := As) (a := (Value.ref (b + a.toNat) :: As.map (zcv b sa)).toArray) C hmode hge kk hR hL hSr hn ?_
  have := va_runI (H := H) (locs := locs) (cells := g - n0) (slots := zsum g - zsum n0) (As := As.map (zcv b sa)) (rest := rest.map (zcv b sa)) (b := b + a.toNat) (g := F0 mth pc ls (st.map (zcv b sa))) (n := n) (bytes := zby m') (maxL := zmx m') (index := k) ⟨C.1, C.2.1, C.2.2.2.2.1, C.2.2.2.2.2.1, hts⟩ (hM l D ids b sa adV)
    ⟨⟨rfl, rfl, by show d' + 1 ≤ _; omega, by show 8 + (zmx m' + 11) + 40 * d' ≤ _; omega, zwd_ok C hmo, by rw [← w5']; exact List.mem_cons_self, hts _ o1, hts _ o2, o3, zlen w4, hts _ w1⟩, w3, hts _ w2⟩
    ⟨zPc_blind, fun U hU hW => by
      have := zPre C hmode hR hSa U hU hW
      rw [List.map_cons, zcv_ref h0] at this
      exact this⟩ rfl (by rw [List.length_map]; exact hAs) hL.1 (by rw [hst]; simp [zcv_ref h0]) (by rw [zcat_sum]; show 2 * 0 + _ ≤ 8; omega) hd ⟨by rw [C.2.2.2.2.2.2.2.2.2.2.2.1]; omega, by rw [C.2.2.2.2.2.2.2.2.2.2.2.2]; omega⟩ T hT X
  exact this
theorem z_call12 (C : zCx p R s mth args meth c D ids b sa adV n0 nE d m) {k m' n d' : Nat} {a : Int} {As rest : List zV} {r : zR} (hl : (zML (zcn m)).lookup k = some (m', 12, n)) (hmode : zmode m m' g w = true) (hAs : As.length = n) (hst : st = As.reverse ++ (2, a) :: rest) (h0 : 0 ≤ a) (hz : zcat rest ≤ 8)
    (hdd : d = d' + 1) (hge : g ≤ r.2.1) (hle : r.2.1 ≤ nE) (hM : zMt d' m' ((2, a) :: As) g w r) (hd : decode (zby m) pc = .ok (.invokespecial k, 3)) (kk : zWW p l e R s mth args below meth c D ids b sa n0 m Q (pc + 3) lv (zpush r.1 rest) r.2.1 r.2.2) : zWW p l e R s mth args below meth c D ids b sa n0 m Q pc lv st g w := by
  have hcm : zcn m < 9 := by
    by_cases hc : zcn m < 9
    · exact hc
    · exfalso
      have : zML (zcn m) = [] := by
        unfold zML
        split <;> first | omega | rfl
      rw [this] at hl
      cases hl
  obtain ⟨hmo, w1, w2, w3, w5, w4⟩ := zml_ok (zcn m) hcm _ (z_look hl)
  have hmo : zmok m' := hmo
  obtain ⟨o1, o2, o3, o4, o5, o6, o7⟩ := id hmo
  have hts := C.2.2.2.2.2.2.2.1
  have hfr := C.2.2.2.2.2.2.2.2.2.1
  have hlo := C.2.2.2.2.2.2.2.2.2.2.1
  have w5' : zrt m' = none := w5
  rw [w5'] at o1
  intro H locs ls hR hL hS hn T hT X
  have hSa : zST ((2, a) :: As) := fun v hv => hS v (by
    rw [hst]
    rcases List.mem_cons.mp hv with rfl | h
    · simp
    · simp [h])
  have hSr : zST rest := fun v hv => hS v (by rw [hst]; simp [hv])
  have hs1 := zsum_le hn
  have hs2 := zsum_le hge
  have hs3 := zsum_le hle
  refine z_after (r := r) (m' := m') (as := As) (a := (Value.ref (b + a.toNat) :: As.map (zcv b sa)).toArray) C hmode hge kk hR hL hSr hn ?_
  have := va_runIN (H := H) (locs := locs) (cells := g - n0) (slots := zsum g - zsum n0) (As := As.map (zcv b sa)) (rest := rest.map (zcv b sa)) (b := b + a.toNat) (g := F0 mth pc ls (st.map (zcv b sa))) (n := n) (bytes := zby m') (maxL := zmx m') (index := k) ⟨C.1, C.2.1, C.2.2.2.2.1, C.2.2.2.2.2.1, hts⟩ (hM l D ids b sa adV)
    ⟨⟨⟨rfl, rfl, by show d' + 1 ≤ _; omega, by show 8 + (zmx m' + 11) + 40 * d' ≤ _; omega, zwd_ok C hmo, by rw [← w5']; exact List.mem_cons_self⟩, hts _ o1, hts _ o2, o3, zlen w4, va_Nw.use rfl (C.2.2.2.2.2.2.2.2.1.2.1 _ w1)⟩, w3, hts _ w2⟩
    ⟨zPc_blind, fun U hU hW => by
      have := zPre C hmode hR hSa U hU hW
      rw [List.map_cons, zcv_ref h0] at this
      exact this⟩ rfl (by rw [List.length_map]; exact hAs) hL.1 (by rw [hst]; simp [zcv_ref h0]) (by rw [zcat_sum]; show 2 * 0 + _ ≤ 8; omega) hd ⟨by rw [C.2.2.2.2.2.2.2.2.2.2.2.1]; omega, by rw [C.2.2.2.2.2.2.2.2.2.2.2.2]; omega⟩ T hT X
  exact this
end Z6
