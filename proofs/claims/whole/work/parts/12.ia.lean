/-! String.indexOf of a constant text, by the JDK's own code -/
def jP (b : Nat) (sa adV : Nat → Nat) (as : List Value) : Array Value → State → Prop := fun v U => v = as.toArray ∧ vk_S 3 zSN zSB sa adV (fun q => b ≤ q) U U.heap ∧ va_Z "java/lang/String" "COMPACT_STRINGS" "Z" (.int 1) (fun q => b ≤ q) U U.heap
def jQ (x : Int32) : Array Value → State → Outcome → State → Prop := fun _ st oc t => oc = .returned (some (.int x)) ∧ t.heap = st.heap
def jMt (y : MethodName) (bytes : ByteArray) (maxL : Nat) (ret : Option FieldType) (d b : Nat) (sa adV : Nat → Nat) (as : List Value) (x : Int32) : Prop := ∀ l : Launch, Met l y (Jvm.Cond.code y bytes maxL ret :: zTB) (zrm d 0 0) (jP b sa adV as) (jQ x) 0 0 (fun q => b ≤ q)
def jCx (p : Program) (R : Room) (s : State) (mth : MethodId) (args : Array Value) (meth : Method) (c : Code) (own : String) (bytes : ByteArray) (maxL : Nat) (ret : Option FieldType) (d b : Nat) (sa adV : Nat → Nat) : Prop :=
  p.tables.exec = Jvm.exec ∧ c.code = bytes ∧ meth.sig.returnType = ret ∧ meth.locks = false ∧ c.maxLocals = maxL ∧ s.vm.findClass own = some mth.cls ∧ (∀ x ∈ zTB, x.before args s = true) ∧ vk_S 3 zSN zSB sa adV (fun q => b ≤ q) s s.heap ∧ va_Z "java/lang/String" "COMPACT_STRINGS" "Z" (.int 1) (fun q => b ≤ q) s s.heap ∧ d ≤ R.frames ∧ 40 * d ≤ R.locals
theorem jP_blind {b : Nat} {sa adV : Nat → Nat} {as : List Value} : FrameBlind (jP b sa adV as) :=
  fun a U g mk q => ⟨q.1, vk_S.moved (u := U) (U := U.calling g mk a) (Vm.Alike.refl U.vm) q.2.1, va_Z.moved (u := U) (U := U.calling g mk a) (Vm.Alike.refl U.vm) q.2.2⟩
section J1
variable {p : Program} {l : Launch} {e : Env} {R : Room} {s : State} {mth : MethodId} {args : Array Value} {below : List Frame} {meth : Method} {c : Code} {own : String} {bytes : ByteArray} {maxL : Nat} {ret : Option FieldType} {d b : Nat} {sa adV : Nat → Nat} {H : Heap} {locs : List Loc} {cells slots : Nat} {Q : State → Prop} {pc : Nat} {ls : Array Slot} {rest : List Value}
theorem jP_of {as : List Value} (h1 : vk_S 3 zSN zSB sa adV (fun q => b ≤ q) s s.heap) (h2 : va_Z "java/lang/String" "COMPACT_STRINGS" "Z" (.int 1) (fun q => b ≤ q) s s.heap) (hq : ∀ q : Nat, q < b → H[q]? = s.heap[q]?) : ∀ U : State, U.heap = H → s.WarmedH U.vm → jP b sa adV as as.toArray U := by
  intro U hU hW
  have hq' : ∀ a : Nat, a < s.heap.size → ¬ (fun q => b ≤ q) a → H[a]? = s.heap[a]? := fun a _ h => hq a (Nat.not_le.mp h)
  exact ⟨rfl, by rw [hU]; exact (h1.moved hW.alike).kept hq', by rw [hU]; exact (h2.moved hW.alike).kept hq'⟩
theorem j_met {y : MethodName} {as : List Value} {x : Int32} (hpl : plainName y.cls = true) (hlen : (lg_sl as).length ≤ maxL)
    (h : ∀ (p : Program) (l : Launch) (e : Env) (R : Room) (s : State) (mth : MethodId) (args : Array Value) (below : List Frame) (meth : Method) (c : Code) (ls : Array Slot), jCx p R s mth args meth c y.cls bytes maxL ret d b sa adV → lv_has ls maxL (lv_args 0 as) → W p l e R s mth args below meth c s.heap [] 0 0 (MQ below (jQ x) args s 0 0 (fun q => b ≤ q)) (F0 mth 0 ls [])) : jMt y bytes maxL ret d b sa adV as x := by
  intro l
  refine Met.ofW (cc := bytes) (maxL := maxL) (ret := ret) hpl rfl ?_
  intro p e s mth args below meth c s₁ B hml hv
  obtain ⟨rfl, h1, h2⟩ := hv
  have hts := atoms_spec (ws := Jvm.Cond.code y bytes maxL ret :: zTB) B.pre
  have hown : s.vm.findClass y.cls = some mth.cls := findClass_of_methodNamed B.named
  rw [lg_entry_eq]
  exact h p l e _ s mth _ below meth c _ ⟨B.exec, B.bytes, B.returns, B.notSynchronized, hml, hown, fun x hx => hts x (List.mem_cons_of_mem _ hx), h1, h2, Nat.le_refl _, Nat.le_refl _⟩ (lv_entry as hlen)
theorem j_S (hl : ∀ x ∈ locs, b ≤ x.base) : va_S (fun q => b ≤ q) s.heap s.heap locs := ⟨Nat.le_refl _, fun _ _ _ => rfl, hl⟩
theorem j_after {n : Nat} {x : Int32} {a : Array Value} (kk : ∀ (H' : Heap) (locs' : List Loc), H' = H → (∀ q ∈ locs', b ≤ q.base) → W p l e R s mth args below meth c H' locs' cells slots Q (F0 mth (pc + 3) ls (.int x :: rest))) (hl : ∀ x ∈ locs, b ≤ x.base) {st : List Value} {T : State}
    (hrun : ∃ (v : Option Value) (st₀ t T' : State) (L : List Loc), st₀.heap = H ∧ Stand p l e R s mth args below meth c T' (locs ++ L) (cells + 0) (slots + 0) ∧ (∀ q ∈ L, b ≤ q.base) ∧ T'.heap = t.heap ∧ T'.vm = t.vm ∧ jQ x a st₀ (.returned v) t ∧
      Goes p e below T (F0 mth pc ls st) T' { (F0 mth pc ls st) with pc := pc + 3, stack := v.toList ++ rest }) : ∃ t, Steps p.tables e below (T.setTop (F0 mth pc ls st)) t ∧ Q t := by
  obtain ⟨v, st₀, t, T', L, h0, X', hLf, e1, e2, ⟨hv, hh⟩, hst⟩ := hrun
  cases hv
  obtain ⟨t2, a1, b1⟩ := kk T'.heap (locs ++ L) (by rw [e1, hh, h0]) (fun q hq => by
    rcases List.mem_append.mp hq with h | h
    · exact hl q h
    · exact hLf q h) T' rfl X'
  exact ⟨t2, hst t2 a1, b1⟩
theorem j_words {y : MethodName} {bytes' : ByteArray} {maxL' : Nat} {ret' : Option FieldType} (hts : ∀ x ∈ zTB, x.before args s = true) (hm : Jvm.Cond.code y bytes' maxL' ret' ∈ zTB) : ∀ x ∈ (Jvm.Cond.code y bytes' maxL' ret' :: zTB), ∀ (a' : Array Value) (U : State), s.WarmedH U.vm → x.before a' U = true := by
  intro x hx a' U hW
  have hx' : x ∈ zTB := by
    rcases List.mem_cons.mp hx with rfl | h
    · exact hm
    · exact h
  exact word_at hW (good_of_word (List.mem_filter.mp hx').2) (hts x hx')
theorem j_callS {y : MethodName} {bytes' : ByteArray} {maxL' : Nat} {ret' : Option FieldType} {d' n k : Nat} {As : List Value} {x : Int32} (C : jCx p R s mth args meth c own bytes maxL ret d b sa adV) (hM : jMt y bytes' maxL' ret' d' b sa adV As x) (hd' : d' + 1 ≤ d) (hm20 : maxL' ≤ 20) (o1 : Jvm.Cond.code y bytes' maxL' ret' ∈ zTB) (o2 : Jvm.Cond.initialized y.cls ∈ zTB) (o3 : y.cls ≠ "java/lang/invoke/MethodHandle" ∧ y.cls ≠ "java/lang/invoke/VarHandle") (w4 : (parseMethodDescriptor y.desc).map (fun d => d.parameters.length) = some n) (w1 : Jvm.Cond.methodLink own k y ∈ zTB) (w2 : Jvm.Cond.static y ∈ zTB) (hAs : As.length = n)
    (hl : ∀ x ∈ locs, b ≤ x.base) (hls : ls.size = maxL) (hrest : (rest.map fun v => v.category).sum ≤ 8) (hc : cells ≤ R.cells) (hs : slots ≤ R.slots) (hd : decode bytes pc = .ok (.invokestatic k, 3)) (kk : ∀ (locs' : List Loc), (∀ q ∈ locs', b ≤ q.base) → W p l e R s mth args below meth c s.heap locs' cells slots Q (F0 mth (pc + 3) ls (.int x :: rest))) : W p l e R s mth args below meth c s.heap locs cells slots Q (F0 mth pc ls (As.reverse ++ rest)) := by
  obtain ⟨c1, c2, c3, c4, c5, c6, c7, c8, c9, c10, c11⟩ := C
  intro T hT X
  refine j_after (n := n) (H := s.heap) (x := x) (a := As.toArray) (fun H' locs' hH hL => by rw [hH]; exact kk locs' hL) hl ?_
  have := va_runS (H := s.heap) (locs := locs) (cells := cells) (slots := slots) (As := As) (rest := rest) (g := F0 mth pc ls (As.reverse ++ rest)) (n := n) (ret := ret') (bytes := bytes') (maxL := maxL') (index := k) ⟨c1, c2, c5, c6, c7⟩ (hM l)
    ⟨⟨rfl, rfl, by show d' + 1 ≤ _; omega, by show 8 + (maxL' + 11) + 40 * d' ≤ _; omega, j_words c7 o1, List.mem_cons_self, c7 _ o1, c7 _ o2, o3, zlen w4, c7 _ w1⟩, c7 _ w2⟩
    ⟨jP_blind, jP_of c8 c9 (fun _ _ => rfl)⟩ rfl hAs hls rfl (by show 2 * 0 + _ ≤ 8; omega) hd ⟨hc, hs⟩ T hT X
  exact this
theorem j_callV {y : MethodName} {bytes' : ByteArray} {maxL' : Nat} {ret' : Option FieldType} {d' n k i : Nat} {As : List Value} {x : Int32} (C : jCx p R s mth args meth c own bytes maxL ret d b sa adV) (hi : i < 3) (hM : jMt y bytes' maxL' ret' d' b sa adV (.ref (sa i) :: As) x) (hd' : d' + 1 ≤ d) (hm20 : maxL' ≤ 20) (o1 : Jvm.Cond.code y bytes' maxL' ret' ∈ zTB) (o2 : Jvm.Cond.initialized y.cls ∈ zTB) (o3 : y.cls ≠ "java/lang/invoke/MethodHandle" ∧ y.cls ≠ "java/lang/invoke/VarHandle") (w4 : (parseMethodDescriptor y.desc).map (fun d => d.parameters.length) = some n) (w1 : Jvm.Cond.methodLink own k y ∈ zTB) (w2 : Jvm.Cond.instanceMethod y ∈ zTB) (w3 : Jvm.Cond.selects "java/lang/String" y y ∈ zTB) (hAs : As.length = n)
    (hl : ∀ x ∈ locs, b ≤ x.base) (hls : ls.size = maxL) (hrest : (rest.map fun v => v.category).sum ≤ 8) (hc : cells ≤ R.cells) (hs : slots ≤ R.slots) (hd : decode bytes pc = .ok (.invokevirtual k, 3)) (kk : ∀ (locs' : List Loc), (∀ q ∈ locs', b ≤ q.base) → W p l e R s mth args below meth c s.heap locs' cells slots Q (F0 mth (pc + 3) ls (.int x :: rest))) : W p l e R s mth args below meth c s.heap locs cells slots Q (F0 mth pc ls (As.reverse ++ .ref (sa i) :: rest)) := by
  obtain ⟨c1, c2, c3, c4, c5, c6, c7, c8, c9, c10, c11⟩ := C
  intro T hT X
  refine j_after (n := n) (H := s.heap) (x := x) (a := (Value.ref (sa i) :: As).toArray) (fun H' locs' hH hL => by rw [hH]; exact kk locs' hL) hl ?_
  have := va_runV (H := s.heap) (locs := locs) (cells := cells) (slots := slots) (C := "java/lang/String") (As := As) (rest := rest) (b := sa i) (g := F0 mth pc ls (As.reverse ++ .ref (sa i) :: rest)) (n := n) (ret := ret') (bytes := bytes') (maxL := maxL') (index := k) ⟨c1, c2, c5, c6, c7⟩ (hM l)
    ⟨⟨rfl, rfl, by show d' + 1 ≤ _; omega, by show 8 + (maxL' + 11) + 40 * d' ≤ _; omega, j_words c7 o1, List.mem_cons_self, c7 _ o1, c7 _ o2, o3, zlen w4, c7 _ w1⟩, c7 _ w2, c7 _ w3⟩
    ⟨jP_blind, vk_recv c8 hi (j_S (locs := locs) hl), jP_of c8 c9 (fun _ _ => rfl)⟩ rfl hAs hls rfl (by show 2 * 0 + _ ≤ 8; omega) hd ⟨hc, hs⟩ T hT X
  exact this
theorem j_iret {x : Int32} (C : jCx p R s mth args meth c own bytes maxL ret d b sa adV) (hr : ret = some .int) (hl : ∀ x ∈ locs, b ≤ x.base) (hd : decode bytes pc = .ok (.ireturn, 1)) : W p l e R s mth args below meth c s.heap locs 0 0 (MQ below (jQ x) args s 0 0 (fun q => b ≤ q)) (F0 mth pc ls [.int x]) := by
  obtain ⟨c1, c2, c3, c4, c5, c6, c7, c8, c9, c10, c11⟩ := C
  exact W.iret (v := x) c1 c2 (by rw [c3]; exact hr) (fun t ht _ => ⟨rfl, ht⟩) hl hd c4
theorem j_zret {x : Int32} {ty : FieldType} (C : jCx p R s mth args meth c own bytes maxL ret d b sa adV) (hr : ret = some ty) (hz : (ty = .boolean ∧ (x = 0 ∨ x = 1)) ∨ (ty = .byte ∧ x = 0)) (hl : ∀ x ∈ locs, b ≤ x.base) (hd : decode bytes pc = .ok (.ireturn, 1)) : W p l e R s mth args below meth c s.heap locs 0 0 (MQ below (jQ x) args s 0 0 (fun q => b ≤ q)) (F0 mth pc ls [.int x]) := by
  obtain ⟨c1, c2, c3, c4, c5, c6, c7, c8, c9, c10, c11⟩ := C
  rcases hz with ⟨rfl, hz⟩ | ⟨rfl, rfl⟩
  · rcases hz with rfl | rfl
    · exact W.zret (v := 0) (ty := .boolean) c1 c2 (by rw [c3]; exact hr) (by decide) (fun t ht _ => ⟨rfl, ht⟩) hl hd c4
    · exact W.zret (v := 1) (ty := .boolean) c1 c2 (by rw [c3]; exact hr) (by decide) (fun t ht _ => ⟨rfl, ht⟩) hl hd c4
  · exact W.zret (v := 0) (ty := .byte) c1 c2 (by rw [c3]; exact hr) (by decide) (fun t ht _ => ⟨rfl, ht⟩) hl hd c4
end J1
