theorem zTB_lw {x : Jvm.Cond} (h : x ∈ zTB) : x ∈ lw_tbl := (List.mem_filter.mp h).1
theorem zinst_ok (c : Nat) (hc : c < 9) : Jvm.Cond.instantiable (zRn c) (zNf c) ∈ zTB := match c, hc with
  | 0, _ => zt1 136 rfl rfl
  | 1, _ => zt1 62 rfl rfl
  | 2, _ => zt1 81 rfl rfl
  | 3, _ => zt1 193 rfl rfl
  | 4, _ => zt1 142 rfl rfl
  | 5, _ => zt1 176 rfl rfl
  | 6, _ => zt1 25 rfl rfl
  | 7, _ => zt1 17 rfl rfl
  | 8, _ => zt4 14 rfl rfl
  | c + 9, hc => absurd hc (by omega)
theorem zisN_on {x : Jvm.Cond} (h : zisN x = true) : x.onTables = true := by
  cases x <;> first | rfl | (exfalso; revert h; simp [zisN])
theorem arr_ok {args : Array Value} {s : State} {ty : FieldType} (h : (Cond.arrayClass ty).before args s = true) (hty : ty = .int ∨ ty = .long ∨ ty = .boolean) : ∃ cA, ArrOfT s cA ty ∧ va_RA s cA ty := by
  obtain ⟨cA, kA, comp, h1, h2, h3⟩ := Cond.arrayClass_spec h
  refine ⟨cA, fun n z => ⟨fun k h => (by cases h), kA, h2, comp, h3⟩, ?_⟩
  rcases hty with rfl | rfl | rfl <;> exact h1
abbrev zTm (i : Nat) : Term := Term.string "WaitPlaces$Reader" (zSX.getD i (0, "")).1
set_option maxRecDepth 20000 in
theorem fl_ex : ∀ i : Nat, i < 3 → Cond.exactly (zTm i) "java/lang/String" ∈ flatC (Jvm.Cond.and given_1 narrow_1) := by decide +kernel
set_option maxRecDepth 20000 in
theorem fl_co : ∀ i : Nat, i < 3 → Cond.eq (.field (zTm i) "java/lang/String" "coder" "B") (.int 0) ∈ flatC (Jvm.Cond.and given_1 narrow_1) := by decide +kernel
set_option maxRecDepth 20000 in
theorem fl_ar : ∀ i : Nat, i < 3 → Cond.arrayOf (.field (zTm i) "java/lang/String" "value" "[B") .byte ∈ flatC (Jvm.Cond.and given_1 narrow_1) := by decide +kernel
set_option maxRecDepth 20000 in
theorem fl_le : ∀ i : Nat, i < 3 → Cond.eq (.length (.field (zTm i) "java/lang/String" "value" "[B")) (.int (Int32.ofNat (zSN.getD i 0))) ∈ flatC (Jvm.Cond.and given_1 narrow_1) := by decide +kernel
set_option maxRecDepth 20000 in
theorem fl_el : ∀ i : Nat, i < 3 → ∀ j : Nat, j < zSN.getD i 0 → Cond.eq (.elem (.field (zTm i) "java/lang/String" "value" "[B") (.int (Int32.ofNat j))) (.int ((zSB.getD i []).getD j 0)) ∈ flatC (Jvm.Cond.and given_1 narrow_1) := by decide +kernel
set_option maxRecDepth 20000 in
theorem fl_ne : ∀ i : Nat, i < 3 → ∀ j : Nat, j < 3 → i ≠ j → Cond.not (Cond.eq (zTm i) (zTm j)) ∈ flatC (Jvm.Cond.and given_1 narrow_1) ∨ Cond.not (Cond.eq (zTm j) (zTm i)) ∈ flatC (Jvm.Cond.and given_1 narrow_1) := by decide +kernel
set_option maxRecDepth 20000 in
theorem fl_cs : Cond.eq (.static "java/lang/String" "COMPACT_STRINGS" "Z") (.int 1) ∈ flatC (Jvm.Cond.and given_1 narrow_1) := by decide +kernel
theorem zSX_ok : ∀ i : Nat, i < 3 → Cond.stringRef "WaitPlaces$Reader" (zSX.getD i (0, "")).1 (zSX.getD i (0, "")).2 ∈ lw_tbl := by
  intro i hi
  rcases (by omega : i = 0 ∨ i = 1 ∨ i = 2) with rfl | rfl | rfl
  · exact List.mem_append_right _ (List.mem_append_right _ (List.mem_append_left _ (List.mem_of_getElem? (i := 72) rfl)))
  · exact List.mem_append_right _ (List.mem_append_right _ (List.mem_append_left _ (List.mem_of_getElem? (i := 194) rfl)))
  · exact List.mem_append_right _ (List.mem_append_right _ (List.mem_append_left _ (List.mem_of_getElem? (i := 195) rfl)))
theorem zCS_ok : Cond.laysStatic "java/lang/String" "COMPACT_STRINGS" "Z" ∈ lw_tbl := List.mem_append_right _ (List.mem_append_right _ (List.mem_append_left _ (List.mem_of_getElem? (i := 86) rfl)))
/-- what holds of classes, texts and statics when the law is entered -/
theorem law_kk {s : State} {b : Nat} (hts : ∀ w ∈ lw_tbl, w.before #[Value.ref b] s = true) (hgv : (Jvm.Cond.and given_1 narrow_1).before #[Value.ref b] s = true) : ∃ (D : va_G) (ids : Nat → ClassId) (sa adV : Nat → Nat), zKK D ids s.heap.size sa adV s s.heap := by
  have ht : ∀ w ∈ zTB, w.before #[Value.ref b] s = true := fun w h => hts w (zTB_lw h)
  have hs := flat_of_before _ hgv
  have hA : ∀ a : Nat, a < s.heap.size → ¬ (fun q => s.heap.size ≤ q) a := fun a h h' => absurd h (Nat.not_lt.mpr h')
  have hcl : ∀ c : Nat, ∃ q : ClassId × (Nat → Nat), c < 9 → u_Kn s (zRn c) (zTt c) (zNf c) q.1 q.2 := fun c => by
    by_cases hc : c < 9
    · obtain ⟨cC, iS, h⟩ := u_known (C := zRn c) (T := zTt c) (N := zNf c) (n := zNf c) ht (zuw_ok c hc) (ht _ (zinst_ok c hc))
      exact ⟨(cC, iS), fun _ => h⟩
    · exact ⟨(0, fun _ => 0), fun h => absurd h hc⟩
  obtain ⟨dq, hdq⟩ := Classical.axiomOfChoice hcl
  obtain ⟨a0, h0, h0'⟩ := arr_ok (ht _ (zt1 60 rfl rfl)) (Or.inl rfl)
  obtain ⟨a1, h1, h1'⟩ := arr_ok (ht _ (zt1 160 rfl rfl)) (Or.inr (Or.inl rfl))
  obtain ⟨a2, h2, h2'⟩ := arr_ok (ht _ (zt1 161 rfl rfl)) (Or.inr (Or.inr rfl))
  obtain ⟨sa, adV, hS, hev⟩ := vk_Sof (args := #[Value.ref b]) (s := s) (N := 3) (tm := zTm) (len := zSN) (byt := zSB) (A := fun q => s.heap.size ≤ q) (fun i hi => zSN_lt hi) (fun i hi => hs _ (fl_ex i hi)) (fun i hi => hs _ (fl_co i hi)) (fun i hi => hs _ (fl_ar i hi)) (fun i hi => hs _ (fl_le i hi)) (fun i hi j hj => hs _ (fl_el i hi j hj)) (fun i j hi hj hij => (fl_ne i hi j hj hij).elim (fun h => Or.inl (hs _ h)) (fun h => Or.inr (hs _ h))) hA
  refine ⟨(fun c => (dq c).1, fun c => (dq c).2), fun k => if k = 0 then a0 else if k = 1 then a1 else a2, sa, adV, ⟨fun c q hq => ?_, fun k q hk => ?_⟩, fun x hx => ?_, fun i hi => ?_, hS, ?_⟩
  · have hc : c < 9 := (List.getElem?_eq_some_iff.mp hq).1
    rw [zcl_at c hc] at hq
    cases hq
    exact hdq c hc
  · match k, hk with
    | 0, hk => cases hk; exact ⟨h0, h0'⟩
    | 1, hk => cases hk; exact ⟨h1, h1'⟩
    | 2, hk => cases hk; exact ⟨h2, h2'⟩
    | k + 3, hk => simp at hk
  · obtain ⟨m1, m2⟩ := List.mem_filter.mp hx
    exact va_Nw.of (zisN_on m2) (hts x m1)
  · exact vk_R.of (hts _ (zSX_ok i hi)) (hev i hi)
  · exact va_Zof (hts _ zCS_ok) (ht _ (zt1 11 rfl rfl)) (va_eqt (hs _ fl_cs)) hA
