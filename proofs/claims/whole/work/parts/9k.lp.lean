theorem gt_iff {k L : Nat} (hL : L ≤ 1536) (hk : k ≤ 1540) : nI L - nI 3 < nI k ↔ L < k + 3 := by
  have h1 := nI_toInt (n := L) (by omega)
  have h2 := nI_toInt (n := k) (by omega)
  have h3 := nI_toInt (n := 3) (by decide)
  rw [Int32.lt_iff_toInt_lt, Int32.toInt_sub, h1, h2, h3]
  rw [Int.bmod_eq_of_le (by omega) (by omega)]
  omega
section LL
variable {p : Program} {l : Launch} {e : Env} {s : State} {m : MethodId} {below : List Frame} {meth : Method} {c : Code} {b L : Nat} {xs : Nat → Int32} {D : va_G} {ids : Nat → ClassId} {sa adV : Nat → Nat}
set_option maxHeartbeats 4000000 in
theorem law_loop (hL : L ≤ 1536) (C0 : lw_At p s m meth c b L xs) (KK : zKK D ids s.heap.size sa adV s s.heap) : ∀ (n k : Nat) (H : Heap) (locs : List Loc) (ls : Array Slot) (w : zW), L + 3 - k ≤ n → k ≤ L + 2 → zRep D ids s.heap.size sa s true H locs 92 w → TopOk w → lv_has ls 4 [(3, .int (nI k)), (2, .ref (s.heap.size + (67 : Int).toNat)), (1, .ref (s.heap.size + (0 : Int).toNat)), (0, .ref b)] → W p l e room_1 s m #[Value.ref b] below meth c H locs 92 (zsum 92) (lw_Z below #[Value.ref b] s) (F0 m 18 ls []) := by
  obtain ⟨hx, hb, hr, hml, hown, hts, hX, hbl, hlocks, hgv⟩ := id C0
  have hbA : ¬ (fun q : Nat => s.heap.size ≤ q) b := Nat.not_le.mpr hbl
  intro n
  induction n with
  | zero => intro k H locs ls w hn hk; omega
  | succ n ih =>
    intro k H locs ls w hn hk hR hT hl
    refine lv_iload_n hx hb (by decide +kernel : decode code 18 = .ok (.iload_n 3, 1)) rfl (lv_at hl 0 rfl) ?_
    refine lv_aload_n hx hb (by decide +kernel : decode code 19 = .ok (.aload_n 0, 1)) rfl (lv_at hl 3 rfl) ?_
    refine va_slen hx hb hX hbl hbA (lw_S hR) (by decide +kernel : decode code 20 = .ok (.arraylength, 1)) ?_
    refine lv_iconst (v := nI 3) hx hb (by decide +kernel : decode code 21 = .ok (.iconst 3, 1)) (by decide) ?_
    refine lv_isub hx hb (by decide +kernel : decode code 22 = .ok (.isub, 1)) ?_
    refine lv_icmp_gt (tgt := 530) hx hb (by decide +kernel : decode code 23 = .ok (.if_icmp .gt 507, 3)) (by decide) (fun c1 => ?_) (fun c1 => ?_)
    · refine va_forget hR.2.2.2.2.2.1 ?_
      refine W.widen (k := 600000) (n := 7302250) (by decide) zsum_92 ?_
      refine lv_iconst (v := 1) hx hb (by decide +kernel : decode code 530 = .ok (.iconst 1, 1)) (by decide) ?_
      exact lw_ret hx hb hr hlocks (by decide +kernel)
    have hkL : k + 3 ≤ L := by
      have : ¬ L < k + 3 := fun z => c1 ((gt_iff (k := k) hL (by omega)).mpr z)
      omega
    have back : ∀ (H' : Heap) (locs' : List Loc) (w' : zW), zRep D ids s.heap.size sa s true H' locs' 92 w' → TopOk w' → W p l e room_1 s m #[Value.ref b] below meth c H' locs' 92 (zsum 92) (lw_Z below #[Value.ref b] s) (F0 m 524 ls []) := fun H' locs' w' hR' hT' => by
      refine lv_iinc (v := nI (k + 3)) (lv' := [(3, .int (nI (k + 3))), (2, .ref (s.heap.size + (67 : Int).toNat)), (1, .ref (s.heap.size + (0 : Int).toNat)), (0, .ref b)]) hx hb (by decide +kernel : decode code 524 = .ok (.iinc 3 3, 3)) hl (k := 0) rfl (nI_add k 3) (by decide) rfl (fun ls hl => ?_)
      refine lv_goto (tgt := 18) hx hb (by decide +kernel : decode code 527 = .ok (.goto (-509), 3)) (by decide) ?_
      exact ih (k + 3) H' locs' ls w' (by omega) (by omega) hR' hT' hl
    refine lv_aload_n hx hb (by decide +kernel : decode code 26 = .ok (.aload_n 0, 1)) rfl (lv_at hl 3 rfl) ?_
    refine lv_iload_n hx hb (by decide +kernel : decode code 27 = .ok (.iload_n 3, 1)) rfl (lv_at hl 0 rfl) ?_
    refine va_sld hx hb hX hbl hbA (lw_S hR) (nI_in (by omega) (by omega) : vp_in (nI k) L) (by decide +kernel : decode code 28 = .ok (.iaload, 1)) ?_
    refine lv_bipush (v := 31) hx hb (by decide +kernel : decode code 29 = .ok (.bipush 31, 2)) (by decide) ?_
    refine lv_iand hx hb (by decide +kernel : decode code 31 = .ok (.iand, 1)) ?_
    refine lv_topi (fun z _ => ?_)
    have dsw : decode code 32 = .ok (.tableswitch 492 0 17 #[88, 111, 124, 137, 170, 203, 226, 249, 262, 285, 308, 341, 354, 387, 400, 423, 446, 469], 88) := by decide +kernel
    by_cases c2 : z.toInt < 0 ∨ 17 < z.toInt
    · exact lv_tableOut (tgt := 524) hx hb dsw c2 (by decide) (back _ _ _ hR hT)
    have n1 : ¬ z.toInt < 0 := fun h => c2 (Or.inl h)
    have n2 : ¬ 17 < z.toInt := fun h => c2 (Or.inr h)
    rcases (by omega : z.toInt = 0 ∨ z.toInt = 1 ∨ z.toInt = 2 ∨ z.toInt = 3 ∨ z.toInt = 4 ∨ z.toInt = 5 ∨ z.toInt = 6 ∨ z.toInt = 7 ∨ z.toInt = 8 ∨ z.toInt = 9 ∨ z.toInt = 10 ∨ z.toInt = 11 ∨ z.toInt = 12 ∨ z.toInt = 13 ∨ z.toInt = 14 ∨ z.toInt = 15 ∨ z.toInt = 16 ∨ z.toInt = 17) with hz | hz | hz | hz | hz | hz | hz | hz | hz | hz | hz | hz | hz | hz | hz | hz | hz | hz
    · exact lv_tableIn (off := 88) (tgt := 120) hx hb dsw n1 n2 (by rw [hz]; rfl) (by decide) (lc_type C0 KK hkL hL hl hR hT back)
    · exact lv_tableIn (off := 111) (tgt := 143) hx hb dsw n1 n2 (by rw [hz]; rfl) (by decide) (lc_clear C0 KK hkL hL hl hR hT back)
    · exact lv_tableIn (off := 124) (tgt := 156) hx hb dsw n1 n2 (by rw [hz]; rfl) (by decide) (lc_threads C0 KK hkL hL hl hR hT back)
    · exact lv_tableIn (off := 137) (tgt := 169) hx hb dsw n1 n2 (by rw [hz]; rfl) (by decide) (lc_place C0 KK hkL hL hl hR hT back)
    · exact lv_tableIn (off := 170) (tgt := 202) hx hb dsw n1 n2 (by rw [hz]; rfl) (by decide) (lc_thread C0 KK hkL hL hl hR hT back)
    · exact lv_tableIn (off := 203) (tgt := 235) hx hb dsw n1 n2 (by rw [hz]; rfl) (by decide) (lc_row C0 KK hkL hL hl hR hT back)
    · exact lv_tableIn (off := 226) (tgt := 258) hx hb dsw n1 n2 (by rw [hz]; rfl) (by decide) (lc_step C0 KK hkL hL hl hR hT back)
    · exact lv_tableIn (off := 249) (tgt := 281) hx hb dsw n1 n2 (by rw [hz]; rfl) (by decide) (lc_undo C0 KK hkL hL hl hR hT back)
    · exact lv_tableIn (off := 262) (tgt := 294) hx hb dsw n1 n2 (by rw [hz]; rfl) (by decide) (lc_all C0 KK hkL hL hl hR hT back)
    · exact lv_tableIn (off := 285) (tgt := 317) hx hb dsw n1 n2 (by rw [hz]; rfl) (by decide) (lc_worst C0 KK hkL hL hl hR hT back)
    · exact lv_tableIn (off := 308) (tgt := 340) hx hb dsw n1 n2 (by rw [hz]; rfl) (by decide) (lc_can C0 KK hkL hL hl hR hT back)
    · exact lv_tableIn (off := 341) (tgt := 373) hx hb dsw n1 n2 (by rw [hz]; rfl) (by decide) (lc_slept C0 KK hkL hL hl hR hT back)
    · exact lv_tableIn (off := 354) (tgt := 386) hx hb dsw n1 n2 (by rw [hz]; rfl) (by decide) (lc_sees C0 KK hkL hL hl hR hT back)
    · exact lv_tableIn (off := 387) (tgt := 419) hx hb dsw n1 n2 (by rw [hz]; rfl) (by decide) (lc_forget C0 KK hkL hL hl hR hT back)
    · exact lv_tableIn (off := 400) (tgt := 432) hx hb dsw n1 n2 (by rw [hz]; rfl) (by decide) (lc_unseen C0 KK hkL hL hl hR hT back)
    · exact lv_tableIn (off := 423) (tgt := 455) hx hb dsw n1 n2 (by rw [hz]; rfl) (by decide) (lc_keep C0 KK hkL hL hl hR hT back)
    · exact lv_tableIn (off := 446) (tgt := 478) hx hb dsw n1 n2 (by rw [hz]; rfl) (by decide) (lc_back C0 KK hkL hL hl hR hT back)
    · exact lv_tableIn (off := 469) (tgt := 501) hx hb dsw n1 n2 (by rw [hz]; rfl) (by decide) (lc_count C0 KK hkL hL hl hR hT back)
end LL
set_option maxHeartbeats 4000000 in
set_option maxRecDepth 100000 in
/-- the law, from its entry -/
theorem whole_start {p : Program} {e : Env} {s : State} {m : MethodId} {below : List Frame} {meth : Method} {c : Code} (l : Launch) (hflags : l.flags = flags0) {b L : Nat} {xs : Nat → Int32} (hL : L ≤ 1536) (C0 : lw_At p s m meth c b L xs) : W p l e room_1 s m #[Value.ref b] below meth c s.heap [] 0 0 (lw_Z below #[Value.ref b] s) (entryFrame m ([Value.ref b] : List Value).toArray 4) := by
  obtain ⟨hx, hb, hr, hml, hown, hts, hX, hbl, hlocks, hgv⟩ := id C0
  obtain ⟨D, ids, sa, adV, KK⟩ := law_kk hts hgv
  obtain ⟨w1, w3, i1, i2, i3, i4⟩ := ini
  have hl := lv_entry ([.ref b]) (n := 4) (Nat.le_of_ble_eq_true rfl)
  rw [lg_entry_eq]
  generalize (lg_sl ([.ref b]) ++ List.replicate (4 - (lg_sl ([.ref b])).length) Slot.unset).toArray = ls at hl ⊢
  have hl : lv_has ls 4 [(0, .ref b)] := hl
  have hR0 : zRep D ids s.heap.size sa s false s.heap [] 0 (fun _ _ => 0) := ⟨fun k q h => by simp [zws] at h, rfl, Nat.le_refl _, Nat.le_refl _, fun _ _ => rfl, fun _ h => absurd h List.not_mem_nil, fun a ha => absurd ha (Nat.not_lt_zero _), fun h => by cases h⟩
  refine lw_new (g := 0) (k := 7) (c' := 7) C0 KK (by decide) (by decide +kernel) (by decide) (zt1 16 rfl rfl) (zinst_ok 7 (by decide)) (zt1 1 rfl rfl) (by decide +kernel : decode code 0 = .ok (.new 7, 3)) hR0 (fun H1 hR1 => ?_)
  refine lv_dup hx hb (by decide +kernel : decode code 3 = .ok (.dup, 1)) rfl ?_
  refine lw_ctor (m' := 72) (k := 9) (a := 0) (g := 1) (g2 := 67) (rest := [.ref (s.heap.size + 0)]) C0 KK i1 zmo_72 (by decide) rfl rfl rfl (zt1 18 rfl rfl) (zt1 19 rfl rfl) (by decide +kernel) (by decide) (by decide) (by decide) hl.1 (by show 1 ≤ 8; decide) (by decide +kernel : decode code 4 = .ok (.invokespecial 9, 3)) hR1 (fun H2 locs2 hR2 => ?_)
  refine lv_astore_n (lv' := [(1, .ref (s.heap.size + 0)), (0, .ref b)]) hx hb (by decide +kernel : decode code 7 = .ok (.astore_n 1, 1)) rfl hl (by decide) rfl (fun ls hl => ?_)
  refine lw_new (g := 67) (k := 10) (c' := 8) C0 KK (by decide) (by decide +kernel) (by decide) (zt4 13 rfl rfl) (zinst_ok 8 (by decide)) (zt1 10 rfl rfl) (by decide +kernel : decode code 8 = .ok (.new 10, 3)) hR2 (fun H3 hR3 => ?_)
  refine lv_dup hx hb (by decide +kernel : decode code 11 = .ok (.dup, 1)) rfl ?_
  refine lw_ctor (m' := 94) (k := 12) (a := 67) (g := 68) (g2 := 92) (rest := [.ref (s.heap.size + 67)]) C0 KK i2 zmo_94 (by decide) rfl rfl rfl (zt4 15 rfl rfl) (zt4 16 rfl rfl) (by decide +kernel) (by decide) (by decide) (by decide) hl.1 (by show 1 ≤ 8; decide) (by decide +kernel : decode code 12 = .ok (.invokespecial 12, 3)) hR3 (fun H4 locs4 hR4 => ?_)
  refine lv_astore_n (lv' := [(2, .ref (s.heap.size + 67)), (1, .ref (s.heap.size + 0)), (0, .ref b)]) hx hb (by decide +kernel : decode code 15 = .ok (.astore_n 2, 1)) rfl hl (by decide) rfl (fun ls hl => ?_)
  refine lv_iconst (v := nI 0) hx hb (by decide +kernel : decode code 16 = .ok (.iconst 0, 1)) (by decide) ?_
  refine lv_istore_n (lv' := [(3, .int (nI 0)), (2, .ref (s.heap.size + 67)), (1, .ref (s.heap.size + 0)), (0, .ref b)]) hx hb (by decide +kernel : decode code 17 = .ok (.istore_n 3, 1)) rfl hl (by decide) rfl (fun ls hl => ?_)
  exact law_loop hL C0 KK (L + 3) 0 H4 locs4 ls w3 (by omega) (by omega) ⟨hR4.1, hR4.2.1, hR4.2.2.1, hR4.2.2.2.1, hR4.2.2.2.2.1, hR4.2.2.2.2.2.1, hR4.2.2.2.2.2.2.1, fun _ => ⟨rfl, zLkB_ok i3⟩⟩ (ini_top i4) hl
