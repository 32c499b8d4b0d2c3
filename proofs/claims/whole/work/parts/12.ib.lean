section J2
variable {d b : Nat} {sa adV : Nat → Nat}
def jce (c : Int32) : Int32 := if c < 0 then 0 else if 255 < c then 0 else 1
theorem nil_locs {b : Nat} : ∀ x ∈ ([] : List Loc), b ≤ x.base := fun _ h => absurd h List.not_mem_nil
theorem j_canEncode (ch : Int32) : jMt yJ1_canEncode_9a6ad cJ1_canEncode_9a6ad 1 (some .boolean) d b sa adV [.int ch] (jce ch) := by
  refine j_met (by decide +kernel) (by show 1 ≤ 1; exact Nat.le_refl _) ?_
  intro p l e R s mth args below meth c ls C hl
  obtain ⟨hx, hb, -⟩ := id C
  have hl : lv_has ls 1 [(0, .int ch)] := hl
  refine lv_iload_n hx hb (by decide +kernel : decode cJ1_canEncode_9a6ad 0 = .ok (.iload_n 0, 1)) rfl (lv_at hl 0 rfl) ?_
  have no : ∀ z : jce ch = 0, W p l e R s mth args below meth c s.heap [] 0 0 (MQ below (jQ (jce ch)) args s 0 0 (fun q => b ≤ q)) (F0 mth 15 ls []) := fun z => by
    rw [z]
    refine lv_iconst (v := 0) hx hb (by decide +kernel : decode cJ1_canEncode_9a6ad 15 = .ok (.iconst 0, 1)) (by decide) ?_
    exact j_zret C rfl (Or.inl ⟨rfl, Or.inl rfl⟩) nil_locs (by decide +kernel)
  refine lv_if_lt (tgt := 15) hx hb (by decide +kernel : decode cJ1_canEncode_9a6ad 1 = .ok (.ifCond .lt 14, 3)) (by decide) (fun c1 => ?_) (fun c1 => ?_)
  · exact no (if_pos c1)
  refine lv_iload_n hx hb (by decide +kernel : decode cJ1_canEncode_9a6ad 4 = .ok (.iload_n 0, 1)) rfl (lv_at hl 0 rfl) ?_
  refine lv_sipush (v := 255) hx hb (by decide +kernel : decode cJ1_canEncode_9a6ad 5 = .ok (.sipush 255, 3)) (by decide) ?_
  refine lv_icmp_gt (tgt := 15) hx hb (by decide +kernel : decode cJ1_canEncode_9a6ad 8 = .ok (.if_icmp .gt 7, 3)) (by decide) (fun c2 => ?_) (fun c2 => ?_)
  · exact no (by unfold jce; rw [if_neg c1, if_pos c2])
  · rw [show jce ch = 1 by unfold jce; rw [if_neg c1, if_neg c2]]
    refine lv_iconst (v := 1) hx hb (by decide +kernel : decode cJ1_canEncode_9a6ad 11 = .ok (.iconst 1, 1)) (by decide) ?_
    refine lv_goto (tgt := 16) hx hb (by decide +kernel : decode cJ1_canEncode_9a6ad 12 = .ok (.goto 4, 3)) (by decide) ?_
    exact j_zret C rfl (Or.inl ⟨rfl, Or.inr rfl⟩) nil_locs (by decide +kernel)
theorem j_isLatin1 {i : Nat} (hi : i < 3) : jMt yJ0_isLatin1_aae02 cJ0_isLatin1_aae02 1 (some .boolean) d b sa adV [.ref (sa i)] 1 := by
  refine j_met (by decide +kernel) (by show 1 ≤ 1; exact Nat.le_refl _) ?_
  intro p l e R s mth args below meth c ls C hl
  obtain ⟨hx, hb, -, -, -, hown, hts, hS, hZ, -⟩ := id C
  have hl : lv_has ls 1 [(0, .ref (sa i))] := hl
  refine va_gets hx hb (cc := cJ0_isLatin1_aae02) (ref := "java/lang/String") hZ (j_S nil_locs) hown (hts _ (zt2 85 rfl rfl)) (fun x h => h) (by decide +kernel : decode cJ0_isLatin1_aae02 0 = .ok (.getstatic 38, 3)) ?_
  refine lv_if_eq (tgt := 17) hx hb (by decide +kernel : decode cJ0_isLatin1_aae02 3 = .ok (.ifCond .eq 14, 3)) (by decide) (fun c1 => absurd c1 (by decide)) (fun c1 => ?_)
  refine lv_aload_n hx hb (by decide +kernel : decode cJ0_isLatin1_aae02 6 = .ok (.aload_n 0, 1)) rfl (lv_at hl 0 rfl) ?_
  refine vk_getf hx hb (cc := cJ0_isLatin1_aae02) (ref := "java/lang/String") (hS.1 i hi).2.1 (j_S nil_locs) hown (hts _ (zt5 119 rfl rfl)) (fun x h => h) (by decide +kernel : decode cJ0_isLatin1_aae02 7 = .ok (.getfield 15, 3)) ?_
  refine lv_if_ne (tgt := 17) hx hb (by decide +kernel : decode cJ0_isLatin1_aae02 10 = .ok (.ifCond .ne 7, 3)) (by decide) (fun c1 => absurd rfl c1) (fun c1 => ?_)
  refine lv_iconst (v := 1) hx hb (by decide +kernel : decode cJ0_isLatin1_aae02 13 = .ok (.iconst 1, 1)) (by decide) ?_
  refine lv_goto (tgt := 18) hx hb (by decide +kernel : decode cJ0_isLatin1_aae02 14 = .ok (.goto 4, 3)) (by decide) ?_
  exact j_zret C rfl (Or.inl ⟨rfl, Or.inr rfl⟩) nil_locs (by decide +kernel)
theorem j_coder {i : Nat} (hi : i < 3) : jMt yJ0_coder_7d493 cJ0_coder_7d493 1 (some .byte) d b sa adV [.ref (sa i)] 0 := by
  refine j_met (by decide +kernel) (by show 1 ≤ 1; exact Nat.le_refl _) ?_
  intro p l e R s mth args below meth c ls C hl
  obtain ⟨hx, hb, -, -, -, hown, hts, hS, hZ, -⟩ := id C
  have hl : lv_has ls 1 [(0, .ref (sa i))] := hl
  refine va_gets hx hb (cc := cJ0_coder_7d493) (ref := "java/lang/String") hZ (j_S nil_locs) hown (hts _ (zt2 85 rfl rfl)) (fun x h => h) (by decide +kernel : decode cJ0_coder_7d493 0 = .ok (.getstatic 38, 3)) ?_
  refine lv_if_eq (tgt := 13) hx hb (by decide +kernel : decode cJ0_coder_7d493 3 = .ok (.ifCond .eq 10, 3)) (by decide) (fun c1 => absurd c1 (by decide)) (fun c1 => ?_)
  refine lv_aload_n hx hb (by decide +kernel : decode cJ0_coder_7d493 6 = .ok (.aload_n 0, 1)) rfl (lv_at hl 0 rfl) ?_
  refine vk_getf hx hb (cc := cJ0_coder_7d493) (ref := "java/lang/String") (hS.1 i hi).2.1 (j_S nil_locs) hown (hts _ (zt5 119 rfl rfl)) (fun x h => h) (by decide +kernel : decode cJ0_coder_7d493 7 = .ok (.getfield 15, 3)) ?_
  refine lv_goto (tgt := 14) hx hb (by decide +kernel : decode cJ0_coder_7d493 10 = .ok (.goto 4, 3)) (by decide) ?_
  exact j_zret C rfl (Or.inr ⟨rfl, rfl⟩) nil_locs (by decide +kernel)
theorem j_length {i : Nat} (hi : i < 3) : jMt yJ0_length_8abf5 cJ0_length_8abf5 1 (some .int) (d + 1) b sa adV [.ref (sa i)] (nI (zSN.getD i 0)) := by
  refine j_met (by decide +kernel) (by show 1 ≤ 1; exact Nat.le_refl _) ?_
  intro p l e R s mth args below meth c ls C hl
  obtain ⟨hx, hb, -, -, -, hown, hts, hS, hZ, -⟩ := id C
  have hl : lv_has ls 1 [(0, .ref (sa i))] := hl
  refine lv_aload_n hx hb (by decide +kernel : decode cJ0_length_8abf5 0 = .ok (.aload_n 0, 1)) rfl (lv_at hl 0 rfl) ?_
  refine vk_getf hx hb (cc := cJ0_length_8abf5) (ref := "java/lang/String") (hS.1 i hi).2.2.1 (j_S nil_locs) hown (hts _ (zt5 120 rfl rfl)) (fun x h => h) (by decide +kernel : decode cJ0_length_8abf5 1 = .ok (.getfield 9, 3)) ?_
  refine va_tlen hx hb (cc := cJ0_length_8abf5) (hS.1 i hi).2.2.2 (j_S nil_locs) (v := nI (zSN.getD i 0)) rfl (by decide +kernel : decode cJ0_length_8abf5 4 = .ok (.arraylength, 1)) ?_
  refine lv_aload_n hx hb (by decide +kernel : decode cJ0_length_8abf5 5 = .ok (.aload_n 0, 1)) rfl (lv_at hl 0 rfl) ?_
  refine j_callV (As := []) (rest := [.int (nI (zSN.getD i 0))]) C hi (j_coder (d := d) hi) (Nat.le_refl _) (by decide) (zt2 94 rfl rfl) (zt1 11 rfl rfl) ⟨by decide +kernel, by decide +kernel⟩ (n := 0) (by decide +kernel) (zt2 91 rfl rfl) (zt2 92 rfl rfl) (zt2 93 rfl rfl) rfl nil_locs hl.1 (by show 1 ≤ 8; decide) (Nat.zero_le _) (Nat.zero_le _) (by decide +kernel : decode cJ0_length_8abf5 6 = .ok (.invokevirtual 335, 3)) (fun locs' hL => ?_)
  refine lv_ishr hx hb (by decide +kernel : decode cJ0_length_8abf5 9 = .ok (.ishr, 1)) ?_
  rw [show nI (zSN.getD i 0) >>> ((0 : Int32) &&& 31) = nI (zSN.getD i 0) by
    rcases (by omega : i = 0 ∨ i = 1 ∨ i = 2) with rfl | rfl | rfl <;> decide +kernel]
  exact j_iret C rfl hL (by decide +kernel)
/-- where a byte stands -/
def jix (v : Int32) : List Int32 → Nat → Int32
  | [], _ => -1
  | a :: l, k => if a = v then nI k else jix v l (k + 1)
theorem zSN_lt {i : Nat} (hi : i < 3) : zSN.getD i 0 < 2 ^ 31 := by
  rcases (by omega : i = 0 ∨ i = 1 ∨ i = 2) with rfl | rfl | rfl <;> decide
theorem zSB_len {i : Nat} (hi : i < 3) : (zSB.getD i []).length = zSN.getD i 0 := by
  rcases (by omega : i = 0 ∨ i = 1 ∨ i = 2) with rfl | rfl | rfl <;> rfl
theorem j_indexOfChar {i : Nat} (hi : i < 3) (ch : Int32) : jMt yJ1_indexOfChar_4cfef cJ1_indexOfChar_4cfef 6 (some .int) d b sa adV [.ref (adV i), .int ch, .int 0, .int (nI (zSN.getD i 0))] (jix ch.toInt8.toInt32 (zSB.getD i []) 0) := by
  refine j_met (by decide +kernel) (by show 4 ≤ 6; decide) ?_
  intro p l e R s mth args below meth c ls C hl
  obtain ⟨hx, hb, -, -, -, hown, hts, hS, hZ, -⟩ := id C
  have hl : lv_has ls 6 [(0, .ref (adV i)), (1, .int ch), (2, .int 0), (3, .int (nI (zSN.getD i 0)))] := hl
  refine lv_iload_n hx hb (by decide +kernel : decode cJ1_indexOfChar_4cfef 0 = .ok (.iload_n 1, 1)) rfl (lv_at hl 1 rfl) ?_
  obtain ⟨v, hv⟩ : ∃ v, ch.toInt8.toInt32 = v := ⟨_, rfl⟩
  rw [hv]
  refine lv_i2b hx hb (by decide +kernel : decode cJ1_indexOfChar_4cfef 1 = .ok (.i2b, 1)) hv ?_
  refine lv_istore (lv' := [(4, .int v), (0, .ref (adV i)), (1, .int ch), (2, .int 0), (3, .int (nI (zSN.getD i 0)))]) hx hb (by decide +kernel : decode cJ1_indexOfChar_4cfef 2 = .ok (.istore 4, 2)) hl (by decide) rfl (fun ls hl => ?_)
  refine lv_iload_n hx hb (by decide +kernel : decode cJ1_indexOfChar_4cfef 4 = .ok (.iload_n 2, 1)) rfl (lv_at hl 3 rfl) ?_
  refine lv_istore (lv' := [(5, .int 0), (4, .int v), (0, .ref (adV i)), (1, .int ch), (2, .int 0), (3, .int (nI (zSN.getD i 0)))]) hx hb (by decide +kernel : decode cJ1_indexOfChar_4cfef 5 = .ok (.istore 5, 2)) hl (by decide) rfl (fun ls hl => ?_)
  have hN := zSN_lt hi
  have hB := zSB_len hi
  have loop : ∀ (q : List Int32) (k : Nat) (ls : Array Slot), k ≤ zSN.getD i 0 → (zSB.getD i []).drop k = q → lv_has ls 6 [(5, .int (nI k)), (4, .int v), (0, .ref (adV i)), (1, .int ch), (2, .int 0), (3, .int (nI (zSN.getD i 0)))] → W p l e R s mth args below meth c s.heap [] 0 0 (MQ below (jQ (jix v q k)) args s 0 0 (fun q => b ≤ q)) (F0 mth 7 ls []) := by
    intro q
    induction q with
    | nil =>
      intro k ls hk hq hl
      have : zSN.getD i 0 ≤ k := by
        rw [← hB]
        exact List.drop_eq_nil_iff.mp hq
      refine lv_iload hx hb (by decide +kernel : decode cJ1_indexOfChar_4cfef 7 = .ok (.iload 5, 2)) (lv_at hl 0 rfl) ?_
      refine lv_iload_n hx hb (by decide +kernel : decode cJ1_indexOfChar_4cfef 9 = .ok (.iload_n 3, 1)) rfl (lv_at hl 5 rfl) ?_
      refine lv_icmp_ge (tgt := 31) hx hb (by decide +kernel : decode cJ1_indexOfChar_4cfef 10 = .ok (.if_icmp .ge 21, 3)) (by decide) (fun c1 => ?_) (fun c1 => absurd (nI_le this (by omega)) c1)
      refine lv_iconst (v := -1) hx hb (by decide +kernel : decode cJ1_indexOfChar_4cfef 31 = .ok (.iconst (-1), 1)) (by decide) ?_
      exact j_iret C rfl nil_locs (by decide +kernel)
    | cons a q ih =>
      intro k ls hk hq hl
      have hkl : k < zSN.getD i 0 := by
        rw [← hB]
        exact Nat.lt_of_not_le (fun z => by rw [List.drop_eq_nil_iff.mpr z] at hq; cases hq)
      have ha : (zSB.getD i []).getD k 0 = a := by
        rw [List.getD_eq_getElem?_getD, ← List.head?_drop, hq]
        rfl
      have hq' : (zSB.getD i []).drop (k + 1) = q := by
        rw [← List.tail_drop, hq]
        rfl
      have hin : vp_in (nI k) (zSN.getD i 0) := nI_in hkl hN
      refine lv_iload hx hb (by decide +kernel : decode cJ1_indexOfChar_4cfef 7 = .ok (.iload 5, 2)) (lv_at hl 0 rfl) ?_
      refine lv_iload_n hx hb (by decide +kernel : decode cJ1_indexOfChar_4cfef 9 = .ok (.iload_n 3, 1)) rfl (lv_at hl 5 rfl) ?_
      refine lv_icmp_ge (tgt := 31) hx hb (by decide +kernel : decode cJ1_indexOfChar_4cfef 10 = .ok (.if_icmp .ge 21, 3)) (by decide) (fun c1 => absurd c1 (nI_ge hkl hN)) (fun c1 => ?_)
      refine lv_aload_n hx hb (by decide +kernel : decode cJ1_indexOfChar_4cfef 13 = .ok (.aload_n 0, 1)) rfl (lv_at hl 2 rfl) ?_
      refine lv_iload hx hb (by decide +kernel : decode cJ1_indexOfChar_4cfef 14 = .ok (.iload 5, 2)) (lv_at hl 0 rfl) ?_
      refine va_tb hx hb (cc := cJ1_indexOfChar_4cfef) (hS.1 i hi).2.2.2 (j_S nil_locs) hin (v := .int a) (by rw [nI_clamp (by omega), ha]) (by decide +kernel : decode cJ1_indexOfChar_4cfef 16 = .ok (.baload, 1)) ?_
      refine lv_iload hx hb (by decide +kernel : decode cJ1_indexOfChar_4cfef 17 = .ok (.iload 4, 2)) (lv_at hl 1 rfl) ?_
      rw [jix]
      refine lv_icmp_ne (tgt := 25) hx hb (by decide +kernel : decode cJ1_indexOfChar_4cfef 19 = .ok (.if_icmp .ne 6, 3)) (by decide) (fun c2 => ?_) (fun c2 => ?_)
      · rw [if_neg c2]
        refine lv_iinc (v := nI (k + 1)) (lv' := [(5, .int (nI (k + 1))), (4, .int v), (0, .ref (adV i)), (1, .int ch), (2, .int 0), (3, .int (nI (zSN.getD i 0)))]) hx hb (by decide +kernel : decode cJ1_indexOfChar_4cfef 25 = .ok (.iinc 5 1, 3)) hl (k := 0) rfl (nI_1 k) (by decide) rfl (fun ls hl => ?_)
        refine lv_goto (tgt := 7) hx hb (by decide +kernel : decode cJ1_indexOfChar_4cfef 28 = .ok (.goto (-21), 3)) (by decide) ?_
        exact ih (k + 1) ls hkl hq' hl
      · rw [if_pos c2]
        refine lv_iload hx hb (by decide +kernel : decode cJ1_indexOfChar_4cfef 22 = .ok (.iload 5, 2)) (lv_at hl 0 rfl) ?_
        exact j_iret C rfl nil_locs (by decide +kernel)
  exact loop _ 0 ls (Nat.zero_le _) rfl hl
/-- what indexOf answers -/
def jio (i : Nat) (ch : Int32) : Int32 := if jce ch = 0 then -1 else jix ch.toInt8.toInt32 (zSB.getD i []) 0
theorem j_indexOf1 {i : Nat} (hi : i < 3) (ch : Int32) : jMt yJ1_indexOf_4cfef cJ1_indexOf_4cfef 4 (some .int) (d + 1) b sa adV [.ref (adV i), .int ch, .int 0, .int (nI (zSN.getD i 0))] (jio i ch) := by
  refine j_met (by decide +kernel) (by show 4 ≤ 4; decide) ?_
  intro p l e R s mth args below meth c ls C hl
  obtain ⟨hx, hb, -, -, hml, hown, hts, hS, hZ, hfr, hlo⟩ := id C
  have hl : lv_has ls 4 [(0, .ref (adV i)), (1, .int ch), (2, .int 0), (3, .int (nI (zSN.getD i 0)))] := hl
  refine lv_iload_n hx hb (by decide +kernel : decode cJ1_indexOf_4cfef 0 = .ok (.iload_n 1, 1)) rfl (lv_at hl 1 rfl) ?_
  refine j_callS (As := [.int ch]) (rest := []) C (j_canEncode (d := d) ch) (Nat.le_refl _) (by decide) (zt2 100 rfl rfl) (zt1 12 rfl rfl) ⟨by decide +kernel, by decide +kernel⟩ (n := 1) (by decide +kernel) (zt2 98 rfl rfl) (zt2 99 rfl rfl) rfl nil_locs hl.1 (by decide) (Nat.zero_le _) (Nat.zero_le _) (by decide +kernel : decode cJ1_indexOf_4cfef 1 = .ok (.invokestatic 88, 3)) (fun locs' hL => ?_)
  unfold jio
  refine lv_if_ne (tgt := 9) hx hb (by decide +kernel : decode cJ1_indexOf_4cfef 4 = .ok (.ifCond .ne 5, 3)) (by decide) (fun c1 => ?_) (fun c1 => ?_)
  · rw [if_neg c1]
    refine lv_iload_n hx hb (by decide +kernel : decode cJ1_indexOf_4cfef 9 = .ok (.iload_n 2, 1)) rfl (lv_at hl 2 rfl) ?_
    refine lv_iconst (v := 0) hx hb (by decide +kernel : decode cJ1_indexOf_4cfef 10 = .ok (.iconst 0, 1)) (by decide) ?_
    refine va_mmax hx hb (cc := cJ1_indexOf_4cfef) (by rw [hml, hl.1]) hown (hts _ (zt2 101 rfl rfl)) (hts _ (zt1 148 rfl rfl)) (hts _ (zt1 7 rfl rfl)) (hts _ (zt1 149 rfl rfl)) (by omega) (by show 0 + 13 ≤ _; omega) (Nat.zero_le _) (Nat.zero_le _) (by decide +kernel : decode cJ1_indexOf_4cfef 11 = .ok (.invokestatic 92, 3)) ?_
    rw [show (if (0 : Int32) < 0 then (0 : Int32) else 0) = 0 by decide]
    refine lv_istore_n (lv' := [(2, .int 0), (0, .ref (adV i)), (1, .int ch), (3, .int (nI (zSN.getD i 0)))]) hx hb (by decide +kernel : decode cJ1_indexOf_4cfef 14 = .ok (.istore_n 2, 1)) rfl hl (by decide) rfl (fun ls hl => ?_)
    refine lv_iload_n hx hb (by decide +kernel : decode cJ1_indexOf_4cfef 15 = .ok (.iload_n 3, 1)) rfl (lv_at hl 3 rfl) ?_
    refine lv_aload_n hx hb (by decide +kernel : decode cJ1_indexOf_4cfef 16 = .ok (.aload_n 0, 1)) rfl (lv_at hl 1 rfl) ?_
    refine va_tlen hx hb (cc := cJ1_indexOf_4cfef) (hS.1 i hi).2.2.2 (j_S hL) (v := nI (zSN.getD i 0)) rfl (by decide +kernel : decode cJ1_indexOf_4cfef 17 = .ok (.arraylength, 1)) ?_
    refine va_mmin hx hb (cc := cJ1_indexOf_4cfef) (by rw [hml, hl.1]) hown (hts _ (zt2 102 rfl rfl)) (hts _ (zt2 63 rfl rfl)) (hts _ (zt1 7 rfl rfl)) (hts _ (zt2 64 rfl rfl)) (by omega) (by show 0 + 13 ≤ _; omega) (Nat.zero_le _) (Nat.zero_le _) (by decide +kernel : decode cJ1_indexOf_4cfef 18 = .ok (.invokestatic 38, 3)) ?_
    rw [show (if nI (zSN.getD i 0) < nI (zSN.getD i 0) then nI (zSN.getD i 0) else nI (zSN.getD i 0)) = nI (zSN.getD i 0) by split <;> rfl]
    refine lv_istore_n (lv' := [(3, .int (nI (zSN.getD i 0))), (2, .int 0), (0, .ref (adV i)), (1, .int ch)]) hx hb (by decide +kernel : decode cJ1_indexOf_4cfef 21 = .ok (.istore_n 3, 1)) rfl hl (by decide) rfl (fun ls hl => ?_)
    refine lv_iload_n hx hb (by decide +kernel : decode cJ1_indexOf_4cfef 22 = .ok (.iload_n 2, 1)) rfl (lv_at hl 1 rfl) ?_
    refine lv_iload_n hx hb (by decide +kernel : decode cJ1_indexOf_4cfef 23 = .ok (.iload_n 3, 1)) rfl (lv_at hl 0 rfl) ?_
    have hpos : (0 : Int32) < nI (zSN.getD i 0) := by
      rcases (by omega : i = 0 ∨ i = 1 ∨ i = 2) with rfl | rfl | rfl <;> decide
    refine lv_icmp_lt (tgt := 29) hx hb (by decide +kernel : decode cJ1_indexOf_4cfef 24 = .ok (.if_icmp .lt 5, 3)) (by decide) (fun c2 => ?_) (fun c2 => absurd hpos c2)
    refine lv_aload_n hx hb (by decide +kernel : decode cJ1_indexOf_4cfef 29 = .ok (.aload_n 0, 1)) rfl (lv_at hl 2 rfl) ?_
    refine lv_iload_n hx hb (by decide +kernel : decode cJ1_indexOf_4cfef 30 = .ok (.iload_n 1, 1)) rfl (lv_at hl 3 rfl) ?_
    refine lv_iload_n hx hb (by decide +kernel : decode cJ1_indexOf_4cfef 31 = .ok (.iload_n 2, 1)) rfl (lv_at hl 1 rfl) ?_
    refine lv_iload_n hx hb (by decide +kernel : decode cJ1_indexOf_4cfef 32 = .ok (.iload_n 3, 1)) rfl (lv_at hl 0 rfl) ?_
    refine j_callS (As := [.ref (adV i), .int ch, .int 0, .int (nI (zSN.getD i 0))]) (rest := []) C (j_indexOfChar (d := d) hi ch) (Nat.le_refl _) (by decide) (zt2 105 rfl rfl) (zt1 12 rfl rfl) ⟨by decide +kernel, by decide +kernel⟩ (n := 4) (by decide +kernel) (zt2 103 rfl rfl) (zt2 104 rfl rfl) rfl hL hl.1 (by decide) (Nat.zero_le _) (Nat.zero_le _) (by decide +kernel : decode cJ1_indexOf_4cfef 33 = .ok (.invokestatic 95, 3)) (fun locs' hL => ?_)
    exact j_iret C rfl hL (by decide +kernel)
  · rw [if_pos c1]
    refine lv_iconst (v := -1) hx hb (by decide +kernel : decode cJ1_indexOf_4cfef 7 = .ok (.iconst (-1), 1)) (by decide) ?_
    exact j_iret C rfl hL (by decide +kernel)
theorem j_indexOf2 {i : Nat} (hi : i < 3) (ch : Int32) : jMt yJ0_indexOf_7cf53 cJ0_indexOf_7cf53 3 (some .int) (d + 2) b sa adV [.ref (sa i), .int ch, .int 0] (jio i ch) := by
  refine j_met (by decide +kernel) (by show 3 ≤ 3; decide) ?_
  intro p l e R s mth args below meth c ls C hl
  obtain ⟨hx, hb, -, -, hml, hown, hts, hS, hZ, hfr, hlo⟩ := id C
  have hl : lv_has ls 3 [(0, .ref (sa i)), (1, .int ch), (2, .int 0)] := hl
  refine lv_aload_n hx hb (by decide +kernel : decode cJ0_indexOf_7cf53 0 = .ok (.aload_n 0, 1)) rfl (lv_at hl 0 rfl) ?_
  refine j_callV (As := []) (rest := []) C hi (j_isLatin1 (d := d) hi) (by omega) (by decide) (zt2 84 rfl rfl) (zt1 11 rfl rfl) ⟨by decide +kernel, by decide +kernel⟩ (n := 0) (by decide +kernel) (zt2 81 rfl rfl) (zt2 82 rfl rfl) (zt2 83 rfl rfl) rfl nil_locs hl.1 (by decide) (Nat.zero_le _) (Nat.zero_le _) (by decide +kernel : decode cJ0_indexOf_7cf53 1 = .ok (.invokevirtual 492, 3)) (fun locs' hL => ?_)
  refine lv_if_eq (tgt := 23) hx hb (by decide +kernel : decode cJ0_indexOf_7cf53 4 = .ok (.ifCond .eq 19, 3)) (by decide) (fun c1 => absurd c1 (by decide)) (fun c1 => ?_)
  refine lv_aload_n hx hb (by decide +kernel : decode cJ0_indexOf_7cf53 7 = .ok (.aload_n 0, 1)) rfl (lv_at hl 0 rfl) ?_
  refine vk_getf hx hb (cc := cJ0_indexOf_7cf53) (ref := "java/lang/String") (hS.1 i hi).2.2.1 (j_S hL) hown (hts _ (zt5 120 rfl rfl)) (fun x h => h) (by decide +kernel : decode cJ0_indexOf_7cf53 8 = .ok (.getfield 9, 3)) ?_
  refine lv_iload_n hx hb (by decide +kernel : decode cJ0_indexOf_7cf53 11 = .ok (.iload_n 1, 1)) rfl (lv_at hl 1 rfl) ?_
  refine lv_iload_n hx hb (by decide +kernel : decode cJ0_indexOf_7cf53 12 = .ok (.iload_n 2, 1)) rfl (lv_at hl 2 rfl) ?_
  refine lv_aload_n hx hb (by decide +kernel : decode cJ0_indexOf_7cf53 13 = .ok (.aload_n 0, 1)) rfl (lv_at hl 0 rfl) ?_
  refine j_callV (As := []) (rest := [.int 0, .int ch, .ref (adV i)]) C hi (j_length (d := d) hi) (by omega) (by decide) (zt2 90 rfl rfl) (zt1 11 rfl rfl) ⟨by decide +kernel, by decide +kernel⟩ (n := 0) (by decide +kernel) (zt2 87 rfl rfl) (zt2 88 rfl rfl) (zt2 89 rfl rfl) rfl hL hl.1 (by show 3 ≤ 8; decide) (Nat.zero_le _) (Nat.zero_le _) (by decide +kernel : decode cJ0_indexOf_7cf53 14 = .ok (.invokevirtual 505, 3)) (fun locs' hL => ?_)
  refine j_callS (As := [.ref (adV i), .int ch, .int 0, .int (nI (zSN.getD i 0))]) (rest := []) C (j_indexOf1 (d := d) hi ch) (by omega) (by decide) (zt2 97 rfl rfl) (zt1 12 rfl rfl) ⟨by decide +kernel, by decide +kernel⟩ (n := 4) (by decide +kernel) (zt2 95 rfl rfl) (zt2 96 rfl rfl) rfl hL hl.1 (by decide) (Nat.zero_le _) (Nat.zero_le _) (by decide +kernel : decode cJ0_indexOf_7cf53 17 = .ok (.invokestatic 637, 3)) (fun locs' hL => ?_)
  refine lv_goto (tgt := 36) hx hb (by decide +kernel : decode cJ0_indexOf_7cf53 20 = .ok (.goto 16, 3)) (by decide) ?_
  exact j_iret C rfl hL (by decide +kernel)
theorem j_indexOf3 {i : Nat} (hi : i < 3) (ch : Int32) : jMt yJ0_indexOf_0f7a4 cJ0_indexOf_0f7a4 2 (some .int) (d + 3) b sa adV [.ref (sa i), .int ch] (jio i ch) := by
  refine j_met (by decide +kernel) (by show 2 ≤ 2; decide) ?_
  intro p l e R s mth args below meth c ls C hl
  obtain ⟨hx, hb, -, -, hml, hown, hts, hS, hZ, hfr, hlo⟩ := id C
  have hl : lv_has ls 2 [(0, .ref (sa i)), (1, .int ch)] := hl
  refine lv_aload_n hx hb (by decide +kernel : decode cJ0_indexOf_0f7a4 0 = .ok (.aload_n 0, 1)) rfl (lv_at hl 0 rfl) ?_
  refine lv_iload_n hx hb (by decide +kernel : decode cJ0_indexOf_0f7a4 1 = .ok (.iload_n 1, 1)) rfl (lv_at hl 1 rfl) ?_
  refine lv_iconst (v := 0) hx hb (by decide +kernel : decode cJ0_indexOf_0f7a4 2 = .ok (.iconst 0, 1)) (by decide) ?_
  refine j_callV (As := [.int ch, .int 0]) (rest := []) C hi (j_indexOf2 (d := d) hi ch) (by omega) (by decide) (zt2 80 rfl rfl) (zt1 11 rfl rfl) ⟨by decide +kernel, by decide +kernel⟩ (n := 2) (by decide +kernel) (zt2 77 rfl rfl) (zt2 78 rfl rfl) (zt2 79 rfl rfl) rfl nil_locs hl.1 (by decide) (Nat.zero_le _) (Nat.zero_le _) (by decide +kernel : decode cJ0_indexOf_0f7a4 3 = .ok (.invokevirtual 633, 3)) (fun locs' hL => ?_)
  exact j_iret C rfl hL (by decide +kernel)
end J2
