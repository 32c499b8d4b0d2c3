section LC
variable {p : Program} {l : Launch} {e : Env} {s : State} {m : MethodId} {below : List Frame} {meth : Method} {c : Code} {b L : Nat} {xs : Nat → Int32} {Q : State → Prop} {ls : Array Slot} {D : va_G} {ids : Nat → ClassId} {sa adV : Nat → Nat} {H : Heap} {locs : List Loc} {w : zW} {k : Nat}
theorem lc_type (C0 : lw_At p s m meth c b L xs) (KK : zKK D ids s.heap.size sa adV s s.heap) (hk : k + 3 ≤ L) (hL : L ≤ 1536) (hl : lv_has ls 4 [(3, .int (nI k)), (2, .ref (s.heap.size + (67 : Int).toNat)), (1, .ref (s.heap.size + (0 : Int).toNat)), (0, .ref b)]) (hR : zRep D ids s.heap.size sa s true H locs 92 w) (hT : TopOk w) (kk : ∀ (H' : Heap) (locs' : List Loc) (w' : zW), zRep D ids s.heap.size sa s true H' locs' 92 w' → TopOk w' → W p l e room_1 s m #[Value.ref b] below meth c H' locs' 92 (zsum 92) Q (F0 m 524 ls [])) : W p l e room_1 s m #[Value.ref b] below meth c H locs 92 (zsum 92) Q (F0 m 120 ls []) := by
  obtain ⟨hx, hb, hr, hml, hown, hts, hX, hbl, hlocks, hgv⟩ := id C0
  have hbA : ¬ (fun q : Nat => s.heap.size ≤ q) b := Nat.not_le.mpr hbl
  obtain ⟨v, ev⟩ : ∃ v : Int32, xs (nI k + nI 1).toNatClampNeg = v := ⟨_, rfl⟩
  obtain ⟨x, w1, w2, q1, q2, hT2⟩ := b_type (x := v.toInt) w hT
  refine lv_aload_n hx hb (by decide +kernel : decode code 120 = .ok (.aload_n 1, 1)) rfl (lv_at hl 2 rfl) ?_
  refine lv_aload_n hx hb (by decide +kernel : decode code 121 = .ok (.aload_n 0, 1)) rfl (lv_at hl 3 rfl) ?_
  refine lv_iload_n hx hb (by decide +kernel : decode code 122 = .ok (.iload_n 3, 1)) rfl (lv_at hl 0 rfl) ?_
  refine lv_iconst (v := nI 1) hx hb (by decide +kernel : decode code 123 = .ok (.iconst 1, 1)) (by decide) ?_
  refine lv_iadd hx hb (by decide +kernel : decode code 124 = .ok (.iadd, 1)) ?_
  refine va_sld hx hb hX hbl hbA (lw_S hR) (vin (by omega) hL) (by decide +kernel : decode code 125 = .ok (.iaload, 1)) ?_
  rw [ev]
  have clq1 : ∀ (rest : List Value), (([(0, v.toInt)] : List zV)).map (zcv s.heap.size sa) = [.int v] := fun _ => by
    simp only [List.map_cons, List.map_nil, zcv_int]
  have callq1 := lw_call (p := p) (l := l) (e := e) (below := below) (Q := Q) (pc := 126) (ls := ls) (rest := []) (m' := 73) (k := 13) (n := 1) (a := 0) (x := x) (As := [(0, v.toInt)]) C0 KK q1 zmo_73 (Nat.le_of_ble_eq_true rfl) rfl (zt2 46 rfl rfl) (zt2 47 rfl rfl) (zt2 48 rfl rfl) (by decide +kernel) rfl (by decide) (by decide) (by decide +kernel) (zST_1 v) hl.1 (by first | decide | (show 1 ≤ 8; decide)) (by decide +kernel : decode code 126 = .ok (.invokevirtual 13, 3)) hR
  rw [clq1 []] at callq1
  refine callq1 (fun H1 locs1 hRq1 hxq1 => ?_)
  refine lv_aload_n hx hb (by decide +kernel : decode code 129 = .ok (.aload_n 2, 1)) rfl (lv_at hl 1 rfl) ?_
  refine lv_aload_n hx hb (by decide +kernel : decode code 130 = .ok (.aload_n 0, 1)) rfl (lv_at hl 3 rfl) ?_
  refine lv_iload_n hx hb (by decide +kernel : decode code 131 = .ok (.iload_n 3, 1)) rfl (lv_at hl 0 rfl) ?_
  refine lv_iconst (v := nI 1) hx hb (by decide +kernel : decode code 132 = .ok (.iconst 1, 1)) (by decide) ?_
  refine lv_iadd hx hb (by decide +kernel : decode code 133 = .ok (.iadd, 1)) ?_
  refine va_sld hx hb hX hbl hbA (lw_S hRq1) (vin (by omega) hL) (by decide +kernel : decode code 134 = .ok (.iaload, 1)) ?_
  rw [ev]
  have clq2 : ∀ (rest : List Value), (([(0, v.toInt)] : List zV)).map (zcv s.heap.size sa) = [.int v] := fun _ => by
    simp only [List.map_cons, List.map_nil, zcv_int]
  have callq2 := lw_call (p := p) (l := l) (e := e) (below := below) (Q := Q) (pc := 135) (ls := ls) (rest := [.int (Int32.ofInt x)]) (m' := 112) (k := 17) (n := 1) (a := 67) (x := x) (As := [(0, v.toInt)]) C0 KK q2 zmo_112 (Nat.le_of_ble_eq_true rfl) rfl (zt4 153 rfl rfl) (zt4 154 rfl rfl) (zt4 155 rfl rfl) (by decide +kernel) rfl (by decide) (by decide) (by decide +kernel) (zST_1 v) hl.1 (by first | decide | (show 1 ≤ 8; decide)) (by decide +kernel : decode code 135 = .ok (.invokevirtual 17, 3)) hRq1
  rw [clq2 []] at callq2
  refine callq2 (fun H1 locs1 hRq2 hxq2 => ?_)
  refine lv_icmp_eq (tgt := 524) hx hb (by decide +kernel : decode code 138 = .ok (.if_icmp .eq 386, 3)) (by decide) (fun _ => ?_) (fun z => absurd rfl z)
  exact kk _ _ _ hRq2 hT2
theorem lc_clear (C0 : lw_At p s m meth c b L xs) (KK : zKK D ids s.heap.size sa adV s s.heap) (hk : k + 3 ≤ L) (hL : L ≤ 1536) (hl : lv_has ls 4 [(3, .int (nI k)), (2, .ref (s.heap.size + (67 : Int).toNat)), (1, .ref (s.heap.size + (0 : Int).toNat)), (0, .ref b)]) (hR : zRep D ids s.heap.size sa s true H locs 92 w) (hT : TopOk w) (kk : ∀ (H' : Heap) (locs' : List Loc) (w' : zW), zRep D ids s.heap.size sa s true H' locs' 92 w' → TopOk w' → W p l e room_1 s m #[Value.ref b] below meth c H' locs' 92 (zsum 92) Q (F0 m 524 ls [])) : W p l e room_1 s m #[Value.ref b] below meth c H locs 92 (zsum 92) Q (F0 m 143 ls []) := by
  obtain ⟨hx, hb, hr, hml, hown, hts, hX, hbl, hlocks, hgv⟩ := id C0
  have hbA : ¬ (fun q : Nat => s.heap.size ≤ q) b := Nat.not_le.mpr hbl
  obtain ⟨x, w1, w2, q1, q2, hT2⟩ := b_clear w hT
  refine lv_aload_n hx hb (by decide +kernel : decode code 143 = .ok (.aload_n 1, 1)) rfl (lv_at hl 2 rfl) ?_
  have clq1 : ∀ (rest : List Value), (([] : List zV)).map (zcv s.heap.size sa) = [] := fun _ => by
    rfl
  have callq1 := lw_call (p := p) (l := l) (e := e) (below := below) (Q := Q) (pc := 144) (ls := ls) (rest := []) (m' := 74) (k := 18) (n := 0) (a := 0) (x := x) (As := []) C0 KK q1 zmo_74 (Nat.le_of_ble_eq_true rfl) rfl (zt2 50 rfl rfl) (zt2 51 rfl rfl) (zt2 52 rfl rfl) (by decide +kernel) rfl (by decide) (by decide) (by decide +kernel) (zST_0) hl.1 (by first | decide | (show 1 ≤ 8; decide)) (by decide +kernel : decode code 144 = .ok (.invokevirtual 18, 3)) hR
  rw [clq1 []] at callq1
  refine callq1 (fun H1 locs1 hRq1 hxq1 => ?_)
  refine lv_aload_n hx hb (by decide +kernel : decode code 147 = .ok (.aload_n 2, 1)) rfl (lv_at hl 1 rfl) ?_
  have clq2 : ∀ (rest : List Value), (([] : List zV)).map (zcv s.heap.size sa) = [] := fun _ => by
    rfl
  have callq2 := lw_call (p := p) (l := l) (e := e) (below := below) (Q := Q) (pc := 148) (ls := ls) (rest := [.int (Int32.ofInt x)]) (m' := 113) (k := 22) (n := 0) (a := 67) (x := x) (As := []) C0 KK q2 zmo_113 (Nat.le_of_ble_eq_true rfl) rfl (zt4 161 rfl rfl) (zt4 162 rfl rfl) (zt4 163 rfl rfl) (by decide +kernel) rfl (by decide) (by decide) (by decide +kernel) (zST_0) hl.1 (by first | decide | (show 1 ≤ 8; decide)) (by decide +kernel : decode code 148 = .ok (.invokevirtual 22, 3)) hRq1
  rw [clq2 []] at callq2
  refine callq2 (fun H1 locs1 hRq2 hxq2 => ?_)
  refine lv_icmp_eq (tgt := 524) hx hb (by decide +kernel : decode code 151 = .ok (.if_icmp .eq 373, 3)) (by decide) (fun _ => ?_) (fun z => absurd rfl z)
  exact kk _ _ _ hRq2 hT2
theorem lc_threads (C0 : lw_At p s m meth c b L xs) (KK : zKK D ids s.heap.size sa adV s s.heap) (hk : k + 3 ≤ L) (hL : L ≤ 1536) (hl : lv_has ls 4 [(3, .int (nI k)), (2, .ref (s.heap.size + (67 : Int).toNat)), (1, .ref (s.heap.size + (0 : Int).toNat)), (0, .ref b)]) (hR : zRep D ids s.heap.size sa s true H locs 92 w) (hT : TopOk w) (kk : ∀ (H' : Heap) (locs' : List Loc) (w' : zW), zRep D ids s.heap.size sa s true H' locs' 92 w' → TopOk w' → W p l e room_1 s m #[Value.ref b] below meth c H' locs' 92 (zsum 92) Q (F0 m 524 ls [])) : W p l e room_1 s m #[Value.ref b] below meth c H locs 92 (zsum 92) Q (F0 m 156 ls []) := by
  obtain ⟨hx, hb, hr, hml, hown, hts, hX, hbl, hlocks, hgv⟩ := id C0
  have hbA : ¬ (fun q : Nat => s.heap.size ≤ q) b := Nat.not_le.mpr hbl
  obtain ⟨x, w1, w2, q1, q2, hT2⟩ := b_threads w hT
  refine lv_aload_n hx hb (by decide +kernel : decode code 156 = .ok (.aload_n 1, 1)) rfl (lv_at hl 2 rfl) ?_
  have clq1 : ∀ (rest : List Value), (([] : List zV)).map (zcv s.heap.size sa) = [] := fun _ => by
    rfl
  have callq1 := lw_call (p := p) (l := l) (e := e) (below := below) (Q := Q) (pc := 157) (ls := ls) (rest := []) (m' := 75) (k := 23) (n := 0) (a := 0) (x := x) (As := []) C0 KK q1 zmo_75 (Nat.le_of_ble_eq_true rfl) rfl (zt2 54 rfl rfl) (zt2 55 rfl rfl) (zt2 56 rfl rfl) (by decide +kernel) rfl (by decide) (by decide) (by decide +kernel) (zST_0) hl.1 (by first | decide | (show 1 ≤ 8; decide)) (by decide +kernel : decode code 157 = .ok (.invokevirtual 23, 3)) hR
  rw [clq1 []] at callq1
  refine callq1 (fun H1 locs1 hRq1 hxq1 => ?_)
  refine lv_aload_n hx hb (by decide +kernel : decode code 160 = .ok (.aload_n 2, 1)) rfl (lv_at hl 1 rfl) ?_
  have clq2 : ∀ (rest : List Value), (([] : List zV)).map (zcv s.heap.size sa) = [] := fun _ => by
    rfl
  have callq2 := lw_call (p := p) (l := l) (e := e) (below := below) (Q := Q) (pc := 161) (ls := ls) (rest := [.int (Int32.ofInt x)]) (m' := 122) (k := 26) (n := 0) (a := 67) (x := x) (As := []) C0 KK q2 zmo_122 (Nat.le_of_ble_eq_true rfl) rfl (zt4 165 rfl rfl) (zt4 166 rfl rfl) (zt4 167 rfl rfl) (by decide +kernel) rfl (by decide) (by decide) (by decide +kernel) (zST_0) hl.1 (by first | decide | (show 1 ≤ 8; decide)) (by decide +kernel : decode code 161 = .ok (.invokevirtual 26, 3)) hRq1
  rw [clq2 []] at callq2
  refine callq2 (fun H1 locs1 hRq2 hxq2 => ?_)
  refine lv_icmp_eq (tgt := 524) hx hb (by decide +kernel : decode code 164 = .ok (.if_icmp .eq 360, 3)) (by decide) (fun _ => ?_) (fun z => absurd rfl z)
  exact kk _ _ _ hRq2 hT2
theorem lc_place (C0 : lw_At p s m meth c b L xs) (KK : zKK D ids s.heap.size sa adV s s.heap) (hk : k + 3 ≤ L) (hL : L ≤ 1536) (hl : lv_has ls 4 [(3, .int (nI k)), (2, .ref (s.heap.size + (67 : Int).toNat)), (1, .ref (s.heap.size + (0 : Int).toNat)), (0, .ref b)]) (hR : zRep D ids s.heap.size sa s true H locs 92 w) (hT : TopOk w) (kk : ∀ (H' : Heap) (locs' : List Loc) (w' : zW), zRep D ids s.heap.size sa s true H' locs' 92 w' → TopOk w' → W p l e room_1 s m #[Value.ref b] below meth c H' locs' 92 (zsum 92) Q (F0 m 524 ls [])) : W p l e room_1 s m #[Value.ref b] below meth c H locs 92 (zsum 92) Q (F0 m 169 ls []) := by
  obtain ⟨hx, hb, hr, hml, hown, hts, hX, hbl, hlocks, hgv⟩ := id C0
  have hbA : ¬ (fun q : Nat => s.heap.size ≤ q) b := Nat.not_le.mpr hbl
  obtain ⟨v, ev⟩ : ∃ v : Int32, xs (nI k + nI 1).toNatClampNeg = v := ⟨_, rfl⟩
  obtain ⟨u, eu⟩ : ∃ v : Int32, xs (nI k + nI 2).toNatClampNeg = v := ⟨_, rfl⟩
  obtain ⟨x, w1, w2, q1, q2, hT2⟩ := b_place (x := v.toInt) (y := u.toInt) w hT
  refine lv_aload_n hx hb (by decide +kernel : decode code 169 = .ok (.aload_n 1, 1)) rfl (lv_at hl 2 rfl) ?_
  refine lv_aload_n hx hb (by decide +kernel : decode code 170 = .ok (.aload_n 0, 1)) rfl (lv_at hl 3 rfl) ?_
  refine lv_iload_n hx hb (by decide +kernel : decode code 171 = .ok (.iload_n 3, 1)) rfl (lv_at hl 0 rfl) ?_
  refine lv_iconst (v := nI 1) hx hb (by decide +kernel : decode code 172 = .ok (.iconst 1, 1)) (by decide) ?_
  refine lv_iadd hx hb (by decide +kernel : decode code 173 = .ok (.iadd, 1)) ?_
  refine va_sld hx hb hX hbl hbA (lw_S hR) (vin (by omega) hL) (by decide +kernel : decode code 174 = .ok (.iaload, 1)) ?_
  rw [ev]
  refine lv_aload_n hx hb (by decide +kernel : decode code 175 = .ok (.aload_n 0, 1)) rfl (lv_at hl 3 rfl) ?_
  refine lv_iload_n hx hb (by decide +kernel : decode code 176 = .ok (.iload_n 3, 1)) rfl (lv_at hl 0 rfl) ?_
  refine lv_iconst (v := nI 2) hx hb (by decide +kernel : decode code 177 = .ok (.iconst 2, 1)) (by decide) ?_
  refine lv_iadd hx hb (by decide +kernel : decode code 178 = .ok (.iadd, 1)) ?_
  refine va_sld hx hb hX hbl hbA (lw_S hR) (vin (by omega) hL) (by decide +kernel : decode code 179 = .ok (.iaload, 1)) ?_
  rw [eu]
  have clq1 : ∀ (rest : List Value), (([(0, v.toInt), (0, u.toInt)] : List zV)).map (zcv s.heap.size sa) = [.int v, .int u] := fun _ => by
    simp only [List.map_cons, List.map_nil, zcv_int]
  have callq1 := lw_call (p := p) (l := l) (e := e) (below := below) (Q := Q) (pc := 180) (ls := ls) (rest := []) (m' := 76) (k := 27) (n := 2) (a := 0) (x := x) (As := [(0, v.toInt), (0, u.toInt)]) C0 KK q1 zmo_76 (Nat.le_of_ble_eq_true rfl) rfl (zt2 225 rfl rfl) (zt2 226 rfl rfl) (zt2 227 rfl rfl) (by decide +kernel) rfl (by decide) (by decide) (by decide +kernel) (zST_2 v u) hl.1 (by first | decide | (show 1 ≤ 8; decide)) (by decide +kernel : decode code 180 = .ok (.invokevirtual 27, 3)) hR
  rw [clq1 []] at callq1
  refine callq1 (fun H1 locs1 hRq1 hxq1 => ?_)
  refine lv_aload_n hx hb (by decide +kernel : decode code 183 = .ok (.aload_n 2, 1)) rfl (lv_at hl 1 rfl) ?_
  refine lv_aload_n hx hb (by decide +kernel : decode code 184 = .ok (.aload_n 0, 1)) rfl (lv_at hl 3 rfl) ?_
  refine lv_iload_n hx hb (by decide +kernel : decode code 185 = .ok (.iload_n 3, 1)) rfl (lv_at hl 0 rfl) ?_
  refine lv_iconst (v := nI 1) hx hb (by decide +kernel : decode code 186 = .ok (.iconst 1, 1)) (by decide) ?_
  refine lv_iadd hx hb (by decide +kernel : decode code 187 = .ok (.iadd, 1)) ?_
  refine va_sld hx hb hX hbl hbA (lw_S hRq1) (vin (by omega) hL) (by decide +kernel : decode code 188 = .ok (.iaload, 1)) ?_
  rw [ev]
  refine lv_aload_n hx hb (by decide +kernel : decode code 189 = .ok (.aload_n 0, 1)) rfl (lv_at hl 3 rfl) ?_
  refine lv_iload_n hx hb (by decide +kernel : decode code 190 = .ok (.iload_n 3, 1)) rfl (lv_at hl 0 rfl) ?_
  refine lv_iconst (v := nI 2) hx hb (by decide +kernel : decode code 191 = .ok (.iconst 2, 1)) (by decide) ?_
  refine lv_iadd hx hb (by decide +kernel : decode code 192 = .ok (.iadd, 1)) ?_
  refine va_sld hx hb hX hbl hbA (lw_S hRq1) (vin (by omega) hL) (by decide +kernel : decode code 193 = .ok (.iaload, 1)) ?_
  rw [eu]
  have clq2 : ∀ (rest : List Value), (([(0, v.toInt), (0, u.toInt)] : List zV)).map (zcv s.heap.size sa) = [.int v, .int u] := fun _ => by
    simp only [List.map_cons, List.map_nil, zcv_int]
  have callq2 := lw_call (p := p) (l := l) (e := e) (below := below) (Q := Q) (pc := 194) (ls := ls) (rest := [.int (Int32.ofInt x)]) (m' := 123) (k := 31) (n := 2) (a := 67) (x := x) (As := [(0, v.toInt), (0, u.toInt)]) C0 KK q2 zmo_123 (Nat.le_of_ble_eq_true rfl) rfl (zt4 202 rfl rfl) (zt4 203 rfl rfl) (zt4 204 rfl rfl) (by decide +kernel) rfl (by decide) (by decide) (by decide +kernel) (zST_2 v u) hl.1 (by first | decide | (show 1 ≤ 8; decide)) (by decide +kernel : decode code 194 = .ok (.invokevirtual 31, 3)) hRq1
  rw [clq2 []] at callq2
  refine callq2 (fun H1 locs1 hRq2 hxq2 => ?_)
  refine lv_icmp_eq (tgt := 524) hx hb (by decide +kernel : decode code 197 = .ok (.if_icmp .eq 327, 3)) (by decide) (fun _ => ?_) (fun z => absurd rfl z)
  exact kk _ _ _ hRq2 hT2
theorem lc_thread (C0 : lw_At p s m meth c b L xs) (KK : zKK D ids s.heap.size sa adV s s.heap) (hk : k + 3 ≤ L) (hL : L ≤ 1536) (hl : lv_has ls 4 [(3, .int (nI k)), (2, .ref (s.heap.size + (67 : Int).toNat)), (1, .ref (s.heap.size + (0 : Int).toNat)), (0, .ref b)]) (hR : zRep D ids s.heap.size sa s true H locs 92 w) (hT : TopOk w) (kk : ∀ (H' : Heap) (locs' : List Loc) (w' : zW), zRep D ids s.heap.size sa s true H' locs' 92 w' → TopOk w' → W p l e room_1 s m #[Value.ref b] below meth c H' locs' 92 (zsum 92) Q (F0 m 524 ls [])) : W p l e room_1 s m #[Value.ref b] below meth c H locs 92 (zsum 92) Q (F0 m 202 ls []) := by
  obtain ⟨hx, hb, hr, hml, hown, hts, hX, hbl, hlocks, hgv⟩ := id C0
  have hbA : ¬ (fun q : Nat => s.heap.size ≤ q) b := Nat.not_le.mpr hbl
  obtain ⟨v, ev⟩ : ∃ v : Int32, xs (nI k + nI 1).toNatClampNeg = v := ⟨_, rfl⟩
  obtain ⟨u, eu⟩ : ∃ v : Int32, xs (nI k + nI 2).toNatClampNeg = v := ⟨_, rfl⟩
  obtain ⟨x, w1, w2, q1, q2, hT2⟩ := b_thread (x := v.toInt) (y := u.toInt) w hT
  refine lv_aload_n hx hb (by decide +kernel : decode code 202 = .ok (.aload_n 1, 1)) rfl (lv_at hl 2 rfl) ?_
  refine lv_aload_n hx hb (by decide +kernel : decode code 203 = .ok (.aload_n 0, 1)) rfl (lv_at hl 3 rfl) ?_
  refine lv_iload_n hx hb (by decide +kernel : decode code 204 = .ok (.iload_n 3, 1)) rfl (lv_at hl 0 rfl) ?_
  refine lv_iconst (v := nI 1) hx hb (by decide +kernel : decode code 205 = .ok (.iconst 1, 1)) (by decide) ?_
  refine lv_iadd hx hb (by decide +kernel : decode code 206 = .ok (.iadd, 1)) ?_
  refine va_sld hx hb hX hbl hbA (lw_S hR) (vin (by omega) hL) (by decide +kernel : decode code 207 = .ok (.iaload, 1)) ?_
  rw [ev]
  refine lv_aload_n hx hb (by decide +kernel : decode code 208 = .ok (.aload_n 0, 1)) rfl (lv_at hl 3 rfl) ?_
  refine lv_iload_n hx hb (by decide +kernel : decode code 209 = .ok (.iload_n 3, 1)) rfl (lv_at hl 0 rfl) ?_
  refine lv_iconst (v := nI 2) hx hb (by decide +kernel : decode code 210 = .ok (.iconst 2, 1)) (by decide) ?_
  refine lv_iadd hx hb (by decide +kernel : decode code 211 = .ok (.iadd, 1)) ?_
  refine va_sld hx hb hX hbl hbA (lw_S hR) (vin (by omega) hL) (by decide +kernel : decode code 212 = .ok (.iaload, 1)) ?_
  rw [eu]
  have clq1 : ∀ (rest : List Value), (([(0, v.toInt), (0, u.toInt)] : List zV)).map (zcv s.heap.size sa) = [.int v, .int u] := fun _ => by
    simp only [List.map_cons, List.map_nil, zcv_int]
  have callq1 := lw_call (p := p) (l := l) (e := e) (below := below) (Q := Q) (pc := 213) (ls := ls) (rest := []) (m' := 77) (k := 32) (n := 2) (a := 0) (x := x) (As := [(0, v.toInt), (0, u.toInt)]) C0 KK q1 zmo_77 (Nat.le_of_ble_eq_true rfl) rfl (zt2 239 rfl rfl) (zt3 0 rfl rfl) (zt3 1 rfl rfl) (by decide +kernel) rfl (by decide) (by decide) (by decide +kernel) (zST_2 v u) hl.1 (by first | decide | (show 1 ≤ 8; decide)) (by decide +kernel : decode code 213 = .ok (.invokevirtual 32, 3)) hR
  rw [clq1 []] at callq1
  refine callq1 (fun H1 locs1 hRq1 hxq1 => ?_)
  refine lv_aload_n hx hb (by decide +kernel : decode code 216 = .ok (.aload_n 2, 1)) rfl (lv_at hl 1 rfl) ?_
  refine lv_aload_n hx hb (by decide +kernel : decode code 217 = .ok (.aload_n 0, 1)) rfl (lv_at hl 3 rfl) ?_
  refine lv_iload_n hx hb (by decide +kernel : decode code 218 = .ok (.iload_n 3, 1)) rfl (lv_at hl 0 rfl) ?_
  refine lv_iconst (v := nI 1) hx hb (by decide +kernel : decode code 219 = .ok (.iconst 1, 1)) (by decide) ?_
  refine lv_iadd hx hb (by decide +kernel : decode code 220 = .ok (.iadd, 1)) ?_
  refine va_sld hx hb hX hbl hbA (lw_S hRq1) (vin (by omega) hL) (by decide +kernel : decode code 221 = .ok (.iaload, 1)) ?_
  rw [ev]
  refine lv_aload_n hx hb (by decide +kernel : decode code 222 = .ok (.aload_n 0, 1)) rfl (lv_at hl 3 rfl) ?_
  refine lv_iload_n hx hb (by decide +kernel : decode code 223 = .ok (.iload_n 3, 1)) rfl (lv_at hl 0 rfl) ?_
  refine lv_iconst (v := nI 2) hx hb (by decide +kernel : decode code 224 = .ok (.iconst 2, 1)) (by decide) ?_
  refine lv_iadd hx hb (by decide +kernel : decode code 225 = .ok (.iadd, 1)) ?_
  refine va_sld hx hb hX hbl hbA (lw_S hRq1) (vin (by omega) hL) (by decide +kernel : decode code 226 = .ok (.iaload, 1)) ?_
  rw [eu]
  have clq2 : ∀ (rest : List Value), (([(0, v.toInt), (0, u.toInt)] : List zV)).map (zcv s.heap.size sa) = [.int v, .int u] := fun _ => by
    simp only [List.map_cons, List.map_nil, zcv_int]
  have callq2 := lw_call (p := p) (l := l) (e := e) (below := below) (Q := Q) (pc := 227) (ls := ls) (rest := [.int (Int32.ofInt x)]) (m' := 124) (k := 35) (n := 2) (a := 67) (x := x) (As := [(0, v.toInt), (0, u.toInt)]) C0 KK q2 zmo_124 (Nat.le_of_ble_eq_true rfl) rfl (zt4 211 rfl rfl) (zt4 212 rfl rfl) (zt4 213 rfl rfl) (by decide +kernel) rfl (by decide) (by decide) (by decide +kernel) (zST_2 v u) hl.1 (by first | decide | (show 1 ≤ 8; decide)) (by decide +kernel : decode code 227 = .ok (.invokevirtual 35, 3)) hRq1
  rw [clq2 []] at callq2
  refine callq2 (fun H1 locs1 hRq2 hxq2 => ?_)
  refine lv_icmp_eq (tgt := 524) hx hb (by decide +kernel : decode code 230 = .ok (.if_icmp .eq 294, 3)) (by decide) (fun _ => ?_) (fun z => absurd rfl z)
  exact kk _ _ _ hRq2 hT2
theorem lc_row (C0 : lw_At p s m meth c b L xs) (KK : zKK D ids s.heap.size sa adV s s.heap) (hk : k + 3 ≤ L) (hL : L ≤ 1536) (hl : lv_has ls 4 [(3, .int (nI k)), (2, .ref (s.heap.size + (67 : Int).toNat)), (1, .ref (s.heap.size + (0 : Int).toNat)), (0, .ref b)]) (hR : zRep D ids s.heap.size sa s true H locs 92 w) (hT : TopOk w) (kk : ∀ (H' : Heap) (locs' : List Loc) (w' : zW), zRep D ids s.heap.size sa s true H' locs' 92 w' → TopOk w' → W p l e room_1 s m #[Value.ref b] below meth c H' locs' 92 (zsum 92) Q (F0 m 524 ls [])) : W p l e room_1 s m #[Value.ref b] below meth c H locs 92 (zsum 92) Q (F0 m 235 ls []) := by
  obtain ⟨hx, hb, hr, hml, hown, hts, hX, hbl, hlocks, hgv⟩ := id C0
  have hbA : ¬ (fun q : Nat => s.heap.size ≤ q) b := Nat.not_le.mpr hbl
  obtain ⟨v, ev⟩ : ∃ v : Int32, xs (nI k + nI 1).toNatClampNeg = v := ⟨_, rfl⟩
  obtain ⟨x, w1, w2, q1, q2, hT2⟩ := b_row (x := v.toInt) w hT
  refine lv_aload_n hx hb (by decide +kernel : decode code 235 = .ok (.aload_n 1, 1)) rfl (lv_at hl 2 rfl) ?_
  refine lv_aload_n hx hb (by decide +kernel : decode code 236 = .ok (.aload_n 0, 1)) rfl (lv_at hl 3 rfl) ?_
  refine lv_iload_n hx hb (by decide +kernel : decode code 237 = .ok (.iload_n 3, 1)) rfl (lv_at hl 0 rfl) ?_
  refine lv_iconst (v := nI 1) hx hb (by decide +kernel : decode code 238 = .ok (.iconst 1, 1)) (by decide) ?_
  refine lv_iadd hx hb (by decide +kernel : decode code 239 = .ok (.iadd, 1)) ?_
  refine va_sld hx hb hX hbl hbA (lw_S hR) (vin (by omega) hL) (by decide +kernel : decode code 240 = .ok (.iaload, 1)) ?_
  rw [ev]
  have clq1 : ∀ (rest : List Value), (([(0, v.toInt)] : List zV)).map (zcv s.heap.size sa) = [.int v] := fun _ => by
    simp only [List.map_cons, List.map_nil, zcv_int]
  have callq1 := lw_call (p := p) (l := l) (e := e) (below := below) (Q := Q) (pc := 241) (ls := ls) (rest := []) (m' := 78) (k := 36) (n := 1) (a := 0) (x := x) (As := [(0, v.toInt)]) C0 KK q1 zmo_78 (Nat.le_of_ble_eq_true rfl) rfl (zt3 18 rfl rfl) (zt3 19 rfl rfl) (zt3 20 rfl rfl) (by decide +kernel) rfl (by decide) (by decide) (by decide +kernel) (zST_1 v) hl.1 (by first | decide | (show 1 ≤ 8; decide)) (by decide +kernel : decode code 241 = .ok (.invokevirtual 36, 3)) hR
  rw [clq1 []] at callq1
  refine callq1 (fun H1 locs1 hRq1 hxq1 => ?_)
  refine lv_aload_n hx hb (by decide +kernel : decode code 244 = .ok (.aload_n 2, 1)) rfl (lv_at hl 1 rfl) ?_
  refine lv_aload_n hx hb (by decide +kernel : decode code 245 = .ok (.aload_n 0, 1)) rfl (lv_at hl 3 rfl) ?_
  refine lv_iload_n hx hb (by decide +kernel : decode code 246 = .ok (.iload_n 3, 1)) rfl (lv_at hl 0 rfl) ?_
  refine lv_iconst (v := nI 1) hx hb (by decide +kernel : decode code 247 = .ok (.iconst 1, 1)) (by decide) ?_
  refine lv_iadd hx hb (by decide +kernel : decode code 248 = .ok (.iadd, 1)) ?_
  refine va_sld hx hb hX hbl hbA (lw_S hRq1) (vin (by omega) hL) (by decide +kernel : decode code 249 = .ok (.iaload, 1)) ?_
  rw [ev]
  have clq2 : ∀ (rest : List Value), (([(0, v.toInt)] : List zV)).map (zcv s.heap.size sa) = [.int v] := fun _ => by
    simp only [List.map_cons, List.map_nil, zcv_int]
  have callq2 := lw_call (p := p) (l := l) (e := e) (below := below) (Q := Q) (pc := 250) (ls := ls) (rest := [.int (Int32.ofInt x)]) (m' := 125) (k := 39) (n := 1) (a := 67) (x := x) (As := [(0, v.toInt)]) C0 KK q2 zmo_125 (Nat.le_of_ble_eq_true rfl) rfl (zt4 224 rfl rfl) (zt4 225 rfl rfl) (zt4 226 rfl rfl) (by decide +kernel) rfl (by decide) (by decide) (by decide +kernel) (zST_1 v) hl.1 (by first | decide | (show 1 ≤ 8; decide)) (by decide +kernel : decode code 250 = .ok (.invokevirtual 39, 3)) hRq1
  rw [clq2 []] at callq2
  refine callq2 (fun H1 locs1 hRq2 hxq2 => ?_)
  refine lv_icmp_eq (tgt := 524) hx hb (by decide +kernel : decode code 253 = .ok (.if_icmp .eq 271, 3)) (by decide) (fun _ => ?_) (fun z => absurd rfl z)
  exact kk _ _ _ hRq2 hT2
theorem lc_step (C0 : lw_At p s m meth c b L xs) (KK : zKK D ids s.heap.size sa adV s s.heap) (hk : k + 3 ≤ L) (hL : L ≤ 1536) (hl : lv_has ls 4 [(3, .int (nI k)), (2, .ref (s.heap.size + (67 : Int).toNat)), (1, .ref (s.heap.size + (0 : Int).toNat)), (0, .ref b)]) (hR : zRep D ids s.heap.size sa s true H locs 92 w) (hT : TopOk w) (kk : ∀ (H' : Heap) (locs' : List Loc) (w' : zW), zRep D ids s.heap.size sa s true H' locs' 92 w' → TopOk w' → W p l e room_1 s m #[Value.ref b] below meth c H' locs' 92 (zsum 92) Q (F0 m 524 ls [])) : W p l e room_1 s m #[Value.ref b] below meth c H locs 92 (zsum 92) Q (F0 m 258 ls []) := by
  obtain ⟨hx, hb, hr, hml, hown, hts, hX, hbl, hlocks, hgv⟩ := id C0
  have hbA : ¬ (fun q : Nat => s.heap.size ≤ q) b := Nat.not_le.mpr hbl
  obtain ⟨v, ev⟩ : ∃ v : Int32, xs (nI k + nI 1).toNatClampNeg = v := ⟨_, rfl⟩
  obtain ⟨x, w1, w2, q1, q2, hT2⟩ := b_step (x := v.toInt) w hT
  refine lv_aload_n hx hb (by decide +kernel : decode code 258 = .ok (.aload_n 1, 1)) rfl (lv_at hl 2 rfl) ?_
  refine lv_aload_n hx hb (by decide +kernel : decode code 259 = .ok (.aload_n 0, 1)) rfl (lv_at hl 3 rfl) ?_
  refine lv_iload_n hx hb (by decide +kernel : decode code 260 = .ok (.iload_n 3, 1)) rfl (lv_at hl 0 rfl) ?_
  refine lv_iconst (v := nI 1) hx hb (by decide +kernel : decode code 261 = .ok (.iconst 1, 1)) (by decide) ?_
  refine lv_iadd hx hb (by decide +kernel : decode code 262 = .ok (.iadd, 1)) ?_
  refine va_sld hx hb hX hbl hbA (lw_S hR) (vin (by omega) hL) (by decide +kernel : decode code 263 = .ok (.iaload, 1)) ?_
  rw [ev]
  have clq1 : ∀ (rest : List Value), (([(0, v.toInt)] : List zV)).map (zcv s.heap.size sa) = [.int v] := fun _ => by
    simp only [List.map_cons, List.map_nil, zcv_int]
  have callq1 := lw_call (p := p) (l := l) (e := e) (below := below) (Q := Q) (pc := 264) (ls := ls) (rest := []) (m' := 79) (k := 40) (n := 1) (a := 0) (x := x) (As := [(0, v.toInt)]) C0 KK q1 zmo_79 (Nat.le_of_ble_eq_true rfl) rfl (zt3 22 rfl rfl) (zt3 23 rfl rfl) (zt3 24 rfl rfl) (by decide +kernel) rfl (by decide) (by decide) (by decide +kernel) (zST_1 v) hl.1 (by first | decide | (show 1 ≤ 8; decide)) (by decide +kernel : decode code 264 = .ok (.invokevirtual 40, 3)) hR
  rw [clq1 []] at callq1
  refine callq1 (fun H1 locs1 hRq1 hxq1 => ?_)
  refine lv_aload_n hx hb (by decide +kernel : decode code 267 = .ok (.aload_n 2, 1)) rfl (lv_at hl 1 rfl) ?_
  refine lv_aload_n hx hb (by decide +kernel : decode code 268 = .ok (.aload_n 0, 1)) rfl (lv_at hl 3 rfl) ?_
  refine lv_iload_n hx hb (by decide +kernel : decode code 269 = .ok (.iload_n 3, 1)) rfl (lv_at hl 0 rfl) ?_
  refine lv_iconst (v := nI 1) hx hb (by decide +kernel : decode code 270 = .ok (.iconst 1, 1)) (by decide) ?_
  refine lv_iadd hx hb (by decide +kernel : decode code 271 = .ok (.iadd, 1)) ?_
  refine va_sld hx hb hX hbl hbA (lw_S hRq1) (vin (by omega) hL) (by decide +kernel : decode code 272 = .ok (.iaload, 1)) ?_
  rw [ev]
  have clq2 : ∀ (rest : List Value), (([(0, v.toInt)] : List zV)).map (zcv s.heap.size sa) = [.int v] := fun _ => by
    simp only [List.map_cons, List.map_nil, zcv_int]
  have callq2 := lw_call (p := p) (l := l) (e := e) (below := below) (Q := Q) (pc := 273) (ls := ls) (rest := [.int (Int32.ofInt x)]) (m' := 126) (k := 43) (n := 1) (a := 67) (x := x) (As := [(0, v.toInt)]) C0 KK q2 zmo_126 (Nat.le_of_ble_eq_true rfl) rfl (zt4 228 rfl rfl) (zt4 229 rfl rfl) (zt4 230 rfl rfl) (by decide +kernel) rfl (by decide) (by decide) (by decide +kernel) (zST_1 v) hl.1 (by first | decide | (show 1 ≤ 8; decide)) (by decide +kernel : decode code 273 = .ok (.invokevirtual 43, 3)) hRq1
  rw [clq2 []] at callq2
  refine callq2 (fun H1 locs1 hRq2 hxq2 => ?_)
  refine lv_icmp_eq (tgt := 524) hx hb (by decide +kernel : decode code 276 = .ok (.if_icmp .eq 248, 3)) (by decide) (fun _ => ?_) (fun z => absurd rfl z)
  exact kk _ _ _ hRq2 hT2
theorem lc_undo (C0 : lw_At p s m meth c b L xs) (KK : zKK D ids s.heap.size sa adV s s.heap) (hk : k + 3 ≤ L) (hL : L ≤ 1536) (hl : lv_has ls 4 [(3, .int (nI k)), (2, .ref (s.heap.size + (67 : Int).toNat)), (1, .ref (s.heap.size + (0 : Int).toNat)), (0, .ref b)]) (hR : zRep D ids s.heap.size sa s true H locs 92 w) (hT : TopOk w) (kk : ∀ (H' : Heap) (locs' : List Loc) (w' : zW), zRep D ids s.heap.size sa s true H' locs' 92 w' → TopOk w' → W p l e room_1 s m #[Value.ref b] below meth c H' locs' 92 (zsum 92) Q (F0 m 524 ls [])) : W p l e room_1 s m #[Value.ref b] below meth c H locs 92 (zsum 92) Q (F0 m 281 ls []) := by
  obtain ⟨hx, hb, hr, hml, hown, hts, hX, hbl, hlocks, hgv⟩ := id C0
  have hbA : ¬ (fun q : Nat => s.heap.size ≤ q) b := Nat.not_le.mpr hbl
  obtain ⟨x, w1, w2, q1, q2, hT2⟩ := b_undo w hT
  refine lv_aload_n hx hb (by decide +kernel : decode code 281 = .ok (.aload_n 1, 1)) rfl (lv_at hl 2 rfl) ?_
  have clq1 : ∀ (rest : List Value), (([] : List zV)).map (zcv s.heap.size sa) = [] := fun _ => by
    rfl
  have callq1 := lw_call (p := p) (l := l) (e := e) (below := below) (Q := Q) (pc := 282) (ls := ls) (rest := []) (m' := 80) (k := 44) (n := 0) (a := 0) (x := x) (As := []) C0 KK q1 zmo_80 (Nat.le_of_ble_eq_true rfl) rfl (zt3 122 rfl rfl) (zt3 123 rfl rfl) (zt3 124 rfl rfl) (by decide +kernel) rfl (by decide) (by decide) (by decide +kernel) (zST_0) hl.1 (by first | decide | (show 1 ≤ 8; decide)) (by decide +kernel : decode code 282 = .ok (.invokevirtual 44, 3)) hR
  rw [clq1 []] at callq1
  refine callq1 (fun H1 locs1 hRq1 hxq1 => ?_)
  refine lv_aload_n hx hb (by decide +kernel : decode code 285 = .ok (.aload_n 2, 1)) rfl (lv_at hl 1 rfl) ?_
  have clq2 : ∀ (rest : List Value), (([] : List zV)).map (zcv s.heap.size sa) = [] := fun _ => by
    rfl
  have callq2 := lw_call (p := p) (l := l) (e := e) (below := below) (Q := Q) (pc := 286) (ls := ls) (rest := [.int (Int32.ofInt x)]) (m' := 127) (k := 47) (n := 0) (a := 67) (x := x) (As := []) C0 KK q2 zmo_127 (Nat.le_of_ble_eq_true rfl) rfl (zt5 36 rfl rfl) (zt5 37 rfl rfl) (zt5 38 rfl rfl) (by decide +kernel) rfl (by decide) (by decide) (by decide +kernel) (zST_0) hl.1 (by first | decide | (show 1 ≤ 8; decide)) (by decide +kernel : decode code 286 = .ok (.invokevirtual 47, 3)) hRq1
  rw [clq2 []] at callq2
  refine callq2 (fun H1 locs1 hRq2 hxq2 => ?_)
  refine lv_icmp_eq (tgt := 524) hx hb (by decide +kernel : decode code 289 = .ok (.if_icmp .eq 235, 3)) (by decide) (fun _ => ?_) (fun z => absurd rfl z)
  exact kk _ _ _ hRq2 hT2
theorem lc_all (C0 : lw_At p s m meth c b L xs) (KK : zKK D ids s.heap.size sa adV s s.heap) (hk : k + 3 ≤ L) (hL : L ≤ 1536) (hl : lv_has ls 4 [(3, .int (nI k)), (2, .ref (s.heap.size + (67 : Int).toNat)), (1, .ref (s.heap.size + (0 : Int).toNat)), (0, .ref b)]) (hR : zRep D ids s.heap.size sa s true H locs 92 w) (hT : TopOk w) (kk : ∀ (H' : Heap) (locs' : List Loc) (w' : zW), zRep D ids s.heap.size sa s true H' locs' 92 w' → TopOk w' → W p l e room_1 s m #[Value.ref b] below meth c H' locs' 92 (zsum 92) Q (F0 m 524 ls [])) : W p l e room_1 s m #[Value.ref b] below meth c H locs 92 (zsum 92) Q (F0 m 294 ls []) := by
  obtain ⟨hx, hb, hr, hml, hown, hts, hX, hbl, hlocks, hgv⟩ := id C0
  have hbA : ¬ (fun q : Nat => s.heap.size ≤ q) b := Nat.not_le.mpr hbl
  obtain ⟨v, ev⟩ : ∃ v : Int32, xs (nI k + nI 1).toNatClampNeg = v := ⟨_, rfl⟩
  obtain ⟨x, w1, w2, q1, q2, hT2⟩ := b_all (x := v.toInt) w hT
  refine lv_aload_n hx hb (by decide +kernel : decode code 294 = .ok (.aload_n 1, 1)) rfl (lv_at hl 2 rfl) ?_
  refine lv_aload_n hx hb (by decide +kernel : decode code 295 = .ok (.aload_n 0, 1)) rfl (lv_at hl 3 rfl) ?_
  refine lv_iload_n hx hb (by decide +kernel : decode code 296 = .ok (.iload_n 3, 1)) rfl (lv_at hl 0 rfl) ?_
  refine lv_iconst (v := nI 1) hx hb (by decide +kernel : decode code 297 = .ok (.iconst 1, 1)) (by decide) ?_
  refine lv_iadd hx hb (by decide +kernel : decode code 298 = .ok (.iadd, 1)) ?_
  refine va_sld hx hb hX hbl hbA (lw_S hR) (vin (by omega) hL) (by decide +kernel : decode code 299 = .ok (.iaload, 1)) ?_
  rw [ev]
  have clq1 : ∀ (rest : List Value), (([(0, v.toInt)] : List zV)).map (zcv s.heap.size sa) = [.int v] := fun _ => by
    simp only [List.map_cons, List.map_nil, zcv_int]
  have callq1 := lw_call (p := p) (l := l) (e := e) (below := below) (Q := Q) (pc := 300) (ls := ls) (rest := []) (m' := 81) (k := 48) (n := 1) (a := 0) (x := x) (As := [(0, v.toInt)]) C0 KK q1 zmo_81 (Nat.le_of_ble_eq_true rfl) rfl (zt3 142 rfl rfl) (zt3 143 rfl rfl) (zt3 144 rfl rfl) (by decide +kernel) rfl (by decide) (by decide) (by decide +kernel) (zST_1 v) hl.1 (by first | decide | (show 1 ≤ 8; decide)) (by decide +kernel : decode code 300 = .ok (.invokevirtual 48, 3)) hR
  rw [clq1 []] at callq1
  refine callq1 (fun H1 locs1 hRq1 hxq1 => ?_)
  refine lv_aload_n hx hb (by decide +kernel : decode code 303 = .ok (.aload_n 2, 1)) rfl (lv_at hl 1 rfl) ?_
  refine lv_aload_n hx hb (by decide +kernel : decode code 304 = .ok (.aload_n 0, 1)) rfl (lv_at hl 3 rfl) ?_
  refine lv_iload_n hx hb (by decide +kernel : decode code 305 = .ok (.iload_n 3, 1)) rfl (lv_at hl 0 rfl) ?_
  refine lv_iconst (v := nI 1) hx hb (by decide +kernel : decode code 306 = .ok (.iconst 1, 1)) (by decide) ?_
  refine lv_iadd hx hb (by decide +kernel : decode code 307 = .ok (.iadd, 1)) ?_
  refine va_sld hx hb hX hbl hbA (lw_S hRq1) (vin (by omega) hL) (by decide +kernel : decode code 308 = .ok (.iaload, 1)) ?_
  rw [ev]
  have clq2 : ∀ (rest : List Value), (([(0, v.toInt)] : List zV)).map (zcv s.heap.size sa) = [.int v] := fun _ => by
    simp only [List.map_cons, List.map_nil, zcv_int]
  have callq2 := lw_call (p := p) (l := l) (e := e) (below := below) (Q := Q) (pc := 309) (ls := ls) (rest := [.int (Int32.ofInt x)]) (m' := 135) (k := 51) (n := 1) (a := 67) (x := x) (As := [(0, v.toInt)]) C0 KK q2 zmo_135 (Nat.le_of_ble_eq_true rfl) rfl (zt5 44 rfl rfl) (zt5 45 rfl rfl) (zt5 46 rfl rfl) (by decide +kernel) rfl (by decide) (by decide) (by decide +kernel) (zST_1 v) hl.1 (by first | decide | (show 1 ≤ 8; decide)) (by decide +kernel : decode code 309 = .ok (.invokevirtual 51, 3)) hRq1
  rw [clq2 []] at callq2
  refine callq2 (fun H1 locs1 hRq2 hxq2 => ?_)
  refine lv_icmp_eq (tgt := 524) hx hb (by decide +kernel : decode code 312 = .ok (.if_icmp .eq 212, 3)) (by decide) (fun _ => ?_) (fun z => absurd rfl z)
  exact kk _ _ _ hRq2 hT2
theorem lc_worst (C0 : lw_At p s m meth c b L xs) (KK : zKK D ids s.heap.size sa adV s s.heap) (hk : k + 3 ≤ L) (hL : L ≤ 1536) (hl : lv_has ls 4 [(3, .int (nI k)), (2, .ref (s.heap.size + (67 : Int).toNat)), (1, .ref (s.heap.size + (0 : Int).toNat)), (0, .ref b)]) (hR : zRep D ids s.heap.size sa s true H locs 92 w) (hT : TopOk w) (kk : ∀ (H' : Heap) (locs' : List Loc) (w' : zW), zRep D ids s.heap.size sa s true H' locs' 92 w' → TopOk w' → W p l e room_1 s m #[Value.ref b] below meth c H' locs' 92 (zsum 92) Q (F0 m 524 ls [])) : W p l e room_1 s m #[Value.ref b] below meth c H locs 92 (zsum 92) Q (F0 m 317 ls []) := by
  obtain ⟨hx, hb, hr, hml, hown, hts, hX, hbl, hlocks, hgv⟩ := id C0
  have hbA : ¬ (fun q : Nat => s.heap.size ≤ q) b := Nat.not_le.mpr hbl
  obtain ⟨v, ev⟩ : ∃ v : Int32, xs (nI k + nI 1).toNatClampNeg = v := ⟨_, rfl⟩
  obtain ⟨x, w1, w2, q1, q2, hT2⟩ := b_worst (x := v.toInt) (zin_i v) w hT
  refine lv_aload_n hx hb (by decide +kernel : decode code 317 = .ok (.aload_n 1, 1)) rfl (lv_at hl 2 rfl) ?_
  refine lv_aload_n hx hb (by decide +kernel : decode code 318 = .ok (.aload_n 0, 1)) rfl (lv_at hl 3 rfl) ?_
  refine lv_iload_n hx hb (by decide +kernel : decode code 319 = .ok (.iload_n 3, 1)) rfl (lv_at hl 0 rfl) ?_
  refine lv_iconst (v := nI 1) hx hb (by decide +kernel : decode code 320 = .ok (.iconst 1, 1)) (by decide) ?_
  refine lv_iadd hx hb (by decide +kernel : decode code 321 = .ok (.iadd, 1)) ?_
  refine va_sld hx hb hX hbl hbA (lw_S hR) (vin (by omega) hL) (by decide +kernel : decode code 322 = .ok (.iaload, 1)) ?_
  rw [ev]
  have clq1 : ∀ (rest : List Value), (([(0, v.toInt)] : List zV)).map (zcv s.heap.size sa) = [.int v] := fun _ => by
    simp only [List.map_cons, List.map_nil, zcv_int]
  have callq1 := lw_call (p := p) (l := l) (e := e) (below := below) (Q := Q) (pc := 323) (ls := ls) (rest := []) (m' := 82) (k := 52) (n := 1) (a := 0) (x := x) (As := [(0, v.toInt)]) C0 KK q1 zmo_82 (Nat.le_of_ble_eq_true rfl) rfl (zt3 196 rfl rfl) (zt3 197 rfl rfl) (zt3 198 rfl rfl) (by decide +kernel) rfl (by decide) (by decide) (by decide +kernel) (zST_1 v) hl.1 (by first | decide | (show 1 ≤ 8; decide)) (by decide +kernel : decode code 323 = .ok (.invokevirtual 52, 3)) hR
  rw [clq1 []] at callq1
  refine callq1 (fun H1 locs1 hRq1 hxq1 => ?_)
  refine lv_aload_n hx hb (by decide +kernel : decode code 326 = .ok (.aload_n 2, 1)) rfl (lv_at hl 1 rfl) ?_
  refine lv_aload_n hx hb (by decide +kernel : decode code 327 = .ok (.aload_n 0, 1)) rfl (lv_at hl 3 rfl) ?_
  refine lv_iload_n hx hb (by decide +kernel : decode code 328 = .ok (.iload_n 3, 1)) rfl (lv_at hl 0 rfl) ?_
  refine lv_iconst (v := nI 1) hx hb (by decide +kernel : decode code 329 = .ok (.iconst 1, 1)) (by decide) ?_
  refine lv_iadd hx hb (by decide +kernel : decode code 330 = .ok (.iadd, 1)) ?_
  refine va_sld hx hb hX hbl hbA (lw_S hRq1) (vin (by omega) hL) (by decide +kernel : decode code 331 = .ok (.iaload, 1)) ?_
  rw [ev]
  have clq2 : ∀ (rest : List Value), (([(0, v.toInt)] : List zV)).map (zcv s.heap.size sa) = [.int v] := fun _ => by
    simp only [List.map_cons, List.map_nil, zcv_int]
  have callq2 := lw_call (p := p) (l := l) (e := e) (below := below) (Q := Q) (pc := 332) (ls := ls) (rest := [.int (Int32.ofInt x)]) (m' := 136) (k := 55) (n := 1) (a := 67) (x := x) (As := [(0, v.toInt)]) C0 KK q2 zmo_136 (Nat.le_of_ble_eq_true rfl) rfl (zt5 79 rfl rfl) (zt5 80 rfl rfl) (zt5 81 rfl rfl) (by decide +kernel) rfl (by decide) (by decide) (by decide +kernel) (zST_1 v) hl.1 (by first | decide | (show 1 ≤ 8; decide)) (by decide +kernel : decode code 332 = .ok (.invokevirtual 55, 3)) hRq1
  rw [clq2 []] at callq2
  refine callq2 (fun H1 locs1 hRq2 hxq2 => ?_)
  refine lv_icmp_eq (tgt := 524) hx hb (by decide +kernel : decode code 335 = .ok (.if_icmp .eq 189, 3)) (by decide) (fun _ => ?_) (fun z => absurd rfl z)
  exact kk _ _ _ hRq2 hT2
theorem lc_can (C0 : lw_At p s m meth c b L xs) (KK : zKK D ids s.heap.size sa adV s s.heap) (hk : k + 3 ≤ L) (hL : L ≤ 1536) (hl : lv_has ls 4 [(3, .int (nI k)), (2, .ref (s.heap.size + (67 : Int).toNat)), (1, .ref (s.heap.size + (0 : Int).toNat)), (0, .ref b)]) (hR : zRep D ids s.heap.size sa s true H locs 92 w) (hT : TopOk w) (kk : ∀ (H' : Heap) (locs' : List Loc) (w' : zW), zRep D ids s.heap.size sa s true H' locs' 92 w' → TopOk w' → W p l e room_1 s m #[Value.ref b] below meth c H' locs' 92 (zsum 92) Q (F0 m 524 ls [])) : W p l e room_1 s m #[Value.ref b] below meth c H locs 92 (zsum 92) Q (F0 m 340 ls []) := by
  obtain ⟨hx, hb, hr, hml, hown, hts, hX, hbl, hlocks, hgv⟩ := id C0
  have hbA : ¬ (fun q : Nat => s.heap.size ≤ q) b := Nat.not_le.mpr hbl
  obtain ⟨v, ev⟩ : ∃ v : Int32, xs (nI k + nI 1).toNatClampNeg = v := ⟨_, rfl⟩
  obtain ⟨u, eu⟩ : ∃ v : Int32, xs (nI k + nI 2).toNatClampNeg = v := ⟨_, rfl⟩
  obtain ⟨x, w1, w2, q1, q2, hT2⟩ := b_can (x := v.toInt) (y := u.toInt) w hT
  refine lv_aload_n hx hb (by decide +kernel : decode code 340 = .ok (.aload_n 1, 1)) rfl (lv_at hl 2 rfl) ?_
  refine lv_aload_n hx hb (by decide +kernel : decode code 341 = .ok (.aload_n 0, 1)) rfl (lv_at hl 3 rfl) ?_
  refine lv_iload_n hx hb (by decide +kernel : decode code 342 = .ok (.iload_n 3, 1)) rfl (lv_at hl 0 rfl) ?_
  refine lv_iconst (v := nI 1) hx hb (by decide +kernel : decode code 343 = .ok (.iconst 1, 1)) (by decide) ?_
  refine lv_iadd hx hb (by decide +kernel : decode code 344 = .ok (.iadd, 1)) ?_
  refine va_sld hx hb hX hbl hbA (lw_S hR) (vin (by omega) hL) (by decide +kernel : decode code 345 = .ok (.iaload, 1)) ?_
  rw [ev]
  refine lv_aload_n hx hb (by decide +kernel : decode code 346 = .ok (.aload_n 0, 1)) rfl (lv_at hl 3 rfl) ?_
  refine lv_iload_n hx hb (by decide +kernel : decode code 347 = .ok (.iload_n 3, 1)) rfl (lv_at hl 0 rfl) ?_
  refine lv_iconst (v := nI 2) hx hb (by decide +kernel : decode code 348 = .ok (.iconst 2, 1)) (by decide) ?_
  refine lv_iadd hx hb (by decide +kernel : decode code 349 = .ok (.iadd, 1)) ?_
  refine va_sld hx hb hX hbl hbA (lw_S hR) (vin (by omega) hL) (by decide +kernel : decode code 350 = .ok (.iaload, 1)) ?_
  rw [eu]
  have clq1 : ∀ (rest : List Value), (([(0, v.toInt), (0, u.toInt)] : List zV)).map (zcv s.heap.size sa) = [.int v, .int u] := fun _ => by
    simp only [List.map_cons, List.map_nil, zcv_int]
  have callq1 := lw_call (p := p) (l := l) (e := e) (below := below) (Q := Q) (pc := 351) (ls := ls) (rest := []) (m' := 83) (k := 56) (n := 2) (a := 0) (x := x) (As := [(0, v.toInt), (0, u.toInt)]) C0 KK q1 zmo_83 (Nat.le_of_ble_eq_true rfl) rfl (zt3 205 rfl rfl) (zt3 206 rfl rfl) (zt3 207 rfl rfl) (by decide +kernel) rfl (by decide) (by decide) (by decide +kernel) (zST_2 v u) hl.1 (by first | decide | (show 1 ≤ 8; decide)) (by decide +kernel : decode code 351 = .ok (.invokevirtual 56, 3)) hR
  rw [clq1 []] at callq1
  refine callq1 (fun H1 locs1 hRq1 hxq1 => ?_)
  refine lv_aload_n hx hb (by decide +kernel : decode code 354 = .ok (.aload_n 2, 1)) rfl (lv_at hl 1 rfl) ?_
  refine lv_aload_n hx hb (by decide +kernel : decode code 355 = .ok (.aload_n 0, 1)) rfl (lv_at hl 3 rfl) ?_
  refine lv_iload_n hx hb (by decide +kernel : decode code 356 = .ok (.iload_n 3, 1)) rfl (lv_at hl 0 rfl) ?_
  refine lv_iconst (v := nI 1) hx hb (by decide +kernel : decode code 357 = .ok (.iconst 1, 1)) (by decide) ?_
  refine lv_iadd hx hb (by decide +kernel : decode code 358 = .ok (.iadd, 1)) ?_
  refine va_sld hx hb hX hbl hbA (lw_S hRq1) (vin (by omega) hL) (by decide +kernel : decode code 359 = .ok (.iaload, 1)) ?_
  rw [ev]
  refine lv_aload_n hx hb (by decide +kernel : decode code 360 = .ok (.aload_n 0, 1)) rfl (lv_at hl 3 rfl) ?_
  refine lv_iload_n hx hb (by decide +kernel : decode code 361 = .ok (.iload_n 3, 1)) rfl (lv_at hl 0 rfl) ?_
  refine lv_iconst (v := nI 2) hx hb (by decide +kernel : decode code 362 = .ok (.iconst 2, 1)) (by decide) ?_
  refine lv_iadd hx hb (by decide +kernel : decode code 363 = .ok (.iadd, 1)) ?_
  refine va_sld hx hb hX hbl hbA (lw_S hRq1) (vin (by omega) hL) (by decide +kernel : decode code 364 = .ok (.iaload, 1)) ?_
  rw [eu]
  have clq2 : ∀ (rest : List Value), (([(0, v.toInt), (0, u.toInt)] : List zV)).map (zcv s.heap.size sa) = [.int v, .int u] := fun _ => by
    simp only [List.map_cons, List.map_nil, zcv_int]
  have callq2 := lw_call (p := p) (l := l) (e := e) (below := below) (Q := Q) (pc := 365) (ls := ls) (rest := [.int (Int32.ofInt x)]) (m' := 137) (k := 59) (n := 2) (a := 67) (x := x) (As := [(0, v.toInt), (0, u.toInt)]) C0 KK q2 zmo_137 (Nat.le_of_ble_eq_true rfl) rfl (zt5 83 rfl rfl) (zt5 84 rfl rfl) (zt5 85 rfl rfl) (by decide +kernel) rfl (by decide) (by decide) (by decide +kernel) (zST_2 v u) hl.1 (by first | decide | (show 1 ≤ 8; decide)) (by decide +kernel : decode code 365 = .ok (.invokevirtual 59, 3)) hRq1
  rw [clq2 []] at callq2
  refine callq2 (fun H1 locs1 hRq2 hxq2 => ?_)
  refine lv_icmp_eq (tgt := 524) hx hb (by decide +kernel : decode code 368 = .ok (.if_icmp .eq 156, 3)) (by decide) (fun _ => ?_) (fun z => absurd rfl z)
  exact kk _ _ _ hRq2 hT2
theorem lc_slept (C0 : lw_At p s m meth c b L xs) (KK : zKK D ids s.heap.size sa adV s s.heap) (hk : k + 3 ≤ L) (hL : L ≤ 1536) (hl : lv_has ls 4 [(3, .int (nI k)), (2, .ref (s.heap.size + (67 : Int).toNat)), (1, .ref (s.heap.size + (0 : Int).toNat)), (0, .ref b)]) (hR : zRep D ids s.heap.size sa s true H locs 92 w) (hT : TopOk w) (kk : ∀ (H' : Heap) (locs' : List Loc) (w' : zW), zRep D ids s.heap.size sa s true H' locs' 92 w' → TopOk w' → W p l e room_1 s m #[Value.ref b] below meth c H' locs' 92 (zsum 92) Q (F0 m 524 ls [])) : W p l e room_1 s m #[Value.ref b] below meth c H locs 92 (zsum 92) Q (F0 m 373 ls []) := by
  obtain ⟨hx, hb, hr, hml, hown, hts, hX, hbl, hlocks, hgv⟩ := id C0
  have hbA : ¬ (fun q : Nat => s.heap.size ≤ q) b := Nat.not_le.mpr hbl
  obtain ⟨x, w1, w2, q1, q2, hT2⟩ := b_slept w hT
  refine lv_aload_n hx hb (by decide +kernel : decode code 373 = .ok (.aload_n 1, 1)) rfl (lv_at hl 2 rfl) ?_
  have clq1 : ∀ (rest : List Value), (([] : List zV)).map (zcv s.heap.size sa) = [] := fun _ => by
    rfl
  have callq1 := lw_call (p := p) (l := l) (e := e) (below := below) (Q := Q) (pc := 374) (ls := ls) (rest := []) (m' := 84) (k := 60) (n := 0) (a := 0) (x := x) (As := []) C0 KK q1 zmo_84 (Nat.le_of_ble_eq_true rfl) rfl (zt3 209 rfl rfl) (zt3 210 rfl rfl) (zt3 211 rfl rfl) (by decide +kernel) rfl (by decide) (by decide) (by decide +kernel) (zST_0) hl.1 (by first | decide | (show 1 ≤ 8; decide)) (by decide +kernel : decode code 374 = .ok (.invokevirtual 60, 3)) hR
  rw [clq1 []] at callq1
  refine callq1 (fun H1 locs1 hRq1 hxq1 => ?_)
  refine lv_aload_n hx hb (by decide +kernel : decode code 377 = .ok (.aload_n 2, 1)) rfl (lv_at hl 1 rfl) ?_
  have clq2 : ∀ (rest : List Value), (([] : List zV)).map (zcv s.heap.size sa) = [] := fun _ => by
    rfl
  have callq2 := lw_call (p := p) (l := l) (e := e) (below := below) (Q := Q) (pc := 378) (ls := ls) (rest := [.int (Int32.ofInt x)]) (m' := 138) (k := 63) (n := 0) (a := 67) (x := x) (As := []) C0 KK q2 zmo_138 (Nat.le_of_ble_eq_true rfl) rfl (zt5 87 rfl rfl) (zt5 88 rfl rfl) (zt5 89 rfl rfl) (by decide +kernel) rfl (by decide) (by decide) (by decide +kernel) (zST_0) hl.1 (by first | decide | (show 1 ≤ 8; decide)) (by decide +kernel : decode code 378 = .ok (.invokevirtual 63, 3)) hRq1
  rw [clq2 []] at callq2
  refine callq2 (fun H1 locs1 hRq2 hxq2 => ?_)
  refine lv_icmp_eq (tgt := 524) hx hb (by decide +kernel : decode code 381 = .ok (.if_icmp .eq 143, 3)) (by decide) (fun _ => ?_) (fun z => absurd rfl z)
  exact kk _ _ _ hRq2 hT2
theorem lc_sees (C0 : lw_At p s m meth c b L xs) (KK : zKK D ids s.heap.size sa adV s s.heap) (hk : k + 3 ≤ L) (hL : L ≤ 1536) (hl : lv_has ls 4 [(3, .int (nI k)), (2, .ref (s.heap.size + (67 : Int).toNat)), (1, .ref (s.heap.size + (0 : Int).toNat)), (0, .ref b)]) (hR : zRep D ids s.heap.size sa s true H locs 92 w) (hT : TopOk w) (kk : ∀ (H' : Heap) (locs' : List Loc) (w' : zW), zRep D ids s.heap.size sa s true H' locs' 92 w' → TopOk w' → W p l e room_1 s m #[Value.ref b] below meth c H' locs' 92 (zsum 92) Q (F0 m 524 ls [])) : W p l e room_1 s m #[Value.ref b] below meth c H locs 92 (zsum 92) Q (F0 m 386 ls []) := by
  obtain ⟨hx, hb, hr, hml, hown, hts, hX, hbl, hlocks, hgv⟩ := id C0
  have hbA : ¬ (fun q : Nat => s.heap.size ≤ q) b := Nat.not_le.mpr hbl
  obtain ⟨v, ev⟩ : ∃ v : Int32, xs (nI k + nI 1).toNatClampNeg = v := ⟨_, rfl⟩
  obtain ⟨u, eu⟩ : ∃ v : Int32, xs (nI k + nI 2).toNatClampNeg = v := ⟨_, rfl⟩
  obtain ⟨x, w1, w2, q1, q2, hT2⟩ := b_sees (x := v.toInt) (y := u.toInt) w hT
  refine lv_aload_n hx hb (by decide +kernel : decode code 386 = .ok (.aload_n 1, 1)) rfl (lv_at hl 2 rfl) ?_
  refine lv_aload_n hx hb (by decide +kernel : decode code 387 = .ok (.aload_n 0, 1)) rfl (lv_at hl 3 rfl) ?_
  refine lv_iload_n hx hb (by decide +kernel : decode code 388 = .ok (.iload_n 3, 1)) rfl (lv_at hl 0 rfl) ?_
  refine lv_iconst (v := nI 1) hx hb (by decide +kernel : decode code 389 = .ok (.iconst 1, 1)) (by decide) ?_
  refine lv_iadd hx hb (by decide +kernel : decode code 390 = .ok (.iadd, 1)) ?_
  refine va_sld hx hb hX hbl hbA (lw_S hR) (vin (by omega) hL) (by decide +kernel : decode code 391 = .ok (.iaload, 1)) ?_
  rw [ev]
  refine lv_aload_n hx hb (by decide +kernel : decode code 392 = .ok (.aload_n 0, 1)) rfl (lv_at hl 3 rfl) ?_
  refine lv_iload_n hx hb (by decide +kernel : decode code 393 = .ok (.iload_n 3, 1)) rfl (lv_at hl 0 rfl) ?_
  refine lv_iconst (v := nI 2) hx hb (by decide +kernel : decode code 394 = .ok (.iconst 2, 1)) (by decide) ?_
  refine lv_iadd hx hb (by decide +kernel : decode code 395 = .ok (.iadd, 1)) ?_
  refine va_sld hx hb hX hbl hbA (lw_S hR) (vin (by omega) hL) (by decide +kernel : decode code 396 = .ok (.iaload, 1)) ?_
  rw [eu]
  have clq1 : ∀ (rest : List Value), (([(0, v.toInt), (0, u.toInt)] : List zV)).map (zcv s.heap.size sa) = [.int v, .int u] := fun _ => by
    simp only [List.map_cons, List.map_nil, zcv_int]
  have callq1 := lw_call (p := p) (l := l) (e := e) (below := below) (Q := Q) (pc := 397) (ls := ls) (rest := []) (m' := 85) (k := 64) (n := 2) (a := 0) (x := x) (As := [(0, v.toInt), (0, u.toInt)]) C0 KK q1 zmo_85 (Nat.le_of_ble_eq_true rfl) rfl (zt3 213 rfl rfl) (zt3 214 rfl rfl) (zt3 215 rfl rfl) (by decide +kernel) rfl (by decide) (by decide) (by decide +kernel) (zST_2 v u) hl.1 (by first | decide | (show 1 ≤ 8; decide)) (by decide +kernel : decode code 397 = .ok (.invokevirtual 64, 3)) hR
  rw [clq1 []] at callq1
  refine callq1 (fun H1 locs1 hRq1 hxq1 => ?_)
  refine lv_aload_n hx hb (by decide +kernel : decode code 400 = .ok (.aload_n 2, 1)) rfl (lv_at hl 1 rfl) ?_
  refine lv_aload_n hx hb (by decide +kernel : decode code 401 = .ok (.aload_n 0, 1)) rfl (lv_at hl 3 rfl) ?_
  refine lv_iload_n hx hb (by decide +kernel : decode code 402 = .ok (.iload_n 3, 1)) rfl (lv_at hl 0 rfl) ?_
  refine lv_iconst (v := nI 1) hx hb (by decide +kernel : decode code 403 = .ok (.iconst 1, 1)) (by decide) ?_
  refine lv_iadd hx hb (by decide +kernel : decode code 404 = .ok (.iadd, 1)) ?_
  refine va_sld hx hb hX hbl hbA (lw_S hRq1) (vin (by omega) hL) (by decide +kernel : decode code 405 = .ok (.iaload, 1)) ?_
  rw [ev]
  refine lv_aload_n hx hb (by decide +kernel : decode code 406 = .ok (.aload_n 0, 1)) rfl (lv_at hl 3 rfl) ?_
  refine lv_iload_n hx hb (by decide +kernel : decode code 407 = .ok (.iload_n 3, 1)) rfl (lv_at hl 0 rfl) ?_
  refine lv_iconst (v := nI 2) hx hb (by decide +kernel : decode code 408 = .ok (.iconst 2, 1)) (by decide) ?_
  refine lv_iadd hx hb (by decide +kernel : decode code 409 = .ok (.iadd, 1)) ?_
  refine va_sld hx hb hX hbl hbA (lw_S hRq1) (vin (by omega) hL) (by decide +kernel : decode code 410 = .ok (.iaload, 1)) ?_
  rw [eu]
  have clq2 : ∀ (rest : List Value), (([(0, v.toInt), (0, u.toInt)] : List zV)).map (zcv s.heap.size sa) = [.int v, .int u] := fun _ => by
    simp only [List.map_cons, List.map_nil, zcv_int]
  have callq2 := lw_call (p := p) (l := l) (e := e) (below := below) (Q := Q) (pc := 411) (ls := ls) (rest := [.int (Int32.ofInt x)]) (m' := 139) (k := 67) (n := 2) (a := 67) (x := x) (As := [(0, v.toInt), (0, u.toInt)]) C0 KK q2 zmo_139 (Nat.le_of_ble_eq_true rfl) rfl (zt5 91 rfl rfl) (zt5 92 rfl rfl) (zt5 93 rfl rfl) (by decide +kernel) rfl (by decide) (by decide) (by decide +kernel) (zST_2 v u) hl.1 (by first | decide | (show 1 ≤ 8; decide)) (by decide +kernel : decode code 411 = .ok (.invokevirtual 67, 3)) hRq1
  rw [clq2 []] at callq2
  refine callq2 (fun H1 locs1 hRq2 hxq2 => ?_)
  refine lv_icmp_eq (tgt := 524) hx hb (by decide +kernel : decode code 414 = .ok (.if_icmp .eq 110, 3)) (by decide) (fun _ => ?_) (fun z => absurd rfl z)
  exact kk _ _ _ hRq2 hT2
theorem lc_forget (C0 : lw_At p s m meth c b L xs) (KK : zKK D ids s.heap.size sa adV s s.heap) (hk : k + 3 ≤ L) (hL : L ≤ 1536) (hl : lv_has ls 4 [(3, .int (nI k)), (2, .ref (s.heap.size + (67 : Int).toNat)), (1, .ref (s.heap.size + (0 : Int).toNat)), (0, .ref b)]) (hR : zRep D ids s.heap.size sa s true H locs 92 w) (hT : TopOk w) (kk : ∀ (H' : Heap) (locs' : List Loc) (w' : zW), zRep D ids s.heap.size sa s true H' locs' 92 w' → TopOk w' → W p l e room_1 s m #[Value.ref b] below meth c H' locs' 92 (zsum 92) Q (F0 m 524 ls [])) : W p l e room_1 s m #[Value.ref b] below meth c H locs 92 (zsum 92) Q (F0 m 419 ls []) := by
  obtain ⟨hx, hb, hr, hml, hown, hts, hX, hbl, hlocks, hgv⟩ := id C0
  have hbA : ¬ (fun q : Nat => s.heap.size ≤ q) b := Nat.not_le.mpr hbl
  obtain ⟨x, w1, w2, q1, q2, hT2⟩ := b_forget w hT
  refine lv_aload_n hx hb (by decide +kernel : decode code 419 = .ok (.aload_n 1, 1)) rfl (lv_at hl 2 rfl) ?_
  have clq1 : ∀ (rest : List Value), (([] : List zV)).map (zcv s.heap.size sa) = [] := fun _ => by
    rfl
  have callq1 := lw_call (p := p) (l := l) (e := e) (below := below) (Q := Q) (pc := 420) (ls := ls) (rest := []) (m' := 86) (k := 68) (n := 0) (a := 0) (x := x) (As := []) C0 KK q1 zmo_86 (Nat.le_of_ble_eq_true rfl) rfl (zt3 221 rfl rfl) (zt3 222 rfl rfl) (zt3 223 rfl rfl) (by decide +kernel) rfl (by decide) (by decide) (by decide +kernel) (zST_0) hl.1 (by first | decide | (show 1 ≤ 8; decide)) (by decide +kernel : decode code 420 = .ok (.invokevirtual 68, 3)) hR
  rw [clq1 []] at callq1
  refine callq1 (fun H1 locs1 hRq1 hxq1 => ?_)
  refine lv_aload_n hx hb (by decide +kernel : decode code 423 = .ok (.aload_n 2, 1)) rfl (lv_at hl 1 rfl) ?_
  have clq2 : ∀ (rest : List Value), (([] : List zV)).map (zcv s.heap.size sa) = [] := fun _ => by
    rfl
  have callq2 := lw_call (p := p) (l := l) (e := e) (below := below) (Q := Q) (pc := 424) (ls := ls) (rest := [.int (Int32.ofInt x)]) (m' := 140) (k := 71) (n := 0) (a := 67) (x := x) (As := []) C0 KK q2 zmo_140 (Nat.le_of_ble_eq_true rfl) rfl (zt5 95 rfl rfl) (zt5 96 rfl rfl) (zt5 97 rfl rfl) (by decide +kernel) rfl (by decide) (by decide) (by decide +kernel) (zST_0) hl.1 (by first | decide | (show 1 ≤ 8; decide)) (by decide +kernel : decode code 424 = .ok (.invokevirtual 71, 3)) hRq1
  rw [clq2 []] at callq2
  refine callq2 (fun H1 locs1 hRq2 hxq2 => ?_)
  refine lv_icmp_eq (tgt := 524) hx hb (by decide +kernel : decode code 427 = .ok (.if_icmp .eq 97, 3)) (by decide) (fun _ => ?_) (fun z => absurd rfl z)
  exact kk _ _ _ hRq2 hT2
theorem lc_unseen (C0 : lw_At p s m meth c b L xs) (KK : zKK D ids s.heap.size sa adV s s.heap) (hk : k + 3 ≤ L) (hL : L ≤ 1536) (hl : lv_has ls 4 [(3, .int (nI k)), (2, .ref (s.heap.size + (67 : Int).toNat)), (1, .ref (s.heap.size + (0 : Int).toNat)), (0, .ref b)]) (hR : zRep D ids s.heap.size sa s true H locs 92 w) (hT : TopOk w) (kk : ∀ (H' : Heap) (locs' : List Loc) (w' : zW), zRep D ids s.heap.size sa s true H' locs' 92 w' → TopOk w' → W p l e room_1 s m #[Value.ref b] below meth c H' locs' 92 (zsum 92) Q (F0 m 524 ls [])) : W p l e room_1 s m #[Value.ref b] below meth c H locs 92 (zsum 92) Q (F0 m 432 ls []) := by
  obtain ⟨hx, hb, hr, hml, hown, hts, hX, hbl, hlocks, hgv⟩ := id C0
  have hbA : ¬ (fun q : Nat => s.heap.size ≤ q) b := Nat.not_le.mpr hbl
  obtain ⟨v, ev⟩ : ∃ v : Int32, xs (nI k + nI 1).toNatClampNeg = v := ⟨_, rfl⟩
  obtain ⟨x, w1, w2, q1, q2, hT2⟩ := b_unseen (x := v.toInt) w hT
  refine lv_aload_n hx hb (by decide +kernel : decode code 432 = .ok (.aload_n 1, 1)) rfl (lv_at hl 2 rfl) ?_
  refine lv_aload_n hx hb (by decide +kernel : decode code 433 = .ok (.aload_n 0, 1)) rfl (lv_at hl 3 rfl) ?_
  refine lv_iload_n hx hb (by decide +kernel : decode code 434 = .ok (.iload_n 3, 1)) rfl (lv_at hl 0 rfl) ?_
  refine lv_iconst (v := nI 1) hx hb (by decide +kernel : decode code 435 = .ok (.iconst 1, 1)) (by decide) ?_
  refine lv_iadd hx hb (by decide +kernel : decode code 436 = .ok (.iadd, 1)) ?_
  refine va_sld hx hb hX hbl hbA (lw_S hR) (vin (by omega) hL) (by decide +kernel : decode code 437 = .ok (.iaload, 1)) ?_
  rw [ev]
  have clq1 : ∀ (rest : List Value), (([(0, v.toInt)] : List zV)).map (zcv s.heap.size sa) = [.int v] := fun _ => by
    simp only [List.map_cons, List.map_nil, zcv_int]
  have callq1 := lw_call (p := p) (l := l) (e := e) (below := below) (Q := Q) (pc := 438) (ls := ls) (rest := []) (m' := 87) (k := 72) (n := 1) (a := 0) (x := x) (As := [(0, v.toInt)]) C0 KK q1 zmo_87 (Nat.le_of_ble_eq_true rfl) rfl (zt3 225 rfl rfl) (zt3 226 rfl rfl) (zt3 227 rfl rfl) (by decide +kernel) rfl (by decide) (by decide) (by decide +kernel) (zST_1 v) hl.1 (by first | decide | (show 1 ≤ 8; decide)) (by decide +kernel : decode code 438 = .ok (.invokevirtual 72, 3)) hR
  rw [clq1 []] at callq1
  refine callq1 (fun H1 locs1 hRq1 hxq1 => ?_)
  refine lv_aload_n hx hb (by decide +kernel : decode code 441 = .ok (.aload_n 2, 1)) rfl (lv_at hl 1 rfl) ?_
  refine lv_aload_n hx hb (by decide +kernel : decode code 442 = .ok (.aload_n 0, 1)) rfl (lv_at hl 3 rfl) ?_
  refine lv_iload_n hx hb (by decide +kernel : decode code 443 = .ok (.iload_n 3, 1)) rfl (lv_at hl 0 rfl) ?_
  refine lv_iconst (v := nI 1) hx hb (by decide +kernel : decode code 444 = .ok (.iconst 1, 1)) (by decide) ?_
  refine lv_iadd hx hb (by decide +kernel : decode code 445 = .ok (.iadd, 1)) ?_
  refine va_sld hx hb hX hbl hbA (lw_S hRq1) (vin (by omega) hL) (by decide +kernel : decode code 446 = .ok (.iaload, 1)) ?_
  rw [ev]
  have clq2 : ∀ (rest : List Value), (([(0, v.toInt)] : List zV)).map (zcv s.heap.size sa) = [.int v] := fun _ => by
    simp only [List.map_cons, List.map_nil, zcv_int]
  have callq2 := lw_call (p := p) (l := l) (e := e) (below := below) (Q := Q) (pc := 447) (ls := ls) (rest := [.int (Int32.ofInt x)]) (m' := 141) (k := 75) (n := 1) (a := 67) (x := x) (As := [(0, v.toInt)]) C0 KK q2 zmo_141 (Nat.le_of_ble_eq_true rfl) rfl (zt5 99 rfl rfl) (zt5 100 rfl rfl) (zt5 101 rfl rfl) (by decide +kernel) rfl (by decide) (by decide) (by decide +kernel) (zST_1 v) hl.1 (by first | decide | (show 1 ≤ 8; decide)) (by decide +kernel : decode code 447 = .ok (.invokevirtual 75, 3)) hRq1
  rw [clq2 []] at callq2
  refine callq2 (fun H1 locs1 hRq2 hxq2 => ?_)
  refine lv_icmp_eq (tgt := 524) hx hb (by decide +kernel : decode code 450 = .ok (.if_icmp .eq 74, 3)) (by decide) (fun _ => ?_) (fun z => absurd rfl z)
  exact kk _ _ _ hRq2 hT2
theorem lc_keep (C0 : lw_At p s m meth c b L xs) (KK : zKK D ids s.heap.size sa adV s s.heap) (hk : k + 3 ≤ L) (hL : L ≤ 1536) (hl : lv_has ls 4 [(3, .int (nI k)), (2, .ref (s.heap.size + (67 : Int).toNat)), (1, .ref (s.heap.size + (0 : Int).toNat)), (0, .ref b)]) (hR : zRep D ids s.heap.size sa s true H locs 92 w) (hT : TopOk w) (kk : ∀ (H' : Heap) (locs' : List Loc) (w' : zW), zRep D ids s.heap.size sa s true H' locs' 92 w' → TopOk w' → W p l e room_1 s m #[Value.ref b] below meth c H' locs' 92 (zsum 92) Q (F0 m 524 ls [])) : W p l e room_1 s m #[Value.ref b] below meth c H locs 92 (zsum 92) Q (F0 m 455 ls []) := by
  obtain ⟨hx, hb, hr, hml, hown, hts, hX, hbl, hlocks, hgv⟩ := id C0
  have hbA : ¬ (fun q : Nat => s.heap.size ≤ q) b := Nat.not_le.mpr hbl
  obtain ⟨v, ev⟩ : ∃ v : Int32, xs (nI k + nI 1).toNatClampNeg = v := ⟨_, rfl⟩
  obtain ⟨x, w1, w2, q1, q2, hT2⟩ := b_keep (x := v.toInt) w hT
  refine lv_aload_n hx hb (by decide +kernel : decode code 455 = .ok (.aload_n 1, 1)) rfl (lv_at hl 2 rfl) ?_
  refine lv_aload_n hx hb (by decide +kernel : decode code 456 = .ok (.aload_n 0, 1)) rfl (lv_at hl 3 rfl) ?_
  refine lv_iload_n hx hb (by decide +kernel : decode code 457 = .ok (.iload_n 3, 1)) rfl (lv_at hl 0 rfl) ?_
  refine lv_iconst (v := nI 1) hx hb (by decide +kernel : decode code 458 = .ok (.iconst 1, 1)) (by decide) ?_
  refine lv_iadd hx hb (by decide +kernel : decode code 459 = .ok (.iadd, 1)) ?_
  refine va_sld hx hb hX hbl hbA (lw_S hR) (vin (by omega) hL) (by decide +kernel : decode code 460 = .ok (.iaload, 1)) ?_
  rw [ev]
  have clq1 : ∀ (rest : List Value), (([(0, v.toInt)] : List zV)).map (zcv s.heap.size sa) = [.int v] := fun _ => by
    simp only [List.map_cons, List.map_nil, zcv_int]
  have callq1 := lw_call (p := p) (l := l) (e := e) (below := below) (Q := Q) (pc := 461) (ls := ls) (rest := []) (m' := 88) (k := 76) (n := 1) (a := 0) (x := x) (As := [(0, v.toInt)]) C0 KK q1 zmo_88 (Nat.le_of_ble_eq_true rfl) rfl (zt3 238 rfl rfl) (zt3 239 rfl rfl) (zt4 0 rfl rfl) (by decide +kernel) rfl (by decide) (by decide) (by decide +kernel) (zST_1 v) hl.1 (by first | decide | (show 1 ≤ 8; decide)) (by decide +kernel : decode code 461 = .ok (.invokevirtual 76, 3)) hR
  rw [clq1 []] at callq1
  refine callq1 (fun H1 locs1 hRq1 hxq1 => ?_)
  refine lv_aload_n hx hb (by decide +kernel : decode code 464 = .ok (.aload_n 2, 1)) rfl (lv_at hl 1 rfl) ?_
  refine lv_aload_n hx hb (by decide +kernel : decode code 465 = .ok (.aload_n 0, 1)) rfl (lv_at hl 3 rfl) ?_
  refine lv_iload_n hx hb (by decide +kernel : decode code 466 = .ok (.iload_n 3, 1)) rfl (lv_at hl 0 rfl) ?_
  refine lv_iconst (v := nI 1) hx hb (by decide +kernel : decode code 467 = .ok (.iconst 1, 1)) (by decide) ?_
  refine lv_iadd hx hb (by decide +kernel : decode code 468 = .ok (.iadd, 1)) ?_
  refine va_sld hx hb hX hbl hbA (lw_S hRq1) (vin (by omega) hL) (by decide +kernel : decode code 469 = .ok (.iaload, 1)) ?_
  rw [ev]
  have clq2 : ∀ (rest : List Value), (([(0, v.toInt)] : List zV)).map (zcv s.heap.size sa) = [.int v] := fun _ => by
    simp only [List.map_cons, List.map_nil, zcv_int]
  have callq2 := lw_call (p := p) (l := l) (e := e) (below := below) (Q := Q) (pc := 470) (ls := ls) (rest := [.int (Int32.ofInt x)]) (m' := 142) (k := 79) (n := 1) (a := 67) (x := x) (As := [(0, v.toInt)]) C0 KK q2 zmo_142 (Nat.le_of_ble_eq_true rfl) rfl (zt5 103 rfl rfl) (zt5 104 rfl rfl) (zt5 105 rfl rfl) (by decide +kernel) rfl (by decide) (by decide) (by decide +kernel) (zST_1 v) hl.1 (by first | decide | (show 1 ≤ 8; decide)) (by decide +kernel : decode code 470 = .ok (.invokevirtual 79, 3)) hRq1
  rw [clq2 []] at callq2
  refine callq2 (fun H1 locs1 hRq2 hxq2 => ?_)
  refine lv_icmp_eq (tgt := 524) hx hb (by decide +kernel : decode code 473 = .ok (.if_icmp .eq 51, 3)) (by decide) (fun _ => ?_) (fun z => absurd rfl z)
  exact kk _ _ _ hRq2 hT2
theorem lc_back (C0 : lw_At p s m meth c b L xs) (KK : zKK D ids s.heap.size sa adV s s.heap) (hk : k + 3 ≤ L) (hL : L ≤ 1536) (hl : lv_has ls 4 [(3, .int (nI k)), (2, .ref (s.heap.size + (67 : Int).toNat)), (1, .ref (s.heap.size + (0 : Int).toNat)), (0, .ref b)]) (hR : zRep D ids s.heap.size sa s true H locs 92 w) (hT : TopOk w) (kk : ∀ (H' : Heap) (locs' : List Loc) (w' : zW), zRep D ids s.heap.size sa s true H' locs' 92 w' → TopOk w' → W p l e room_1 s m #[Value.ref b] below meth c H' locs' 92 (zsum 92) Q (F0 m 524 ls [])) : W p l e room_1 s m #[Value.ref b] below meth c H locs 92 (zsum 92) Q (F0 m 478 ls []) := by
  obtain ⟨hx, hb, hr, hml, hown, hts, hX, hbl, hlocks, hgv⟩ := id C0
  have hbA : ¬ (fun q : Nat => s.heap.size ≤ q) b := Nat.not_le.mpr hbl
  obtain ⟨v, ev⟩ : ∃ v : Int32, xs (nI k + nI 1).toNatClampNeg = v := ⟨_, rfl⟩
  obtain ⟨x, w1, w2, q1, q2, hT2⟩ := b_back (x := v.toInt) w hT
  refine lv_aload_n hx hb (by decide +kernel : decode code 478 = .ok (.aload_n 1, 1)) rfl (lv_at hl 2 rfl) ?_
  refine lv_aload_n hx hb (by decide +kernel : decode code 479 = .ok (.aload_n 0, 1)) rfl (lv_at hl 3 rfl) ?_
  refine lv_iload_n hx hb (by decide +kernel : decode code 480 = .ok (.iload_n 3, 1)) rfl (lv_at hl 0 rfl) ?_
  refine lv_iconst (v := nI 1) hx hb (by decide +kernel : decode code 481 = .ok (.iconst 1, 1)) (by decide) ?_
  refine lv_iadd hx hb (by decide +kernel : decode code 482 = .ok (.iadd, 1)) ?_
  refine va_sld hx hb hX hbl hbA (lw_S hR) (vin (by omega) hL) (by decide +kernel : decode code 483 = .ok (.iaload, 1)) ?_
  rw [ev]
  have clq1 : ∀ (rest : List Value), (([(0, v.toInt)] : List zV)).map (zcv s.heap.size sa) = [.int v] := fun _ => by
    simp only [List.map_cons, List.map_nil, zcv_int]
  have callq1 := lw_call (p := p) (l := l) (e := e) (below := below) (Q := Q) (pc := 484) (ls := ls) (rest := []) (m' := 89) (k := 80) (n := 1) (a := 0) (x := x) (As := [(0, v.toInt)]) C0 KK q1 zmo_89 (Nat.le_of_ble_eq_true rfl) rfl (zt4 3 rfl rfl) (zt4 4 rfl rfl) (zt4 5 rfl rfl) (by decide +kernel) rfl (by decide) (by decide) (by decide +kernel) (zST_1 v) hl.1 (by first | decide | (show 1 ≤ 8; decide)) (by decide +kernel : decode code 484 = .ok (.invokevirtual 80, 3)) hR
  rw [clq1 []] at callq1
  refine callq1 (fun H1 locs1 hRq1 hxq1 => ?_)
  refine lv_aload_n hx hb (by decide +kernel : decode code 487 = .ok (.aload_n 2, 1)) rfl (lv_at hl 1 rfl) ?_
  refine lv_aload_n hx hb (by decide +kernel : decode code 488 = .ok (.aload_n 0, 1)) rfl (lv_at hl 3 rfl) ?_
  refine lv_iload_n hx hb (by decide +kernel : decode code 489 = .ok (.iload_n 3, 1)) rfl (lv_at hl 0 rfl) ?_
  refine lv_iconst (v := nI 1) hx hb (by decide +kernel : decode code 490 = .ok (.iconst 1, 1)) (by decide) ?_
  refine lv_iadd hx hb (by decide +kernel : decode code 491 = .ok (.iadd, 1)) ?_
  refine va_sld hx hb hX hbl hbA (lw_S hRq1) (vin (by omega) hL) (by decide +kernel : decode code 492 = .ok (.iaload, 1)) ?_
  rw [ev]
  have clq2 : ∀ (rest : List Value), (([(0, v.toInt)] : List zV)).map (zcv s.heap.size sa) = [.int v] := fun _ => by
    simp only [List.map_cons, List.map_nil, zcv_int]
  have callq2 := lw_call (p := p) (l := l) (e := e) (below := below) (Q := Q) (pc := 493) (ls := ls) (rest := [.int (Int32.ofInt x)]) (m' := 143) (k := 83) (n := 1) (a := 67) (x := x) (As := [(0, v.toInt)]) C0 KK q2 zmo_143 (Nat.le_of_ble_eq_true rfl) rfl (zt5 107 rfl rfl) (zt5 108 rfl rfl) (zt5 109 rfl rfl) (by decide +kernel) rfl (by decide) (by decide) (by decide +kernel) (zST_1 v) hl.1 (by first | decide | (show 1 ≤ 8; decide)) (by decide +kernel : decode code 493 = .ok (.invokevirtual 83, 3)) hRq1
  rw [clq2 []] at callq2
  refine callq2 (fun H1 locs1 hRq2 hxq2 => ?_)
  refine lv_icmp_eq (tgt := 524) hx hb (by decide +kernel : decode code 496 = .ok (.if_icmp .eq 28, 3)) (by decide) (fun _ => ?_) (fun z => absurd rfl z)
  exact kk _ _ _ hRq2 hT2
theorem lc_count (C0 : lw_At p s m meth c b L xs) (KK : zKK D ids s.heap.size sa adV s s.heap) (hk : k + 3 ≤ L) (hL : L ≤ 1536) (hl : lv_has ls 4 [(3, .int (nI k)), (2, .ref (s.heap.size + (67 : Int).toNat)), (1, .ref (s.heap.size + (0 : Int).toNat)), (0, .ref b)]) (hR : zRep D ids s.heap.size sa s true H locs 92 w) (hT : TopOk w) (kk : ∀ (H' : Heap) (locs' : List Loc) (w' : zW), zRep D ids s.heap.size sa s true H' locs' 92 w' → TopOk w' → W p l e room_1 s m #[Value.ref b] below meth c H' locs' 92 (zsum 92) Q (F0 m 524 ls [])) : W p l e room_1 s m #[Value.ref b] below meth c H locs 92 (zsum 92) Q (F0 m 501 ls []) := by
  obtain ⟨hx, hb, hr, hml, hown, hts, hX, hbl, hlocks, hgv⟩ := id C0
  have hbA : ¬ (fun q : Nat => s.heap.size ≤ q) b := Nat.not_le.mpr hbl
  obtain ⟨v, ev⟩ : ∃ v : Int32, xs (nI k + nI 1).toNatClampNeg = v := ⟨_, rfl⟩
  obtain ⟨x, w1, w2, q1, q2, hT2⟩ := b_count (x := v.toInt) w hT
  refine lv_aload_n hx hb (by decide +kernel : decode code 501 = .ok (.aload_n 1, 1)) rfl (lv_at hl 2 rfl) ?_
  refine lv_aload_n hx hb (by decide +kernel : decode code 502 = .ok (.aload_n 0, 1)) rfl (lv_at hl 3 rfl) ?_
  refine lv_iload_n hx hb (by decide +kernel : decode code 503 = .ok (.iload_n 3, 1)) rfl (lv_at hl 0 rfl) ?_
  refine lv_iconst (v := nI 1) hx hb (by decide +kernel : decode code 504 = .ok (.iconst 1, 1)) (by decide) ?_
  refine lv_iadd hx hb (by decide +kernel : decode code 505 = .ok (.iadd, 1)) ?_
  refine va_sld hx hb hX hbl hbA (lw_S hR) (vin (by omega) hL) (by decide +kernel : decode code 506 = .ok (.iaload, 1)) ?_
  rw [ev]
  have clq1 : ∀ (rest : List Value), (([(0, v.toInt)] : List zV)).map (zcv s.heap.size sa) = [.int v] := fun _ => by
    simp only [List.map_cons, List.map_nil, zcv_int]
  have callq1 := lw_call (p := p) (l := l) (e := e) (below := below) (Q := Q) (pc := 507) (ls := ls) (rest := []) (m' := 90) (k := 84) (n := 1) (a := 0) (x := x) (As := [(0, v.toInt)]) C0 KK q1 zmo_90 (Nat.le_of_ble_eq_true rfl) rfl (zt4 9 rfl rfl) (zt4 10 rfl rfl) (zt4 11 rfl rfl) (by decide +kernel) rfl (by decide) (by decide) (by decide +kernel) (zST_1 v) hl.1 (by first | decide | (show 1 ≤ 8; decide)) (by decide +kernel : decode code 507 = .ok (.invokevirtual 84, 3)) hR
  rw [clq1 []] at callq1
  refine callq1 (fun H1 locs1 hRq1 hxq1 => ?_)
  refine lv_aload_n hx hb (by decide +kernel : decode code 510 = .ok (.aload_n 2, 1)) rfl (lv_at hl 1 rfl) ?_
  refine lv_aload_n hx hb (by decide +kernel : decode code 511 = .ok (.aload_n 0, 1)) rfl (lv_at hl 3 rfl) ?_
  refine lv_iload_n hx hb (by decide +kernel : decode code 512 = .ok (.iload_n 3, 1)) rfl (lv_at hl 0 rfl) ?_
  refine lv_iconst (v := nI 1) hx hb (by decide +kernel : decode code 513 = .ok (.iconst 1, 1)) (by decide) ?_
  refine lv_iadd hx hb (by decide +kernel : decode code 514 = .ok (.iadd, 1)) ?_
  refine va_sld hx hb hX hbl hbA (lw_S hRq1) (vin (by omega) hL) (by decide +kernel : decode code 515 = .ok (.iaload, 1)) ?_
  rw [ev]
  have clq2 : ∀ (rest : List Value), (([(0, v.toInt)] : List zV)).map (zcv s.heap.size sa) = [.int v] := fun _ => by
    simp only [List.map_cons, List.map_nil, zcv_int]
  have callq2 := lw_call (p := p) (l := l) (e := e) (below := below) (Q := Q) (pc := 516) (ls := ls) (rest := [.int (Int32.ofInt x)]) (m' := 145) (k := 87) (n := 1) (a := 67) (x := x) (As := [(0, v.toInt)]) C0 KK q2 zmo_145 (Nat.le_of_ble_eq_true rfl) rfl (zt5 111 rfl rfl) (zt5 112 rfl rfl) (zt5 113 rfl rfl) (by decide +kernel) rfl (by decide) (by decide) (by decide +kernel) (zST_1 v) hl.1 (by first | decide | (show 1 ≤ 8; decide)) (by decide +kernel : decode code 516 = .ok (.invokevirtual 87, 3)) hRq1
  rw [clq2 []] at callq2
  refine callq2 (fun H1 locs1 hRq2 hxq2 => ?_)
  refine lv_icmp_eq (tgt := 524) hx hb (by decide +kernel : decode code 519 = .ok (.if_icmp .eq 5, 3)) (by decide) (fun _ => ?_) (fun z => absurd rfl z)
  exact kk _ _ _ hRq2 hT2
end LC
