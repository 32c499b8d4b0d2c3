theorem zixF_no (c : Int) : ∀ (l : List Int) (k : Int), c ∉ l → zixF c l k = -1
  | [], _, _ => rfl
  | a :: l, k, h => by
    rw [zixF, if_neg (fun z => h (by rw [z]; exact List.mem_cons_self))]
    exact zixF_no c l (k + 1) (fun z => h (List.mem_cons_of_mem _ z))
theorem zSC_in : ∀ i : Nat, i < 3 → ∀ c ∈ zSC.getD i [], 0 ≤ c ∧ c ≤ 255 := by decide +kernel
theorem jio_n : ∀ i : Nat, i < 3 → ∀ n : Nat, n < 256 → jio i (Int32.ofInt (n : Int)) = Int32.ofInt (zix i (n : Int)) := by decide +kernel
theorem zix_in : ∀ i : Nat, i < 3 → ∀ n : Nat, n < 256 → -1 ≤ zix i (n : Int) ∧ zix i (n : Int) < 100 := by decide +kernel
theorem jio_zix {i : Nat} {x : Int} (hi : i < 3) (hx : zin (0, x)) : jio i (Int32.ofInt x) = Int32.ofInt (zix i x) ∧ zin (0, zix i x) := by
  have h0 : Int32.ofInt x < 0 ↔ x < 0 := by
    have := zi_lt (x := x) (y := 0) hx (by show (-2147483648 : Int) ≤ 0 ∧ (0 : Int) < 2147483648; omega)
    exact this
  have h1 : (255 : Int32) < Int32.ofInt x ↔ 255 < x := by
    have := zi_lt (x := 255) (y := x) (by show (-2147483648 : Int) ≤ 255 ∧ (255 : Int) < 2147483648; omega) hx
    exact this
  by_cases c : 0 ≤ x ∧ x ≤ 255
  · have a := jio_n i hi x.toNat (by omega)
    have b := zix_in i hi x.toNat (by omega)
    rw [show ((x.toNat : Nat) : Int) = x by omega] at a b
    refine ⟨a, ?_⟩
    show (-2147483648 : Int) ≤ zix i x ∧ zix i x < 2147483648
    omega
  · have e : zix i x = -1 := zixF_no x _ 0 (fun z => c (zSC_in i hi x z))
    have ej : jce (Int32.ofInt x) = 0 := by
      unfold jce
      by_cases c1 : x < 0
      · rw [if_pos (h0.mpr c1)]
      · rw [if_neg (fun z => c1 (h0.mp z)), if_pos (h1.mpr (by omega))]
    rw [e]
    refine ⟨?_, ?_⟩
    · unfold jio
      rw [if_pos ej]
      rfl
    · show (-2147483648 : Int) ≤ -1 ∧ (-1 : Int) < 2147483648
      omega
theorem zml_23 : ∀ c : Nat, c < 9 → ∀ q ∈ zML c, q.2.2.1 = 23 → c = 1 ∧ q.1 = 61 := by decide +kernel
section Z8
variable {p : Program} {l : Launch} {e : Env} {R : Room} {s : State} {mth : MethodId} {args : Array Value} {below : List Frame} {meth : Method} {c : Code} {D : va_G} {ids : Nat → ClassId} {b : Nat} {sa adV : Nat → Nat} {n0 nE d m : Nat} {Q : State → Prop} {pc : Nat} {lv st : List zV} {g : Nat} {w : zW}
theorem z_ridx (C : zCx p R s mth args meth c D ids b sa adV n0 nE d m) {k : Nat} {q : Nat × Nat × Nat} {x i : Int} (hl : (zML (zcn m)).lookup k = some q) (hq : q.2.1 = 23) (h1 : 5 ≤ d) (hge : g ≤ nE) (ha : 0 ≤ i ∧ i < 3 ∧ zcat st ≤ 8) (hd : decode (zby m) pc = .ok (.invokevirtual k, 3)) (kk : zWW p l e R s mth args below meth c D ids b sa n0 m Q (pc + 3) lv ((0, zix i.toNat x) :: st) g w) : zWW p l e R s mth args below meth c D ids b sa n0 m Q pc lv ((0, x) :: (3, i) :: st) g w := by
  have hcm : zcn m < 9 := by
    by_cases hc : zcn m < 9
    · exact hc
    · exfalso
      have : zML (zcn m) = [] := by
        unfold zML
        split <;> first | omega | rfl
      rw [this] at hl
      cases hl
  obtain ⟨e1, e2⟩ := zml_23 (zcn m) hcm _ (z_look hl) hq
  have e2 : k = 61 := e2
  subst e2
  have hts := C.2.2.2.2.2.2.2.1
  have hfr := C.2.2.2.2.2.2.2.2.2.1
  have hlo := C.2.2.2.2.2.2.2.2.2.2.1
  have hKK := C.2.2.2.2.2.2.2.2.1
  intro H locs ls hR hL hS hn T hT X
  have hx : zin (0, x) := hS.head
  have hi : i.toNat < 3 := by omega
  obtain ⟨j1, j2⟩ := jio_zix hi hx
  have hSr : zST st := hS.tail.tail
  have hs1 := zsum_le hn
  have hs2 := zsum_le hge
  have hown : s.vm.findClass "WaitPlaces$Reader" = some mth.cls := by
    have := C.2.2.2.2.2.1
    rw [e1] at this
    exact this
  have hrun := va_runV (H := H) (locs := locs) (cells := g - n0) (slots := zsum g - zsum n0) (C := "java/lang/String") (As := [.int (Int32.ofInt x)]) (rest := st.map (zcv b sa)) (b := sa i.toNat) (g := F0 mth pc ls (((0, x) :: (3, i) :: st).map (zcv b sa))) (n := 1) (ret := some .int) (bytes := cJ0_indexOf_0f7a4) (maxL := 2) (index := 61) ⟨C.1, C.2.1, C.2.2.2.2.1, hown, hts⟩ (j_indexOf3 (d := 0) (b := b) (sa := sa) (adV := adV) hi (Int32.ofInt x) l)
    ⟨⟨rfl, rfl, by show 0 + 3 + 1 ≤ _; omega, by show 8 + (2 + 11) + 40 * (0 + 3) ≤ _; omega, j_words hts (zt2 76 rfl rfl), List.mem_cons_self, hts _ (zt2 76 rfl rfl), hts _ (zt1 11 rfl rfl), ⟨by decide +kernel, by decide +kernel⟩, zlen (by decide +kernel), hts _ (zt2 73 rfl rfl)⟩, hts _ (zt2 74 rfl rfl), hts _ (zt2 75 rfl rfl)⟩
    ⟨jP_blind, vk_recv hKK.2.2.2.1 hi (⟨hR.2.2.1, fun a _ h => hR.2.2.2.2.1 a (Nat.not_le.mp h), hR.2.2.2.2.2.1⟩ : va_S (fun q => b ≤ q) s.heap H locs), jP_of hKK.2.2.2.1 hKK.2.2.2.2 hR.2.2.2.2.1⟩ rfl rfl hL.1 rfl (by rw [zcat_sum]; show 2 * 0 + _ ≤ 8; omega) hd ⟨by rw [C.2.2.2.2.2.2.2.2.2.2.2.1]; omega, by rw [C.2.2.2.2.2.2.2.2.2.2.2.2]; omega⟩ T hT X
  refine j_after (n := 1) (b := b) (H := H) (x := jio i.toNat (Int32.ofInt x)) (rest := st.map (zcv b sa)) (a := [Value.ref (sa i.toNat), .int (Int32.ofInt x)].toArray) (fun H' locs' hH hL' => ?_) hR.2.2.2.2.2.1 hrun
  subst hH
  have := kk H' locs' ls ⟨hR.1, hR.2.1, hR.2.2.1, hR.2.2.2.1, hR.2.2.2.2.1, hL', hR.2.2.2.2.2.2.1, hR.2.2.2.2.2.2.2⟩ hL (hSr.cons (by show 0 < 4; decide) j2) hn
  rw [j1]
  exact this
end Z8
