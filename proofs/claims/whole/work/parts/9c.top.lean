theorem mem_if (L : List (Int × Int × Int)) {w : zW} (h : ∀ q ∈ L, w q.1 q.2.1 = q.2.2) (a i v : Int) (hm : (a, i, v) ∈ L) : w a i = v := h _ hm
set_option maxRecDepth 20000 in
theorem ini_top {w : zW} (h : ∀ q ∈ iFc, w q.1 q.2.1 = q.2.2) : TopOk w := by
  have iF := mem_if iFc h
  clear h
  obtain ⟨P, eP⟩ : ∃ P : Pg, (fun a i => w (2 + a) i) = P := ⟨_, rfl⟩
  have hT : TO w 2 P := fun a _ _ i => by rw [← eP]
  have h0 : P 0 6 = 0 := by rw [← eP]; exact iF 2 6 0 (by decide +kernel)
  have h1 : ∀ p, 0 ≤ p → p < 3 → P 1 p = 0 := fun p p0 p3 => by
    rw [← eP]
    rcases (by omega : p = 0 ∨ p = 1 ∨ p = 2) with rfl | rfl | rfl
    · exact iF 3 0 0 (by decide +kernel)
    · exact iF 3 1 0 (by decide +kernel)
    · exact iF 3 2 0 (by decide +kernel)
  have h2 : ∀ t, 0 ≤ t → t < 4 → P 2 t = 0 := fun p p0 p3 => by
    rw [← eP]
    rcases (by omega : p = 0 ∨ p = 1 ∨ p = 2 ∨ p = 3) with rfl | rfl | rfl | rfl
    · exact iF 4 0 0 (by decide +kernel)
    · exact iF 4 1 0 (by decide +kernel)
    · exact iF 4 2 0 (by decide +kernel)
    · exact iF 4 3 0 (by decide +kernel)
  have h3 : ∀ t, 0 ≤ t → t < 4 → P 3 t = 0 := fun p p0 p3 => by
    rw [← eP]
    rcases (by omega : p = 0 ∨ p = 1 ∨ p = 2 ∨ p = 3) with rfl | rfl | rfl | rfl
    · exact iF 5 0 0 (by decide +kernel)
    · exact iF 5 1 0 (by decide +kernel)
    · exact iF 5 2 0 (by decide +kernel)
    · exact iF 5 3 0 (by decide +kernel)
  clear eP
  have hP : WP P := ⟨by omega, by omega, fun p p0 p3 => by rw [h1 p p0 p3]; omega, fun t t0 t4 => by rw [h2 t t0 t4, h3 t t0 t4]; omega, fun t i t0 t4 i0 il => by rw [h3 t t0 t4] at il; omega⟩
  refine ⟨2, [], P, sBg P, 0, [], fun _ => none, [], ⟨iF 0 2 2 (by decide +kernel), iF 0 3 9 (by decide +kernel), Or.inl rfl, hT, ⟨iF 0 1 0 (by decide +kernel), fun i hi => absurd hi (Nat.not_lt_zero _)⟩, ?_, iF 19 10 0 (by decide +kernel), ⟨iF 29 2 0 (by decide +kernel), by simp, by rw [iF 29 1 0 (by decide +kernel)]; omega, by rw [iF 29 1 0 (by decide +kernel)]; omega, fun i hi => absurd hi (Nat.not_lt_zero _)⟩, fun z z0 z2 => ⟨fun _ => ?_, fun e he => by cases he⟩, ⟨iF 38 2 0 (by decide +kernel), fun i hi => absurd hi (Nat.not_lt_zero _)⟩, Or.inr (iF 41 7 1 (by decide +kernel)), by rw [iF 55 10 0 (by decide +kernel)]; rfl⟩, MTo.top ⟨?_, ?_, iF 67 6 0 (by decide +kernel), iF 67 9 0 (by decide +kernel), iF 67 22 0 (by decide +kernel), iF 67 39 0 (by decide +kernel), iF 91 0 0 (by decide +kernel), iF 91 1 0 (by decide +kernel)⟩, AG.new hP⟩
  · refine ⟨fun p p0 p3 => ?_, fun t t0 t4 => ?_, iF 19 9 0 (by decide +kernel), fun i hi => absurd hi (Nat.not_lt_zero _)⟩
    · rw [sBg_a p3, sBg_z (p := 3 + p) (by omega) (by omega), sBg_z (p := 6 + p) (by omega) (by omega), h1 p p0 p3]
      rcases (by omega : p = 0 ∨ p = 1 ∨ p = 2) with rfl | rfl | rfl
      · exact ⟨iF 20 0 0 (by decide +kernel), iF 21 0 4 (by decide +kernel), iF 22 0 0 (by decide +kernel)⟩
      · exact ⟨iF 20 1 0 (by decide +kernel), iF 21 1 4 (by decide +kernel), iF 22 1 0 (by decide +kernel)⟩
      · exact ⟨iF 20 2 0 (by decide +kernel), iF 21 2 4 (by decide +kernel), iF 22 2 0 (by decide +kernel)⟩
    · rw [sBg_h t0 t4, sBg_z (p := 9 + t) (by omega) (by omega), sBg_z (p := 17 + t) (by omega) (by omega), if_neg (by rw [h3 t t0 t4]; omega)]
      rcases (by omega : t = 0 ∨ t = 1 ∨ t = 2 ∨ t = 3) with rfl | rfl | rfl | rfl
      · exact ⟨iF 23 0 0 (by decide +kernel), iF 24 0 3 (by decide +kernel), iF 25 0 3 (by decide +kernel), iF 26 0 0 (by decide +kernel)⟩
      · exact ⟨iF 23 1 0 (by decide +kernel), iF 24 1 3 (by decide +kernel), iF 25 1 3 (by decide +kernel), iF 26 1 0 (by decide +kernel)⟩
      · exact ⟨iF 23 2 0 (by decide +kernel), iF 24 2 3 (by decide +kernel), iF 25 2 3 (by decide +kernel), iF 26 2 0 (by decide +kernel)⟩
      · exact ⟨iF 23 3 0 (by decide +kernel), iF 24 3 3 (by decide +kernel), iF 25 3 3 (by decide +kernel), iF 26 3 0 (by decide +kernel)⟩
  · rcases (by omega : z = 0 ∨ z = 1) with rfl | rfl
    · exact iF 37 0 0 (by decide +kernel)
    · exact iF 37 1 0 (by decide +kernel)
  · refine ⟨by rw [h0]; exact iF 67 1 0 (by decide +kernel), fun p p0 p3 => ?_, fun t t0 t4 => by omega⟩
    rw [h1 p p0 p3]
    rcases (by omega : p = 0 ∨ p = 1 ∨ p = 2) with rfl | rfl | rfl
    · exact iF 68 0 0 (by decide +kernel)
    · exact iF 68 1 0 (by decide +kernel)
    · exact iF 68 2 0 (by decide +kernel)
  · have hz : ∀ i : Int, 0 ≤ i → i < 25 → w 72 i = 0 := fun i i0 i1 => by
      have hm : ∀ n : Nat, n < 25 → ((72 : Int), (n : Int), (0 : Int)) ∈ iFc := by decide +kernel
      have := iF 72 (i.toNat : Int) 0 (hm i.toNat (by omega))
      rw [show ((i.toNat : Nat) : Int) = i by omega] at this
      exact this
    rw [h0]
    refine ⟨fun i i0 i3 => ?_, fun t t0 t4 => ?_, fun i hi => ?_⟩
    · rw [hz i i0 (by omega)]
      by_cases c : i < 3
      · rw [sBg_a c, h1 i i0 c]
      · rw [sBg_z (by omega) (by omega)]
    · rw [hz _ (by omega) (by omega), hz _ (by omega) (by omega), if_neg (by omega), sBg_z (p := 17 + t) (by omega) (by omega)]
      exact ⟨rfl, rfl⟩
    · rw [hz _ (by omega) (by omega)]
      rfl
