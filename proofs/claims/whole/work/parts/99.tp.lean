section Z2
variable {d : Nat} {w w' : zW} {j x y : Int} {T T' : List Int} {P : Pg} {S : Sc} {f : Int} {H : Hs} {K : Kp} {Q Q' : Sg}
theorem b_thread : Both 77 124 [(0, x), (0, y)] := by
  rintro w ⟨j, T, P, S, f, H, K, Q, hC, hM, hA⟩
  obtain ⟨h1, h2, h3, h4, h5, h6, h7, h8, h9, h10, h11, h12⟩ := id hC
  obtain ⟨w1, q1, q2⟩ := r_thread (d := 7) (t := x) (x := y) h1 h3 h6 h4 hA.2.1.1 hA.1
  have hC1 : CTop w1 j T P S f H K Q := ⟨by rw [q2 0 (by omega)]; exact h1, by rw [q2 0 (by omega)]; exact h2, h3, h4.at (fun a _ _ => q2 a (by omega)), h5.at (by rw [q2 0 (by omega)]) (q2 1 (by omega)), h6.at (fun a _ _ => q2 a (by omega)), by rw [q2 19 (by omega)]; exact h7, h8.at (fun a _ _ => q2 a (by omega)), h9.at (fun a _ _ => q2 a (by omega)), h10.at (fun a _ _ => q2 a (by omega)), KS.at h11 (fun a _ _ => q2 a (by omega)), by rw [q2 55 (by omega)]; exact h12⟩
  have hM1 : MTop w1 T P S f H K Q := hM.at (fun a ha => q2 a (by omega))
  obtain ⟨w2, s1, s2⟩ := m_thread (d := 7) (t := x) (x := y) hM1.2.2.1 hM1.1 hA.2.1.1 hA.1
  refine ⟨_, w1, w2, q1, s1, j, T, P, S, f, H, K, Q, hC1.at (fun a ha => s2 a (by omega)), ?_, hA⟩
  unfold MTop PO MX0 RS MPa MKp MSg at *
  rw [s2 67 (by omega), s2 68 (by omega), s2 69 (by omega), s2 70 (by omega), s2 71 (by omega), s2 72 (by omega), s2 74 (by omega), s2 79 (by omega), s2 80 (by omega), s2 88 (by omega), s2 89 (by omega), s2 90 (by omega), s2 91 (by omega)]
  exact hM1
/-- another text -/
theorem CTop.txt (h : CTop w j T P S f H K Q) (hX : CX0 w' T') (e : ∀ a i, a ≠ 1 → (a ≠ 0 ∨ i ≠ 1) → w' a i = w a i) : CTop w' j T' P S f H K Q := by
  obtain ⟨h1, h2, h3, h4, h5, h6, h7, h8, h9, h10, h11, h12⟩ := h
  have e' : ∀ a, 1 < a → w' a = w a := fun a ha => by funext i; exact e a i (by omega) (by omega)
  refine ⟨by rw [e 0 2 (by omega) (by omega)]; exact h1, by rw [e 0 3 (by omega) (by omega)]; exact h2, h3, h4.at (fun a _ _ => e' a (by omega)), hX, h6.at (fun a _ _ => e' a (by omega)), by rw [e' 19 (by omega)]; exact h7, h8.at (fun a _ _ => e' a (by omega)), h9.at (fun a _ _ => e' a (by omega)), h10.at (fun a _ _ => e' a (by omega)), KS.at h11 (fun a _ _ => e' a (by omega)), by rw [e' 55 (by omega)]; exact h12⟩
theorem MTop.txt (h : MTop w T P S f H K Q) (hX : MX0 w' T') (e : ∀ a i, a ≠ 74 → (a ≠ 67 ∨ i ≠ 9) → w' a i = w a i) : MTop w' T' P S f H K Q := by
  obtain ⟨h1, h2, h3, h4, h5, h6, h7⟩ := h
  have e' : ∀ a, a ≠ 67 → a ≠ 74 → w' a = w a := fun a ha hb => by funext i; exact e a i hb (Or.inl ha)
  refine ⟨?_, hX, ?_, by rw [e 67 6 (by omega) (by omega)]; exact h4, ?_, ?_, ?_⟩
  · unfold PO at *
    rw [e 67 1 (by omega) (by omega), e' 68 (by omega) (by omega), e' 69 (by omega) (by omega), e' 70 (by omega) (by omega), e' 71 (by omega) (by omega)]
    exact h1
  · exact h3.at (e' 72 (by omega) (by omega))
  · unfold MPa at *
    rw [e 67 22 (by omega) (by omega), e' 79 (by omega) (by omega), e' 80 (by omega) (by omega)]
    exact h5
  · unfold MKp at *
    rw [e' 89 (by omega) (by omega), e' 90 (by omega) (by omega), e' 91 (by omega) (by omega)]
    exact h6
  · unfold MSg at *
    rw [e 67 39 (by omega) (by omega), e' 88 (by omega) (by omega)]
    exact h7
theorem AG.txt (h : AG T P S f H K Q) (hT : T'.length ≤ 120 ∧ ∀ x, x ∈ T' → 0 ≤ x ∧ x ≤ 255) : AG T' P S f H K Q := ⟨h.1, h.2.1, h.2.2.1, hT, h.2.2.2.2⟩
theorem b_type : Both 73 112 [(0, x)] := by
  rintro w ⟨j, T, P, S, f, H, K, Q, hC, hM, hA⟩
  have hT := hA.2.2.2.1
  obtain ⟨w1, q1, q2, q3⟩ := r_type (d := 10) (x := x) hT.1 hC.2.2.2.2.1
  have hC1 := hC.txt q2 q3
  have hM1 : MTop w1 T P S f H K Q := hM.at (fun a ha => by funext i; exact q3 a i (by omega) (by omega))
  obtain ⟨w2, s1, s2, s3⟩ := m_type (d := 9) (x := x) hT.1 hM1.2.1
  refine ⟨_, w1, w2, q1, s1, j, (qTy T x).2, P, S, f, H, K, Q, hC1.at (fun a ha => by funext i; exact s3 a i (by omega) (by omega)), hM1.txt s2 s3, hA.txt ?_⟩
  unfold qTy
  split
  · exact hT
  split
  · exact hT
  · refine ⟨by rw [List.length_append]; show T.length + 1 ≤ 120; omega, fun z hz => ?_⟩
    rcases List.mem_append.mp hz with hz | hz
    · exact hT.2 z hz
    · rw [List.mem_singleton] at hz
      omega
theorem b_clear : Both 74 113 [] := by
  rintro w ⟨j, T, P, S, f, H, K, Q, hC, hM, hA⟩
  have q1 := r_clear (d := 10) hC.2.2.2.2.1
  have q3 : ∀ a i, a ≠ 1 → (a ≠ 0 ∨ i ≠ 1) → zup w 0 1 0 a i = w a i := fun a i _ h => zup_off _ h
  have hC1 := hC.txt (w' := zup w 0 1 0) (T' := []) ⟨zup_self .., fun i hi => absurd hi (Nat.not_lt_zero _)⟩ q3
  have hM1 : MTop (zup w 0 1 0) T P S f H K Q := hM.at (fun a ha => zup_ne (by omega))
  have s1 := m_clear (d := 10) hM1.2.1
  have hM2 := hM1.txt (w' := zup (zup w 0 1 0) 67 9 0) (T' := []) ⟨zup_self .., fun i hi => absurd hi (Nat.not_lt_zero _)⟩ (fun a i _ h => zup_off _ h)
  exact ⟨_, _, _, q1, s1, j, [], P, S, f, H, K, Q, hC1.at (fun a ha => zup_ne (by omega)), hM2, hA.txt ⟨by simp, fun z hz => absurd hz List.not_mem_nil⟩⟩
/-- other values seen -/
theorem CTop.sg (h : CTop w j T P S f H K Q) (hX : CSg w' Q') (e : ∀ a, a ≠ 38 → a ≠ 39 → a ≠ 40 → w' a = w a) : CTop w' j T P S f H K Q' := by
  obtain ⟨h1, h2, h3, h4, h5, h6, h7, h8, h9, h10, h11, h12⟩ := h
  have e' : ∀ a, a < 38 ∨ 40 < a → w' a = w a := fun a ha => e a (by omega) (by omega) (by omega)
  refine ⟨by rw [e' 0 (by omega)]; exact h1, by rw [e' 0 (by omega)]; exact h2, h3, h4.at (fun a _ _ => e' a (by omega)), h5.at (by rw [e' 0 (by omega)]) (e' 1 (by omega)), h6.at (fun a _ _ => e' a (by omega)), by rw [e' 19 (by omega)]; exact h7, h8.at (fun a _ _ => e' a (by omega)), h9.at (fun a _ _ => e' a (by omega)), hX, KS.at h11 (fun a _ _ => e' a (by omega)), by rw [e' 55 (by omega)]; exact h12⟩
theorem MTop.sg (h : MTop w T P S f H K Q) (hX : MSg w' Q') (e : ∀ a i, a ≠ 88 → (a ≠ 67 ∨ i ≠ 39) → w' a i = w a i) : MTop w' T P S f H K Q' := by
  obtain ⟨h1, h2, h3, h4, h5, h6, h7⟩ := h
  have e' : ∀ a, a ≠ 67 → a ≠ 88 → w' a = w a := fun a ha hb => by funext i; exact e a i hb (Or.inl ha)
  refine ⟨?_, ?_, ?_, by rw [e 67 6 (by omega) (by omega)]; exact h4, ?_, ?_, hX⟩
  · unfold PO at *
    rw [e 67 1 (by omega) (by omega), e' 68 (by omega) (by omega), e' 69 (by omega) (by omega), e' 70 (by omega) (by omega), e' 71 (by omega) (by omega)]
    exact h1
  · unfold MX0 at *
    rw [e 67 9 (by omega) (by omega), e' 74 (by omega) (by omega)]
    exact h2
  · exact h3.at (e' 72 (by omega) (by omega))
  · unfold MPa at *
    rw [e 67 22 (by omega) (by omega), e' 79 (by omega) (by omega), e' 80 (by omega) (by omega)]
    exact h5
  · unfold MKp at *
    rw [e' 89 (by omega) (by omega), e' 90 (by omega) (by omega), e' 91 (by omega) (by omega)]
    exact h6
theorem AG.sg (h : AG T P S f H K Q) (hQ : QG Q') : AG T P S f H K Q' := ⟨h.1, h.2.1, h.2.2.1, h.2.2.2.1, hQ, h.2.2.2.2.2⟩
theorem b_sees : Both 85 139 [(0, x), (0, y)] := by
  rintro w ⟨j, T, P, S, f, H, K, Q, hC, hM, hA⟩
  have hQ := hA.2.2.2.2.1
  obtain ⟨w1, q1, q2, q3⟩ := r_sees (d := 9) (p := x) (x := y) hQ hC.2.2.2.2.2.2.2.2.2.1
  have hC1 := hC.sg q2 q3
  have hM1 : MTop w1 T P S f H K Q := hM.at (fun a ha => q3 a (by omega) (by omega) (by omega))
  obtain ⟨w2, s1, s2, s3⟩ := m_sees (d := 8) (p := x) (x := y) hQ hM1.2.2.2.2.2.2
  exact ⟨_, w1, w2, q1, s1, j, T, P, S, f, H, K, (qSee Q x y).2, hC1.at (fun a ha => by funext i; exact s3 a i (by omega) (by omega)), hM1.sg s2 s3, hA.sg hQ.see⟩
theorem b_forget : Both 86 140 [] := by
  rintro w ⟨j, T, P, S, f, H, K, Q, hC, hM, hA⟩
  have q1 := r_forget (d := 10) hC.2.2.2.2.2.2.2.2.2.1
  have hC1 := hC.sg (w' := zup w 38 2 0) (Q' := []) ⟨zup_self .., fun i hi => absurd hi (Nat.not_lt_zero _)⟩ (fun a h _ _ => zup_ne h)
  have hM1 : MTop (zup w 38 2 0) T P S f H K Q := hM.at (fun a ha => zup_ne (by omega))
  have s1 := m_forget (d := 10) hM1.2.2.2.2.2.2
  have hM2 := hM1.sg (w' := zup (zup w 38 2 0) 67 39 0) (Q' := []) ⟨zup_self .., fun i hi => absurd hi (Nat.not_lt_zero _)⟩ (fun a i _ h => zup_off _ h)
  exact ⟨_, _, _, q1, s1, j, T, P, S, f, H, K, [], hC1.at (fun a ha => zup_ne (by omega)), hM2, hA.sg ⟨by simp, fun i hi => absurd hi (Nat.not_lt_zero _)⟩⟩
/-- another scene, another past -/
theorem CTop.sc {S' : Sc} {f' : Int} {H' : Hs} (h : CTop w j T P S f H K Q) (hS : CS w' 19 S') (hf : w' 19 10 = f') (hH : CPa w' H') (h41 : w' 41 7 = 1) (e : ∀ a i, (a < 19 ∨ 29 < a) → a ≠ 31 → a ≠ 32 → a ≠ 33 → (a ≠ 41 ∨ i ≠ 7) → w' a i = w a i) : CTop w' j T P S' f' H' K Q := by
  obtain ⟨h1, h2, h3, h4, h5, h6, h7, h8, h9, h10, h11, h12⟩ := h
  have e' : ∀ a, a < 19 ∨ 33 < a ∧ a < 41 ∨ 41 < a → w' a = w a := fun a ha => by funext i; exact e a i (by omega) (by omega) (by omega) (by omega) (by omega)
  refine ⟨by rw [e' 0 (by omega)]; exact h1, by rw [e' 0 (by omega)]; exact h2, h3, h4.at (fun a _ _ => e' a (by omega)), h5.at (by rw [e' 0 (by omega)]) (e' 1 (by omega)), hS, hf, hH, h9.at (fun a _ _ => e' a (by omega)), h10.at (fun a _ _ => e' a (by omega)), Or.inr h41, by rw [e' 55 (by omega)]; exact h12⟩
theorem MTop.sc {S' : Sc} {f' : Int} {H' : Hs} (h : MTop w T P S f H K Q) (hS : RS w' (P 0 6) S') (hf : w' 67 6 = f') (hH : MPa w' (P 0 6) H') (e : ∀ a i, a ≠ 72 → a ≠ 73 → a ≠ 79 → a ≠ 80 → (a ≠ 67 ∨ i ≠ 6 ∧ i ≠ 22) → w' a i = w a i) : MTop w' T P S' f' H' K Q := by
  obtain ⟨h1, h2, h3, h4, h5, h6, h7⟩ := h
  have e' : ∀ a, a ≠ 67 → a ≠ 72 → a ≠ 73 → a ≠ 79 → a ≠ 80 → w' a = w a := fun a ha h1 h2 h3 h4 => by funext i; exact e a i h1 h2 h3 h4 (Or.inl ha)
  have e7 : ∀ i, i ≠ 6 → i ≠ 22 → w' 67 i = w 67 i := fun i i1 i2 => e 67 i (by omega) (by omega) (by omega) (by omega) (Or.inr ⟨i1, i2⟩)
  refine ⟨?_, ?_, hS, hf, hH, ?_, ?_⟩
  · unfold PO at *
    rw [e7 1 (by omega) (by omega), e' 68 (by omega) (by omega) (by omega) (by omega) (by omega), e' 69 (by omega) (by omega) (by omega) (by omega) (by omega), e' 70 (by omega) (by omega) (by omega) (by omega) (by omega), e' 71 (by omega) (by omega) (by omega) (by omega) (by omega)]
    exact h1
  · unfold MX0 at *
    rw [e7 9 (by omega) (by omega), e' 74 (by omega) (by omega) (by omega) (by omega) (by omega)]
    exact h2
  · unfold MKp at *
    rw [e' 89 (by omega) (by omega) (by omega) (by omega) (by omega), e' 90 (by omega) (by omega) (by omega) (by omega) (by omega), e' 91 (by omega) (by omega) (by omega) (by omega) (by omega)]
    exact h6
  · unfold MSg at *
    rw [e7 39 (by omega) (by omega), e' 88 (by omega) (by omega) (by omega) (by omega) (by omega)]
    exact h7
theorem hi_of (e : ∀ a i, (a < 19 ∨ 29 < a) → a ≠ 31 → a ≠ 32 → a ≠ 33 → (a ≠ 41 ∨ i ≠ 7) → w' a i = w a i) : ∀ a, 67 ≤ a → w' a = w a := fun a ha => by funext i; exact e a i (by omega) (by omega) (by omega) (by omega) (by omega)
theorem lo_of (e : ∀ a i, a ≠ 72 → a ≠ 73 → a ≠ 79 → a ≠ 80 → (a ≠ 67 ∨ i ≠ 6 ∧ i ≠ 22) → w' a i = w a i) : ∀ a, a ≤ 66 → w' a = w a := fun a ha => by funext i; exact e a i (by omega) (by omega) (by omega) (by omega) (by omega)
theorem aPu_at {e : Sc × Int} {i : Nat} (h : i < (aPu H e).length) : hH (aPu H e) i = e ∨ ∃ k, k < H.length ∧ hH (aPu H e) i = hH H k := by
  unfold aPu at *
  split at h
  · rename_i c
    rw [if_pos c]
    rw [List.length_append] at h
    have h' : i < (H.drop 1).length + 1 := h
    by_cases ci : i < (H.drop 1).length
    · rw [hH_lt ci, hH_drop]
      rw [List.length_drop] at ci
      exact Or.inr ⟨i + 1, by omega, rfl⟩
    · rw [show i = (H.drop 1).length by omega, hH_at]
      exact Or.inl rfl
  · rename_i c
    rw [if_neg c]
    rw [List.length_append] at h
    have h' : i < H.length + 1 := h
    by_cases ci : i < H.length
    · rw [hH_lt ci]
      exact Or.inr ⟨i, ci, rfl⟩
    · rw [show i = H.length by omega, hH_at]
      exact Or.inl rfl
theorem b_step : Both 79 126 [(0, x)] := by
  rintro w ⟨j, T, P, S, f, H, K, Q, hC, hM, hA⟩
  obtain ⟨h1, h2, h3, h4, h5, h6, h7, h8, h9, h10, h11, h12⟩ := id hC
  have hf := hA.2.2.1
  have hP4 := hA.1.2.1
  by_cases c : (0 ≤ x ∧ x < P 0 6) ∧ S.1 (13 + x) = 0
  · obtain ⟨w1, q1, q2, q3, q4, q5, q6⟩ := r_step1 (d := 5) h1 h3 h4 hA.1 hA.2.1 h6 h8 (by rw [h7]; exact hf) c.1 c.2
    rw [h7] at q1 q2 q3 q4
    have hC1 := hC.sc q2 q3 q4 q5 q6
    have hM1 := hM.at (hi_of q6)
    obtain ⟨g1, g2, g3, g4, g5, g6, g7⟩ := id hM1
    obtain ⟨w2, s1, s2, s3, s4, s5⟩ := m_step1 (d := 5) hA.1 hA.2.1 g3 g1 g5 (by rw [g4]; exact hf) c.1 c.2
    rw [g4] at s1 s2 s3 s4
    refine ⟨_, w1, w2, q1, s1, j, T, P, _, _, _, K, Q, hC1.at (lo_of s5), hM1.sc s2 s3 s4 s5, hA.1, WS.act hA.2.1 hA.1 c.1.1 (by omega) c.2, sAct_w hf, hA.2.2.2.1, hA.2.2.2.2.1, fun i hi => ?_, hA.2.2.2.2.2.2⟩
    rcases aPu_at hi with z | ⟨k, hk, z⟩
    · rw [z]
      exact ⟨hA.2.1, hf⟩
    · rw [z]
      exact hA.2.2.2.2.2.1 k hk
  · have c' : ¬ (0 ≤ x ∧ x < P 0 6) ∨ S.1 (13 + x) ≠ 0 := by
      by_cases c1 : 0 ≤ x ∧ x < P 0 6
      · exact Or.inr (fun z => c ⟨c1, z⟩)
      · exact Or.inl c1
    exact ⟨_, w, w, r_step0 (d := 5) h1 h3 h4 hA.1 hA.2.1.1 h6 c', m_step0 (d := 5) hA.1 hM.2.2.1 hM.1 c', j, T, P, S, f, H, K, Q, hC, hM, hA⟩
theorem b_undo : Both 80 127 [] := by
  rintro w ⟨j, T, P, S, f, H, K, Q, hC, hM, hA⟩
  obtain ⟨h1, h2, h3, h4, h5, h6, h7, h8, h9, h10, h11, h12⟩ := id hC
  rcases List.eq_nil_or_concat H with rfl | ⟨H', e, rfl⟩
  · exact ⟨_, w, w, r_undo0 (d := 7) h8, m_undo0 (d := 9) hM.2.2.2.2.1, j, T, P, S, f, [], K, Q, hC, hM, hA⟩
  · rw [List.concat_eq_append] at *
    have hl : H'.length < (H' ++ [e]).length := by simp
    have he := hA.2.2.2.2.2.1 H'.length hl
    rw [hH_at] at he
    obtain ⟨w1, q1, q2, q3, q4, q5, q6⟩ := r_undo1 (d := 7) hA.1 he.1.1 h8
    have q6' : ∀ a i, (a < 19 ∨ 29 < a) → a ≠ 31 → a ≠ 32 → a ≠ 33 → (a ≠ 41 ∨ i ≠ 7) → w1 a i = w a i := fun a i z1 _ _ _ z2 => q6 a i z1 z2
    have hC1 := hC.sc q3 q4 q2 q5 q6'
    have hM1 := hM.at (hi_of q6')
    obtain ⟨w2, s1, s2, s3, s4, s5⟩ := m_undo1 (d := 9) hA.1 he.1.1 hM1.2.2.2.2.1
    have s5' : ∀ a i, a ≠ 72 → a ≠ 73 → a ≠ 79 → a ≠ 80 → (a ≠ 67 ∨ i ≠ 6 ∧ i ≠ 22) → w2 a i = w1 a i := fun a i z1 z2 _ _ z3 => s5 a i z1 z2 z3
    refine ⟨_, w1, w2, q1, s1, j, T, P, _, _, _, K, Q, hC1.at (lo_of s5'), hM1.sc s2 s3 s4 s5', hA.1, he.1, he.2, hA.2.2.2.1, hA.2.2.2.2.1, fun i hi => ?_, hA.2.2.2.2.2.2⟩
    have := hA.2.2.2.2.2.1 i (by omega)
    rw [hH_lt hi] at this
    exact this
end Z2
