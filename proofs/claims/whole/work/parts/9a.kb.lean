section Z3
variable {d : Nat} {w w' : zW} {j x y : Int} {T T' : List Int} {P : Pg} {S : Sc} {f : Int} {H : Hs} {K : Kp} {Q Q' : Sg}
def kUp (K : Kp) (x : Int) (e : Sc × Int) : Kp := fun z => if z = x then some e else K z
theorem kUp_eq {e : Sc × Int} : kUp K x e x = some e := if_pos rfl
theorem kUp_ne {e : Sc × Int} {z : Int} (h : z ≠ x) : kUp K x e z = K z := if_neg h
theorem b_keep : Both 88 142 [(0, x)] := by
  rintro w ⟨j, T, P, S, f, H, K, Q, hC, hM, hA⟩
  obtain ⟨h1, h2, h3, h4, h5, h6, h7, h8, h9, h10, h11, h12⟩ := id hC
  by_cases c : 0 ≤ x ∧ x < 2
  · have q1 := r_keep1 (d := 8) c h1 h3 h4 hA.1 hA.2.1.1 h6
    rw [h7] at q1
    obtain ⟨w1, e1⟩ : ∃ w1, zup (zup (zup w 35 x (packC S)) 36 x f) 37 x 1 = w1 := ⟨_, rfl⟩
    rw [e1] at q1
    have F1 : ∀ a, a < 35 ∨ 37 < a → w1 a = w a := fun a ha => by rw [← e1, zup_ne (by omega), zup_ne (by omega), zup_ne (by omega)]
    have K1 : CKp w1 (kUp K x (S, f)) := fun z z0 z2 => by
      by_cases cz : z = x
      · subst cz
        refine ⟨fun y => ?_, fun e he => ?_⟩
        · rw [kUp_eq] at y
          cases y
        · rw [kUp_eq] at he
          cases he
          rw [← e1]
          exact ⟨zup_self .., by rw [zup_ne (by omega), zup_ne (by omega), zup_self], by rw [zup_ne (by omega), zup_self]⟩
      · rw [kUp_ne cz]
        have := h9 z z0 z2
        rw [← e1, zup_off _ (by omega), zup_off _ (by omega), zup_off _ (by omega), zup_off _ (by omega), zup_off _ (by omega), zup_off _ (by omega), zup_off _ (by omega), zup_off _ (by omega), zup_off _ (by omega)]
        exact this
    have hC1 : CTop w1 j T P S f H (kUp K x (S, f)) Q := ⟨by rw [F1 0 (by omega)]; exact h1, by rw [F1 0 (by omega)]; exact h2, h3, h4.at (fun a _ _ => F1 a (by omega)), h5.at (by rw [F1 0 (by omega)]) (F1 1 (by omega)), h6.at (fun a _ _ => F1 a (by omega)), by rw [F1 19 (by omega)]; exact h7, h8.at (fun a _ _ => F1 a (by omega)), K1, h10.at (fun a _ _ => F1 a (by omega)), KS.at h11 (fun a _ _ => F1 a (by omega)), by rw [F1 55 (by omega)]; exact h12⟩
    have hM1 : MTop w1 T P S f H K Q := hM.at (fun a ha => F1 a (by omega))
    obtain ⟨g1, g2, g3, g4, g5, g6, g7⟩ := id hM1
    have s1 := m_keep1 (d := 9) c hA.1 hA.2.1.1 g3 g1
    rw [g4] at s1
    obtain ⟨w2, e2⟩ : ∃ w2, zup (zup (zup w1 89 x (packR (P 0 6) S)) 90 x f) 91 x 1 = w2 := ⟨_, rfl⟩
    rw [e2] at s1
    have F2 : ∀ a, a < 89 → w2 a = w1 a := fun a ha => by rw [← e2, zup_ne (by omega), zup_ne (by omega), zup_ne (by omega)]
    have K2 : MKp w2 (P 0 6) (kUp K x (S, f)) := fun z z0 z2 => by
      by_cases cz : z = x
      · subst cz
        refine ⟨fun y => ?_, fun e he => ?_⟩
        · rw [kUp_eq] at y
          cases y
        · rw [kUp_eq] at he
          cases he
          rw [← e2]
          exact ⟨zup_self .., by rw [zup_ne (by omega), zup_ne (by omega), zup_self], by rw [zup_ne (by omega), zup_self]⟩
      · rw [kUp_ne cz]
        have := g6 z z0 z2
        rw [← e2, zup_off _ (by omega), zup_off _ (by omega), zup_off _ (by omega), zup_off _ (by omega), zup_off _ (by omega), zup_off _ (by omega), zup_off _ (by omega), zup_off _ (by omega), zup_off _ (by omega)]
        exact this
    refine ⟨_, w1, w2, q1, s1, j, T, P, S, f, H, _, Q, hC1.at (fun a ha => F2 a (by omega)), ?_, hA.1, hA.2.1, hA.2.2.1, hA.2.2.2.1, hA.2.2.2.2.1, hA.2.2.2.2.2.1, fun z e he => ?_⟩
    · refine ⟨?_, ?_, g3.at (F2 72 (by omega)), by rw [F2 67 (by omega)]; exact g4, ?_, K2, ?_⟩
      · unfold PO at *
        rw [F2 67 (by omega), F2 68 (by omega), F2 69 (by omega), F2 70 (by omega), F2 71 (by omega)]
        exact g1
      · unfold MX0 at *
        rw [F2 67 (by omega), F2 74 (by omega)]
        exact g2
      · unfold MPa at *
        rw [F2 67 (by omega), F2 79 (by omega), F2 80 (by omega)]
        exact g5
      · unfold MSg at *
        rw [F2 67 (by omega), F2 88 (by omega)]
        exact g7
    · by_cases cz : z = x
      · rw [cz, kUp_eq] at he
        cases he
        exact ⟨hA.2.1, hA.2.2.1⟩
      · rw [kUp_ne cz] at he
        exact hA.2.2.2.2.2.2 z e he
  · exact ⟨_, w, w, r_keep0 (d := 8) c, m_keep0 (d := 9) c, j, T, P, S, f, H, K, Q, hC, hM, hA⟩
theorem b_back : Both 89 143 [(0, x)] := by
  rintro w ⟨j, T, P, S, f, H, K, Q, hC, hM, hA⟩
  obtain ⟨h1, h2, h3, h4, h5, h6, h7, h8, h9, h10, h11, h12⟩ := id hC
  by_cases c : 0 ≤ x ∧ x < 2
  · have k1 := h9 x c.1 c.2
    have k2 := hM.2.2.2.2.2.1 x c.1 c.2
    cases ek : K x with
    | none => exact ⟨_, w, w, r_back1 (d := 8) c (k1.1 ek), m_back1 (d := 9) c (k2.1 ek), j, T, P, S, f, H, K, Q, hC, hM, hA⟩
    | some e =>
      obtain ⟨a1, a2, a3⟩ := k1.2 e ek
      obtain ⟨b1, b2, b3⟩ := k2.2 e ek
      have he := hA.2.2.2.2.2.2 x e ek
      obtain ⟨w1, q1, q2, q3, q4, q5, q6⟩ := r_back2 (d := 8) c h1 h3 h4 hA.1 he.1.1 h8 a2 a1
      rw [a3] at q4
      have q6' : ∀ a i, (a < 19 ∨ 29 < a) → a ≠ 31 → a ≠ 32 → a ≠ 33 → (a ≠ 41 ∨ i ≠ 7) → w1 a i = w a i := fun a i z1 _ _ _ z2 => q6 a i z1 z2
      have hC1 := hC.sc q3 q4 q2 q5 q6'
      have F := hi_of q6'
      have hM1 := hM.at F
      obtain ⟨w2, s1, s2, s3, s4, s5⟩ := m_back2 (d := 9) (w := w1) c hA.1 he.1.1 hM1.1 (by rw [F 89 (by omega)]; exact b2) (by rw [F 91 (by omega)]; exact b1)
      rw [F 90 (by omega), b3] at s3
      have s5' : ∀ a i, a ≠ 72 → a ≠ 73 → a ≠ 79 → a ≠ 80 → (a ≠ 67 ∨ i ≠ 6 ∧ i ≠ 22) → w2 a i = w1 a i := fun a i z1 z2 _ _ z3 => s5 a i z1 z2 z3
      exact ⟨_, w1, w2, q1, s1, j, T, P, _, _, _, K, Q, hC1.at (lo_of s5'), hM1.sc s2 s3 s4 s5', hA.1, he.1, he.2, hA.2.2.2.1, hA.2.2.2.2.1, fun i hi => absurd hi (Nat.not_lt_zero _), hA.2.2.2.2.2.2⟩
  · exact ⟨_, w, w, r_back0 (d := 8) c, m_back0 (d := 9) c, j, T, P, S, f, H, K, Q, hC, hM, hA⟩
theorem AG.new (hP : WP P) : AG [] P (sBg P) 0 [] (fun _ => none) [] := ⟨hP, WS.bg hP, by decide, ⟨by simp, fun z hz => absurd hz List.not_mem_nil⟩, ⟨by simp, fun i hi => absurd hi (Nat.not_lt_zero _)⟩, fun i hi => absurd hi (Nat.not_lt_zero _), fun z e he => by cases he⟩
theorem MTo.top (h : MTo w P) : MTop w [] P (sBg P) 0 [] (fun _ => none) [] := by
  obtain ⟨h1, h2, h3, h4, h5, h6, h7, h8⟩ := h
  refine ⟨h1, ⟨h4, fun i hi => absurd hi (Nat.not_lt_zero _)⟩, h2, h3, ⟨h5, by simp, fun i hi => absurd hi (Nat.not_lt_zero _)⟩, fun z z0 z2 => ⟨fun _ => ?_, fun e he => by cases he⟩, ⟨h6, fun i hi => absurd hi (Nat.not_lt_zero _)⟩⟩
  rcases (by omega : z = 0 ∨ z = 1) with rfl | rfl
  · exact h7
  · exact h8
theorem b_threads : Both 75 122 [] := by
  rintro w ⟨j, T, P, S, f, H, K, Q, hC, hM, hA⟩
  obtain ⟨h1, h2, h3, h4, h5, h6, h7, h8, h9, h10, h11, h12⟩ := id hC
  obtain ⟨hT1, hT2⟩ := hA.2.2.2.1
  have hj : isT (11 - j) := by omega
  have hD : TO w (11 - j) (fun a i => w (11 - j + a) i) := fun a _ _ i => rfl
  obtain ⟨D, eD⟩ : ∃ D : Pg, (fun a i => w (11 - j + a) i) = D := ⟨_, rfl⟩
  rw [eD] at hD
  by_cases c : (aText T D).1 < 0
  · obtain ⟨w1, q1, q2⟩ := r_threads0 (d := 1) h2 hj hD h5 hT1 hT2 c
    have e' : ∀ a, a = 0 ∨ a = 1 ∨ (j ≤ a ∧ a ≤ j + 6) ∨ 18 < a → w1 a = w a := fun a ha => by funext i; exact q2 a i (by omega) (by omega)
    have hC1 : CTop w1 j T P S f H K Q := ⟨by rw [e' 0 (by omega)]; exact h1, by rw [e' 0 (by omega)]; exact h2, h3, h4.at (fun a _ _ => e' a (by omega)), h5.at (by rw [e' 0 (by omega)]) (e' 1 (by omega)), h6.at (fun a _ _ => e' a (by omega)), by rw [e' 19 (by omega)]; exact h7, h8.at (fun a _ _ => e' a (by omega)), h9.at (fun a _ _ => e' a (by omega)), h10.at (fun a _ _ => e' a (by omega)), KS.at h11 (fun a _ _ => e' a (by omega)), by rw [e' 55 (by omega)]; exact h12⟩
    have hM1 : MTop w1 T P S f H K Q := hM.at (fun a ha => e' a (by omega))
    obtain ⟨w2, s1, s2⟩ := (m_threads (d := 4) D hT1 hT2 hM1.2.1).1 c
    have F : ∀ a, a ≠ 67 → (a < 75 ∨ 78 < a) → w2 a = w1 a := fun a ha hb => by funext i; exact s2 a i (Or.inl ha) hb
    have F7 : ∀ i, (i < 10 ∨ 15 < i) → w2 67 i = w1 67 i := fun i hi => s2 67 i (by omega) (by omega)
    refine ⟨_, w1, w2, q1, s1, j, T, P, S, f, H, K, Q, hC1.at (fun a ha => F a (by omega) (by omega)), ?_, hA⟩
    unfold MTop PO MX0 RS MPa MKp MSg at *
    rw [F7 1 (by omega), F7 9 (by omega), F7 6 (by omega), F7 22 (by omega), F7 39 (by omega), F 68 (by omega) (by omega), F 69 (by omega) (by omega), F 70 (by omega) (by omega), F 71 (by omega) (by omega), F 72 (by omega) (by omega), F 74 (by omega) (by omega), F 79 (by omega) (by omega), F 80 (by omega) (by omega), F 88 (by omega) (by omega), F 89 (by omega) (by omega), F 90 (by omega) (by omega), F 91 (by omega) (by omega)]
    exact hM1
  · have c' : 0 ≤ (aText T D).1 := by omega
    obtain ⟨w1, q1, v1, v2, v3, v4, v5, v6, v7, v8, v9, v10, v11, v12⟩ := r_threads1 (d := 1) (by rw [h1]; omega) h2 hj hD h5 hT1 hT2 h8 c'
    have F1 : ∀ a, 41 < a → w1 a = w a := fun a ha => by funext i; exact v12 a i ha
    have hC1 : CTop w1 (11 - j) [] (aText T D).2.2 (sBg (aText T D).2.2) 0 [] (fun _ => none) [] := by
      refine ⟨v1, v2, hj, v4, ⟨v3, fun i hi => absurd hi (Nat.not_lt_zero _)⟩, v5, v6, v7, fun z z0 z2 => ⟨fun _ => ?_, fun e he => by cases he⟩, ⟨v10, fun i hi => absurd hi (Nat.not_lt_zero _)⟩, Or.inr v11, by rw [F1 55 (by omega)]; exact h12⟩
      rcases (by omega : z = 0 ∨ z = 1) with rfl | rfl
      · exact v8
      · exact v9
    have hM1 : MTop w1 T P S f H K Q := hM.at (fun a ha => F1 a (by omega))
    obtain ⟨w2, s1, s2, s3⟩ := (m_threads (d := 4) D hT1 hT2 hM1.2.1).2 c'
    exact ⟨_, w1, w2, q1, s1, _, _, _, _, _, _, _, _, hC1.at (fun a ha => by funext i; exact s3 a i (by omega)), s2.top, AG.new (aText_wd T D).1⟩
end Z3
