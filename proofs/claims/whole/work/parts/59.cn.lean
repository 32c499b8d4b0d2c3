section T3
variable {d : Nat} {w : zW} {n p : Int} {S : Sc} {P : Pg} {L : BL} {a : Int → Int} {Q : Sg} {c1 c2 : Int}
theorem eD_nn (hL : LG P L) (i : Nat) : 0 ≤ eD L i := by
  by_cases h : i < L.length
  · exact (hL.dp i h).1
  · unfold eD
    rw [List.getD_eq_getElem?_getD, List.getElem?_eq_none (by omega)]
    decide
theorem m_cend {i : Nat} {b : Int → Int} (hP : WP P) (hW : WS0 P S) (hL : LG P L) (hi : i < L.length) (hR : RS w (P 0 6) S) (hO : PO w P) (hM : ML w (P 0 6) L) (hQ : QG Q) (hG : MSg w Q) (hA : MW w L b c1 c2) (hE : bEnd S) (b0 : 0 ≤ b 0 ∧ b 0 ≤ i) (b1 : 0 ≤ b 1 ∧ b 1 ≤ i) (b4 : w32 (b 4) = b 4) (bj : b 1 ≠ 0 → 0 ≤ b 3) (k1 : 0 ≤ c1 ∧ c1 ≤ i) (k2 : 0 ≤ c2 ∧ c2 ≤ i) : ∃ w', Cl (d + 2) 133 [(2, 67), (0, (i : Int))] 92 w = some ((9, 0), 92, w') ∧ MW w' L (if bEnd S ∧ ¬ bDn S then aWk S i (aWe S i b) else aWe S i b) (c1 + (if bEnd S ∧ fF Q S Q.length = 1 then 1 else 0)) (c2 + (if (bEnd S ∧ ¬ bDn S) ∧ fF Q S Q.length = 1 then 1 else 0)) ∧ FC w w' := by
  have zo67 := zo_67; have zo72 := zo_72; have zl72 := zl_72
  have hl := hL.1
  obtain ⟨m0, m1, m2, m3, m4, m5, m6, m7⟩ := hA
  have e84 := (hM.2.1 i hi).2.2.2
  have hst := m_isStuck (d := d) hP hW hR hO
  have hse := m_seen (d := d + 1) hQ hG hR
  have hff := fF_in Q S Q.length
  obtain ⟨w1, q0, q1, q2, q3, q4, q5, q6, q7⟩ := m_ce_a (d := d) (i := i) (w := w) (s := if bEnd S ∧ ¬ bDn S then 1 else 0) (f := fF Q S Q.length) (by split <;> simp) hff (by omega) hst hse (by omega) (by omega) (by omega) (by omega)
  have F1 : FC w w1 := fun b j h1 h2 h3 => q7 b j (by omega)
  have R1 := F1.rs hR
  have s0 := m_ce_b (d := d + 2) (i := i) (s := if bEnd S ∧ ¬ bDn S then 1 else 0) (f := fF Q S Q.length) (p := 0) R1 (by omega)
  obtain ⟨w2, e2⟩ : ∃ w2, zup w1 86 0 (z_or (w1 86 0) (z_shl 1 (S.1 0))) = w2 := ⟨_, rfl⟩
  have F2 : FC w1 w2 := by rw [← e2]; exact fun b j h1 h2 h3 => zup_off _ (by omega)
  rw [e2] at s0
  have s1 := m_ce_b (d := d + 2) (i := i) (s := if bEnd S ∧ ¬ bDn S then 1 else 0) (f := fF Q S Q.length) (p := 1) (F2.rs R1) (by omega)
  obtain ⟨w3, e3⟩ : ∃ w3, zup w2 86 1 (z_or (w2 86 1) (z_shl 1 (S.1 1))) = w3 := ⟨_, rfl⟩
  have F3 : FC w1 w3 := F2.tr (by rw [← e3]; exact fun b j h1 h2 h3 => zup_off _ (by omega))
  rw [e3] at s1
  have s2 := m_ce_b (d := d + 2) (i := i) (s := if bEnd S ∧ ¬ bDn S then 1 else 0) (f := fF Q S Q.length) (p := 2) (F3.rs R1) (by omega)
  obtain ⟨w4, e4⟩ : ∃ w4, zup w3 86 2 (z_or (w3 86 2) (z_shl 1 (S.1 2))) = w4 := ⟨_, rfl⟩
  have F4 : FC w w4 := (F1.tr F3).tr (by rw [← e4]; exact fun b j h1 h2 h3 => zup_off _ (by omega))
  rw [e4] at s2
  have o4 : ∀ b j, b ≠ 86 → w4 b j = w1 b j := fun b j h => by rw [← e4, zup_off _ (Or.inl h), ← e3, zup_off _ (Or.inl h), ← e2, zup_off _ (Or.inl h)]
  have x0 : w4 86 0 = z_or (b 5) (z_shl 1 (S.1 0)) := by
    rw [← e4, zup_off _ (by omega), ← e3, zup_off _ (by omega), ← e2, zup_self, q7 86 0 (by omega), (m7 0 (by omega) (by omega)).1]; rfl
  have x1 : w4 86 1 = z_or (b 6) (z_shl 1 (S.1 1)) := by
    rw [← e4, zup_off _ (by omega), ← e3, zup_self, ← e2, zup_off _ (by omega), q7 86 1 (by omega), (m7 1 (by omega) (by omega)).1]; rfl
  have x2 : w4 86 2 = z_or (b 7) (z_shl 1 (S.1 2)) := by
    rw [← e4, zup_self, ← e3, zup_off _ (by omega), ← e2, zup_off _ (by omega), q7 86 2 (by omega), (m7 2 (by omega) (by omega)).1]; rfl
  have ebk : Rn (d + 2) 133 128 [(2, 67), (0, (i : Int)), (0, if bEnd S ∧ ¬ bDn S then 1 else 0), (0, fF Q S Q.length), (0, 3)] [] 92 w4 = Rn (d + 2) 133 164 [(2, 67), (0, (i : Int)), (0, if bEnd S ∧ ¬ bDn S then 1 else 0), (0, fF Q S Q.length), (0, 0)] [] 92 w4 := by
    simp (disch := first | assumption | omega | (simp only [zcat_0, zcat_i, zcat_l, zcat_r, zcat_t]; omega) | simp) only [e_X8_countEnd_128, e_X8_countEnd_130, e_X8_countEnd_131, e_X8_countEnd_161, e_X8_countEnd_162, zpush_i, zpush_l, zpush_v, Option.bind_some, ↓if_pos, ↓if_neg, Int.reduceAdd, w32_id]
  have hd := q0.trans ((s0.trans (s1.trans s2)).trans ebk)
  have E31 : w1 67 31 = eD L (if b 0 = 0 then (i : Int) else b 2).toNat := by
    rw [q3, m2]
    by_cases z : b 0 = 0
    · rw [if_pos z, if_pos z, if_pos (by omega), e84]; rfl
    · have := eD_nn hL (b 2).toNat
      rw [if_neg z, if_neg z, if_neg (by omega)]
  have E36 : w1 67 36 = c1 + (if bEnd S ∧ fF Q S Q.length = 1 then 1 else 0) := by
    rw [q5, m5]
    rcases hff with z | z
    · rw [if_neg (fun y => by omega), z]
    · rw [if_pos ⟨hE, z⟩, z]
  by_cases hs : bEnd S ∧ ¬ bDn S
  · simp only [if_pos hs] at hd q2 q4 q6 ⊢
    obtain ⟨w5, g1, g2, g3⟩ := m_ce_s (d := d + 2) (i := i) (f := fF Q S Q.length) (x := b 4) hP hW b4 (P 0 6).toNat 0 w4 (by have := hP.1; omega) (F4.rs hR) (F4.po hO) (by rw [o4 67 35 (by omega), q7 67 35 (by omega), m4]; rfl)
    refine ⟨w5, hd.trans g1, ?_, F4.tr (fun b j h1 h2 h3 => g3 b j (by omega))⟩
    unfold aWk aWe
    refine ⟨?_, ?_, ?_, ?_, ?_, ?_, ?_, fun p h0 h3 => ⟨?_, ?_⟩⟩
    · rw [g3 _ _ (by omega), o4 _ _ (by omega), q1, m0]; simp (disch := omega) only [su_ne, su_self]
    · rw [g3 _ _ (by omega), o4 _ _ (by omega), q2, m1]; simp (disch := omega) only [su_ne, su_self]
    · rw [g3 _ _ (by omega), o4 _ _ (by omega), E31]; simp (disch := omega) only [su_ne, su_self, if_neg (show ¬ b 0 + 1 = 0 by omega)]
    · rw [g3 _ _ (by omega), o4 _ _ (by omega), q4, m3]
      simp (disch := omega) only [su_ne, su_self, if_neg (show ¬ b 1 + 1 = 0 by omega)]
      by_cases z : b 1 = 0
      · rw [if_pos z, if_pos z, if_pos ⟨trivial, by decide⟩]
      · have := bj z
        rw [if_neg z, if_neg z, if_neg (fun y => by have := y.2; omega)]
    · rw [g2]; simp (disch := omega) only [su_ne, su_self]; rfl
    · rw [g3 _ _ (by omega), o4 _ _ (by omega), E36]
    · rw [g3 _ _ (by omega), o4 _ _ (by omega), q6, m6]
      congr 1
      rcases hff with z | z
      · rw [if_neg (fun y => by omega), if_neg (fun y => by omega)]
      · rw [if_pos ⟨trivial, z⟩, if_pos ⟨hs, z⟩]
    · rw [g3 _ _ (by omega)]
      have : p = 0 ∨ p = 1 ∨ p = 2 := by omega
      rcases this with rfl | rfl | rfl
      · rw [x0]; simp (disch := omega) only [su_ne, su_self, Int.reduceAdd]
      · rw [x1]; simp (disch := omega) only [su_ne, su_self, Int.reduceAdd]
      · rw [x2]; simp (disch := omega) only [su_ne, su_self, Int.reduceAdd]
    · rw [g3 _ _ (by omega), o4 _ _ (by omega), q7 87 p (by omega), (m7 p h0 h3).2]; simp (disch := omega) only [su_ne]
  · simp only [if_neg hs] at hd q2 q4 q6 ⊢
    have e1 := (F4.po hO).1
    have hP1 := hP.1
    refine ⟨w4, ?_, ?_, F4⟩
    · rw [hd]
      by_cases z : P 0 6 = 0
      · simp (disch := first | assumption | omega | (simp only [zcat_0, zcat_i, zcat_l, zcat_r, zcat_t]; omega) | simp) only [e_X8_countEnd_164, e_X8_countEnd_166, e_X8_countEnd_167, e_X8_countEnd_170, e_X8_countEnd_173, e_X8_countEnd_174, e_X8_countEnd_215, zpush_i, zpush_l, zpush_v, Option.bind_some, ↓if_pos, ↓if_neg, Int.reduceAdd, w32_id, e1]
      · simp (disch := first | assumption | omega | (simp only [zcat_0, zcat_i, zcat_l, zcat_r, zcat_t]; omega) | simp) only [e_X8_countEnd_164, e_X8_countEnd_166, e_X8_countEnd_167, e_X8_countEnd_170, e_X8_countEnd_173, e_X8_countEnd_174, e_X8_countEnd_215, zpush_i, zpush_l, zpush_v, Option.bind_some, ↓if_pos, ↓if_neg, Int.reduceAdd, w32_id, e1]
    · unfold aWe
      refine ⟨?_, ?_, ?_, ?_, ?_, ?_, ?_, fun p h0 h3 => ⟨?_, ?_⟩⟩
      · rw [o4 _ _ (by omega), q1, m0]; simp (disch := omega) only [su_ne, su_self]
      · rw [o4 _ _ (by omega), q2, m1]; simp (disch := omega) only [su_ne, su_self, Int.add_zero]
      · rw [o4 _ _ (by omega), E31]; simp (disch := omega) only [su_ne, su_self, if_neg (show ¬ b 0 + 1 = 0 by omega)]
      · rw [o4 _ _ (by omega), q4, m3, if_neg (by omega)]; simp (disch := omega) only [su_ne, su_self]
      · rw [o4 _ _ (by omega), q7 67 35 (by omega), m4]; simp (disch := omega) only [su_ne, su_self]
      · rw [o4 _ _ (by omega), E36]
      · rw [o4 _ _ (by omega), q6, m6, if_neg (by omega), if_neg (fun y => hs y.1)]
      · have : p = 0 ∨ p = 1 ∨ p = 2 := by omega
        rcases this with rfl | rfl | rfl
        · rw [x0]; simp (disch := omega) only [su_ne, su_self, Int.reduceAdd]
        · rw [x1]; simp (disch := omega) only [su_ne, su_self, Int.reduceAdd]
        · rw [x2]; simp (disch := omega) only [su_ne, su_self, Int.reduceAdd]
      · rw [o4 _ _ (by omega), q7 87 p (by omega), (m7 p h0 h3).2]; simp (disch := omega) only [su_ne]
end T3
