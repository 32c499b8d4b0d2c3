section T4
variable {d : Nat} {w : zW} {n p : Int} {S : Sc} {P : Pg} {L : BL} {a : Int → Int} {Q : Sg} {c1 c2 y : Int}
theorem AJ.all (L : BL) : ∀ i : Nat, AJ (aWs L i) i
  | 0 => ⟨fun h => absurd rfl h, fun h => absurd rfl h⟩
  | i + 1 => by
    have ih := AJ.all L i
    have hI := AI.all L i
    have o : ∀ k, k < 8 → aWo (eS L i) (aWs L i) k = aWs L i k := fun k hk => by
      unfold aWo
      simp (disch := omega) only [su_ne]
    have e0 : AJ (aWb (eS L i) i (aWs L i)) (i + 1) := by
      unfold aWb
      split
      · unfold aWe
        constructor
        · intro _
          simp (disch := omega) only [su_ne, su_self]
          rw [o 0 (by omega), o 2 (by omega)]
          split
          · omega
          · next h => have := ih.1 h; omega
        · simp (disch := omega) only [su_ne]
          rw [o 1 (by omega), o 3 (by omega)]
          intro h
          have := ih.2 h
          omega
      · constructor
        · rw [o 0 (by omega), o 2 (by omega)]
          intro h
          have := ih.1 h
          omega
        · rw [o 1 (by omega), o 3 (by omega)]
          intro h
          have := ih.2 h
          omega
    rw [aWs]
    unfold aW
    split
    · unfold aWk
      constructor
      · simp (disch := omega) only [su_ne]
        exact e0.1
      · intro _
        simp (disch := omega) only [su_ne, su_self]
        split
        · omega
        · next h => exact e0.2 h
    · exact e0
theorem cF_in (Q : Sg) (L : BL) : ∀ i : Nat, 0 ≤ cF Q L i ∧ cF Q L i ≤ i
  | 0 => ⟨Int.le_refl 0, Int.le_refl 0⟩
  | i + 1 => by
    have := cF_in Q L i
    rw [cF]
    split <;> omega
theorem cK_in (Q : Sg) (L : BL) : ∀ i : Nat, 0 ≤ cK Q L i ∧ cK Q L i ≤ i
  | 0 => ⟨Int.le_refl 0, Int.le_refl 0⟩
  | i + 1 => by
    have := cK_in Q L i
    rw [cK]
    split <;> omega
theorem m_co1 {i : Nat} {P' : Pg} (hP : WP P') (hW : WS0 P' S) (hR : RS w n S) (hp : 0 ≤ p ∧ p < 3) : Rn d 134 101 [(2, 67), (1, y), (9, 0), (0, (i : Int)), (0, p)] [] 92 w = Rn d 134 101 [(2, 67), (1, y), (9, 0), (0, (i : Int)), (0, p + 1)] [] 92 (zup w 87 p (z_or (w 87 p) (oB S p))) := by
  have zo67 := zo_67; have zo72 := zo_72; have zl72 := zl_72; have zo87 := zo_87; have zl87 := zl_87
  have c := hR.1 (3 + p) (by omega) (by omega)
  obtain ⟨p1, p2, p3, p4, p5⟩ := hW.1 p hp.1 hp.2
  have hP4 := hP.2.1
  rw [e_X8_counts_101]
  unfold oB
  by_cases h : S.1 (3 + p) = 0
  · rw [if_pos h]
    rw [h] at c
    simp (disch := first | assumption | omega | (simp only [zcat_0, zcat_i, zcat_l, zcat_r, zcat_t]; omega) | simp) only [e_X8_counts_103, e_X8_counts_104, e_X8_counts_107, e_X8_counts_108, e_X8_counts_111, e_X8_counts_113, e_X8_counts_114, e_X8_counts_115, e_X8_counts_116, e_X8_counts_119, e_X8_counts_120, e_X8_counts_122, e_X8_counts_123, e_X8_counts_124, e_X8_counts_127, e_X8_counts_128, e_X8_counts_131, e_X8_counts_132, e_X8_counts_133, e_X8_counts_136, e_X8_counts_137, e_X8_counts_139, e_X8_counts_140, e_X8_counts_141, e_X8_counts_142, e_X8_counts_143, e_X8_counts_144, e_X8_counts_145, e_X8_counts_146, e_X8_counts_149, zpush_i, zpush_l, zpush_v, Option.bind_some, ↓if_pos, ↓if_neg, Int.reduceAdd, w32_id, c]
  · rw [if_neg h]
    simp (disch := first | assumption | omega | (simp only [zcat_0, zcat_i, zcat_l, zcat_r, zcat_t]; omega) | simp) only [e_X8_counts_103, e_X8_counts_104, e_X8_counts_107, e_X8_counts_108, e_X8_counts_111, e_X8_counts_113, e_X8_counts_114, e_X8_counts_115, e_X8_counts_116, e_X8_counts_119, e_X8_counts_120, e_X8_counts_122, e_X8_counts_123, e_X8_counts_124, e_X8_counts_127, e_X8_counts_128, e_X8_counts_131, e_X8_counts_132, e_X8_counts_133, e_X8_counts_136, e_X8_counts_137, e_X8_counts_139, e_X8_counts_140, e_X8_counts_141, e_X8_counts_142, e_X8_counts_143, e_X8_counts_144, e_X8_counts_145, e_X8_counts_146, e_X8_counts_149, zpush_i, zpush_l, zpush_v, Option.bind_some, ↓if_pos, ↓if_neg, Int.reduceAdd, w32_id, c]
theorem m_co {i : Nat} {P' : Pg} (hP : WP P') (hW : WS0 P' S) (hR : RS w n S) (hA : MW w L a c1 c2) : ∃ w', Rn d 134 101 [(2, 67), (1, y), (9, 0), (0, (i : Int)), (0, 0)] [] 92 w = Rn d 134 152 [(2, 67), (1, y), (9, 0), (0, (i : Int)), (0, 3)] [] 92 w' ∧ MW w' L (aWo S a) c1 c2 ∧ FC w w' := by
  obtain ⟨m0, m1, m2, m3, m4, m5, m6, m7⟩ := hA
  have s0 := m_co1 (d := d) (y := y) (i := i) (p := 0) hP hW hR (by omega)
  obtain ⟨w1, e1⟩ : ∃ w1, zup w 87 0 (z_or (w 87 0) (oB S 0)) = w1 := ⟨_, rfl⟩
  have F1 : FC w w1 := by rw [← e1]; exact fun b j h1 h2 h3 => zup_off _ (by omega)
  rw [e1] at s0
  have s1 := m_co1 (d := d) (y := y) (i := i) (p := 1) hP hW (F1.rs hR) (by omega)
  obtain ⟨w2, e2⟩ : ∃ w2, zup w1 87 1 (z_or (w1 87 1) (oB S 1)) = w2 := ⟨_, rfl⟩
  have F2 : FC w w2 := F1.tr (by rw [← e2]; exact fun b j h1 h2 h3 => zup_off _ (by omega))
  rw [e2] at s1
  have s2 := m_co1 (d := d) (y := y) (i := i) (p := 2) hP hW (F2.rs hR) (by omega)
  obtain ⟨w3, e3⟩ : ∃ w3, zup w2 87 2 (z_or (w2 87 2) (oB S 2)) = w3 := ⟨_, rfl⟩
  have F3 : FC w w3 := F2.tr (by rw [← e3]; exact fun b j h1 h2 h3 => zup_off _ (by omega))
  rw [e3] at s2
  have o3 : ∀ b j, b ≠ 87 → w3 b j = w b j := fun b j h => by rw [← e3, zup_off _ (Or.inl h), ← e2, zup_off _ (Or.inl h), ← e1, zup_off _ (Or.inl h)]
  refine ⟨w3, (s0.trans (s1.trans s2)).trans ?_, ?_, F3⟩
  · simp (disch := first | assumption | omega | (simp only [zcat_0, zcat_i, zcat_l, zcat_r, zcat_t]; omega) | simp) only [e_X8_counts_101, e_X8_counts_103, e_X8_counts_104, zpush_i, zpush_l, zpush_v, Option.bind_some, ↓if_pos, ↓if_neg, Int.reduceAdd, w32_id]
  · unfold aWo
    refine ⟨?_, ?_, ?_, ?_, ?_, ?_, ?_, fun p h0 h3 => ⟨?_, ?_⟩⟩
    · rw [o3 _ _ (by omega)]; simp (disch := omega) only [su_ne]; exact m0
    · rw [o3 _ _ (by omega)]; simp (disch := omega) only [su_ne]; exact m1
    · rw [o3 _ _ (by omega)]; simp (disch := omega) only [su_ne]; exact m2
    · rw [o3 _ _ (by omega)]; simp (disch := omega) only [su_ne]; exact m3
    · rw [o3 _ _ (by omega)]; simp (disch := omega) only [su_ne]; exact m4
    · rw [o3 _ _ (by omega)]; exact m5
    · rw [o3 _ _ (by omega)]; exact m6
    · rw [o3 _ _ (by omega)]; simp (disch := omega) only [su_ne]; exact (m7 p h0 h3).1
    · have : p = 0 ∨ p = 1 ∨ p = 2 := by omega
      rcases this with rfl | rfl | rfl
      · rw [← e3, zup_off _ (by omega), ← e2, zup_off _ (by omega), ← e1, zup_self, (m7 0 (by omega) (by omega)).2]
        simp (disch := omega) only [su_ne, su_self, Int.reduceAdd]
      · rw [← e3, zup_off _ (by omega), ← e2, zup_self, ← e1, zup_off _ (by omega), (m7 1 (by omega) (by omega)).2]
        simp (disch := omega) only [su_ne, su_self, Int.reduceAdd]
      · rw [← e3, zup_self, ← e2, zup_off _ (by omega), ← e1, zup_off _ (by omega), (m7 2 (by omega) (by omega)).2]
        simp (disch := omega) only [su_ne, su_self, Int.reduceAdd]
theorem MW.fq {w' : zW} (h : MW w L a c1 c2) (hF : FQ w w') : MW w' L a c1 c2 := by
  have e : ∀ b, b ≠ 72 → b ≠ 73 → b ≠ 67 → w' b = w b := fun b h1 h2 h3 => by
    funext i
    exact hF b i h1 h2 (Or.inl h3)
  unfold MW
  rw [hF 67 29 (by omega) (by omega) (by omega), hF 67 30 (by omega) (by omega) (by omega), hF 67 31 (by omega) (by omega) (by omega), hF 67 32 (by omega) (by omega) (by omega), hF 67 35 (by omega) (by omega) (by omega), hF 67 36 (by omega) (by omega) (by omega), hF 67 37 (by omega) (by omega) (by omega), e 86 (by omega) (by omega) (by omega), e 87 (by omega) (by omega) (by omega)]
  exact h
theorem MSg.fq {w' : zW} (h : MSg w Q) (hF : FQ w w') : MSg w' Q := by
  have e : w' 88 = w 88 := by funext i; exact hF 88 i (by omega) (by omega) (by omega)
  unfold MSg
  rw [hF 67 39 (by omega) (by omega) (by omega), e]
  exact h
/-- of what a search and a count change -/
def FZ (w w' : zW) : Prop := ∀ b j, b ≠ 72 → b ≠ 73 → b ≠ 86 → b ≠ 87 → (b ≠ 67 ∨ j ≠ 6 ∧ (j < 29 ∨ 37 < j)) → w' b j = w b j
theorem FZ.rf : FZ w w := fun _ _ _ _ _ _ _ => rfl
theorem FZ.tr {w' w'' : zW} (h : FZ w w') (h' : FZ w' w'') : FZ w w'' := fun b j h1 h2 h3 h4 h5 => (h' b j h1 h2 h3 h4 h5).trans (h b j h1 h2 h3 h4 h5)
theorem FQ.z {w' : zW} (h : FQ w w') : FZ w w' := fun b j h1 h2 _ _ h5 => h b j h1 h2 (by omega)
theorem FC.z {w' : zW} (h : FC w w') : FZ w w' := fun b j _ _ h3 h4 h5 => h b j h3 h4 (by omega)
theorem m_ci (hP : WP P) (hL : LG P L) (hl : L.length ≤ 3000) (hQ : QG Q) : ∀ (u i : Nat) (w : zW) (v : zV), i + u = L.length → PO w P → ML w (P 0 6) L → MSg w Q → MW w L (aWs L i) (cF Q L i) (cK Q L i) → v.1 ≠ 1 → w32 (w 67 6) = w 67 6 → ∃ w' v', Rn (d + 3) 134 80 [(2, 67), (1, y), (9, 0), (0, (i : Int)), v] [] 92 w = Rn (d + 3) 134 170 [(2, 67), (1, y), (9, 0), (0, (L.length : Int)), v'] [] 92 w' ∧ ML w' (P 0 6) L ∧ MW w' L (aWs L L.length) (cF Q L L.length) (cK Q L L.length) ∧ FZ w w' ∧ w' 67 6 = w 67 6 := by
  have zo67 := zo_67; have zo81 := zo_81; have zl81 := zl_81
  intro u
  induction u with
  | zero =>
    intro i w v hi hO hM hG hA hv hf
    obtain rfl : i = L.length := by omega
    have e1 := hM.1
    refine ⟨w, v, ?_, hM, hA, FZ.rf, rfl⟩
    simp (disch := first | assumption | omega | (simp only [zcat_0, zcat_i, zcat_l, zcat_r, zcat_t]; omega) | simp) only [e_X8_counts_80, e_X8_counts_81, e_X8_counts_82, e_X8_counts_85, zpush_i, zpush_l, zpush_v, Option.bind_some, ↓if_pos, ↓if_neg, Int.reduceAdd, w32_id, e1]
  | succ u ih =>
    intro i w v hi hO hM hG hA hv hf
    have e1 := hM.1
    have hil : i < L.length := by omega
    have hW := hL.2.1 i hil
    obtain ⟨s1, -⟩ := hM.2.1 i hil
    obtain ⟨w1, q1, q2, q3, q4⟩ := m_open (d := d + 2) (w := w) hP hW.1
    obtain ⟨w2, r1, r2, r3⟩ := m_co (d := d + 3) (y := y) (i := i) hP hW.1 q2 (hA.fq q3)
    have R2 := r3.rs q2
    have O2 := r3.po (hO.fq q3)
    have M2 := r3.ml (hM.fq q3)
    have G2 := r3.sg (hG.fq q3)
    have he := m_isEnd (d := d + 2) hP hW.1 R2 O2
    have hI := AI.all L i
    have hJ := AJ.all L i
    have o : ∀ k, k < 8 → aWo (eS L i) (aWs L i) k = aWs L i k := fun k hk => by
      unfold aWo
      simp (disch := omega) only [su_ne]
    have ea : Rn (d + 3) 134 80 [(2, 67), (1, y), (9, 0), (0, (i : Int)), v] [] 92 w = Rn (d + 3) 134 101 [(2, 67), (1, y), (9, 0), (0, (i : Int)), (0, 0)] [] 92 w1 := by
      simp (disch := first | assumption | omega | (simp only [zcat_0, zcat_i, zcat_l, zcat_r, zcat_t]; omega) | simp) only [e_X8_counts_80, e_X8_counts_81, e_X8_counts_82, e_X8_counts_85, e_X8_counts_88, e_X8_counts_89, e_X8_counts_90, e_X8_counts_93, e_X8_counts_94, e_X8_counts_95, e_X8_counts_98, e_X8_counts_99, zpush_i, zpush_l, zpush_v, Option.bind_some, ↓if_pos, ↓if_neg, Int.reduceAdd, w32_id, e1, s1, q1]
    have eb : ∃ w3, Rn (d + 3) 134 152 [(2, 67), (1, y), (9, 0), (0, (i : Int)), (0, 3)] [] 92 w2 = Rn (d + 3) 134 80 [(2, 67), (1, y), (9, 0), (0, (i : Int) + 1), (0, 3)] [] 92 w3 ∧ MW w3 L (aWs L (i + 1)) (cF Q L (i + 1)) (cK Q L (i + 1)) ∧ FC w2 w3 := by
      rw [aWs, cF, cK]
      unfold aW aWb
      by_cases hE : bEnd (eS L i)
      · simp only [if_pos hE] at he ⊢
        obtain ⟨w3, u1, u2, u3⟩ := m_cend (d := d) (i := i) (b := aWo (eS L i) (aWs L i)) hP hW.1 hL hil R2 O2 M2 hQ G2 r2 hE (by rw [o 0 (by omega)]; exact ⟨hI.1, hI.2.1⟩) (by rw [o 1 (by omega)]; exact ⟨hI.2.2.1, hI.2.2.2.1⟩) ((hI.o (S := eS L i)).2.2.2.2 4 (by omega) (by omega)) (by rw [o 1 (by omega), o 3 (by omega)]; exact fun z => (hJ.2 z).1) (cF_in Q L i) (cK_in Q L i)
        refine ⟨w3, ?_, u2, u3⟩
        simp (disch := first | assumption | omega | (simp only [zcat_0, zcat_i, zcat_l, zcat_r, zcat_t]; omega) | simp) only [e_X8_counts_152, e_X8_counts_153, e_X8_counts_156, e_X8_counts_159, e_X8_counts_160, e_X8_counts_161, e_X8_counts_164, e_X8_counts_167, zpush_i, zpush_l, zpush_v, Option.bind_some, ↓if_pos, ↓if_neg, Int.reduceAdd, w32_id, he, u1]
      · simp only [if_neg hE] at he ⊢
        rw [if_neg (fun z => hE z.1), if_neg (fun z => hE z.1), if_neg (fun z => hE z.1.1), Int.add_zero, Int.add_zero]
        refine ⟨w2, ?_, r2, FC.rf⟩
        simp (disch := first | assumption | omega | (simp only [zcat_0, zcat_i, zcat_l, zcat_r, zcat_t]; omega) | simp) only [e_X8_counts_152, e_X8_counts_153, e_X8_counts_156, e_X8_counts_159, e_X8_counts_160, e_X8_counts_161, e_X8_counts_164, e_X8_counts_167, zpush_i, zpush_l, zpush_v, Option.bind_some, ↓if_pos, ↓if_neg, Int.reduceAdd, w32_id, he]
    obtain ⟨w3, u1, u2, u3⟩ := eb
    have f3 : w3 67 6 = w 67 6 := by rw [u3 67 6 (by omega) (by omega) (by omega), r3 67 6 (by omega) (by omega) (by omega), q4]
    obtain ⟨w4, v', g1, g2, g3, g4, g5⟩ := ih (i + 1) w3 (0, 3) (by omega) (u3.po O2) (u3.ml M2) (u3.sg G2) u2 (by simp) (by rw [f3]; exact hf)
    refine ⟨w4, v', ?_, g2, g3, (q3.z.tr (r3.z.tr u3.z)).tr g4, by rw [g5, f3]⟩
    rw [ea, r1, u1, ← g1, show ((i + 1 : Nat) : Int) = (i : Int) + 1 by omega]
end T4
