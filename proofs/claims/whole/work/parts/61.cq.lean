section T5
variable {d : Nat} {w : zW} {n p : Int} {S : Sc} {P : Pg} {L : BL} {a : Int → Int} {Q : Sg} {c1 c2 y : Int}
def FV (w w' : zW) : Prop := ∀ b j, (b < 72 ∨ 73 < b) → (b < 81 ∨ 87 < b) → (b ≠ 67 ∨ j < 28 ∨ 37 < j) → w' b j = w b j
theorem m_counts (hP : WP P) (hW : WS P S) (hR : RS w (P 0 6) S) (hO : PO w P) (hQ : QG Q) (hG : MSg w Q) (hf : w32 (w 67 6) = w 67 6) : ∃ w', Cl (d + 7) 134 [(2, 67)] 92 w = some ((0, if 3000 < (aF P S).length then 0 else 1), 92, w') ∧ ML w' (P 0 6) (aF P S) ∧ ((aF P S).length ≤ 3000 → MW w' (aF P S) (aWs (aF P S) (aF P S).length) (cF Q (aF P S) (aF P S).length) (cK Q (aF P S) (aF P S).length)) ∧ RS w' (P 0 6) S ∧ FV w w' := by
  have zo67 := zo_67; have zo81 := zo_81; have zl81 := zl_81; have zo86 := zo_86; have zl86 := zl_86; have zo87 := zo_87; have zl87 := zl_87
  obtain ⟨w1, q1, q2, q3, q4⟩ := m_explores (d := d) hP hW hR hO hf
  have V1 : FV w w1 := fun b j h1 h2 h3 => q4 b j (by omega) (by omega) (by omega) (by omega) (by omega) (by omega) (by omega) (by omega)
  have O1 : PO w1 P := by
    have e : ∀ b, b = 68 ∨ b = 69 ∨ b = 70 ∨ b = 71 → w1 b = w b := fun b hb => by
      funext j
      exact V1 b j (by omega) (by omega) (by omega)
    unfold PO
    rw [V1 67 1 (by omega) (by omega) (by omega), e 68 (by omega), e 69 (by omega), e 70 (by omega), e 71 (by omega)]
    exact hO
  have G1 : MSg w1 Q := by
    have e : w1 88 = w 88 := by funext j; exact V1 88 j (by omega) (by omega) (by omega)
    unfold MSg
    rw [V1 67 39 (by omega) (by omega) (by omega), e]
    exact hG
  have f1 : w1 67 6 = w 67 6 := V1 67 6 (by omega) (by omega) (by omega)
  have hL : LG P (aF P S) := LG.x hP 3001 0 (LG.one hW)
  by_cases c : 3000 < (aF P S).length
  · rw [if_pos c] at q1 ⊢
    refine ⟨w1, ?_, q2, fun z => by omega, q3, V1⟩
    show Rn (d + 7) 134 0 [(2, 67), (9, 0), (9, 0), (9, 0), (9, 0)] [] 92 w = _
    simp (disch := first | assumption | omega | (simp only [zcat_0, zcat_i, zcat_l, zcat_r, zcat_t]; omega) | simp) only [e_X8_counts_0, e_X8_counts_1, e_X8_counts_4, e_X8_counts_7, e_X8_counts_8, zpush_i, zpush_l, zpush_v, Option.bind_some, ↓if_pos, ↓if_neg, Int.reduceAdd, w32_id, q1]
  · rw [if_neg c] at q1 ⊢
    have hpk := m_packed (d := d + 6) hP hW.1 q3
    obtain ⟨w2, e2⟩ : ∃ w2, zup (zup (zup (zup (zup (zup (zup w1 67 29 0) 67 30 0) 67 31 (-9)) 67 32 (-9)) 67 35 0) 67 36 0) 67 37 0 = w2 := ⟨_, rfl⟩
    obtain ⟨w3, e3⟩ : ∃ w3, zup (zup (zup (zup (zup (zup w2 86 0 0) 87 0 0) 86 1 0) 87 1 0) 86 2 0) 87 2 0 = w3 := ⟨_, rfl⟩
    have a1 : Cl (d + 7) 134 [(2, 67)] 92 w = Rn (d + 7) 134 53 [(2, 67), (1, packR (P 0 6) S), (9, 0), (0, 0), (9, 0)] [] 92 w2 := by
      show Rn (d + 7) 134 0 [(2, 67), (9, 0), (9, 0), (9, 0), (9, 0)] [] 92 w = _
      rw [← e2]
      simp (disch := first | assumption | omega | (simp only [zcat_0, zcat_i, zcat_l, zcat_r, zcat_t]; omega) | simp) only [e_X8_counts_0, e_X8_counts_1, e_X8_counts_4, e_X8_counts_7, e_X8_counts_8, e_X8_counts_9, e_X8_counts_10, e_X8_counts_13, e_X8_counts_14, e_X8_counts_15, e_X8_counts_16, e_X8_counts_19, e_X8_counts_20, e_X8_counts_21, e_X8_counts_24, e_X8_counts_25, e_X8_counts_27, e_X8_counts_30, e_X8_counts_31, e_X8_counts_33, e_X8_counts_36, e_X8_counts_37, e_X8_counts_38, e_X8_counts_41, e_X8_counts_42, e_X8_counts_43, e_X8_counts_46, e_X8_counts_47, e_X8_counts_48, e_X8_counts_51, e_X8_counts_52, zpush_i, zpush_l, zpush_v, Option.bind_some, ↓if_pos, ↓if_neg, Int.reduceAdd, w32_id, q1, hpk]
    have a2 : Rn (d + 7) 134 53 [(2, 67), (1, packR (P 0 6) S), (9, 0), (0, 0), (9, 0)] [] 92 w2 = Rn (d + 7) 134 80 [(2, 67), (1, packR (P 0 6) S), (9, 0), (0, 0), (9, 0)] [] 92 w3 := by
      rw [← e3]
      simp (disch := first | assumption | omega | (simp only [zcat_0, zcat_i, zcat_l, zcat_r, zcat_t]; omega) | simp) only [e_X8_counts_53, e_X8_counts_54, e_X8_counts_55, e_X8_counts_58, e_X8_counts_59, e_X8_counts_62, e_X8_counts_63, e_X8_counts_64, e_X8_counts_65, e_X8_counts_66, e_X8_counts_69, e_X8_counts_70, e_X8_counts_71, e_X8_counts_72, e_X8_counts_75, e_X8_counts_78, e_X8_counts_79, zpush_i, zpush_l, zpush_v, Option.bind_some, ↓if_pos, ↓if_neg, Int.reduceAdd, w32_id]
    have o3 : ∀ b j, b ≠ 86 → b ≠ 87 → w3 b j = w2 b j := fun b j h h' => by
      rw [← e3, zup_off _ (by omega), zup_off _ (by omega), zup_off _ (by omega), zup_off _ (by omega), zup_off _ (by omega), zup_off _ (by omega)]
    have F3 : FC w1 w3 := fun b j h1 h2 h3 => by
      rw [o3 b j h1 h2, ← e2, zup_off _ (by omega), zup_off _ (by omega), zup_off _ (by omega), zup_off _ (by omega), zup_off _ (by omega), zup_off _ (by omega), zup_off _ (by omega)]
    have A3 : MW w3 (aF P S) (aWs (aF P S) 0) (cF Q (aF P S) 0) (cK Q (aF P S) 0) := by
      refine ⟨?_, ?_, ?_, ?_, ?_, ?_, ?_, fun p h0 h3 => ?_⟩
      · rw [o3 _ _ (by omega) (by omega), ← e2]; simp (disch := omega) only [zup_off, zup_self]; rfl
      · rw [o3 _ _ (by omega) (by omega), ← e2]; simp (disch := omega) only [zup_off, zup_self]; rfl
      · rw [o3 _ _ (by omega) (by omega), ← e2]; simp (disch := omega) only [zup_off, zup_self]; rfl
      · rw [o3 _ _ (by omega) (by omega), ← e2]; simp (disch := omega) only [zup_off, zup_self]; rfl
      · rw [o3 _ _ (by omega) (by omega), ← e2]; simp (disch := omega) only [zup_off, zup_self]; rfl
      · rw [o3 _ _ (by omega) (by omega), ← e2]; simp (disch := omega) only [zup_off, zup_self]; rfl
      · rw [o3 _ _ (by omega) (by omega), ← e2]; simp (disch := omega) only [zup_self]; rfl
      · rw [← e3]
        have : p = 0 ∨ p = 1 ∨ p = 2 := by omega
        rcases this with rfl | rfl | rfl
        · simp (disch := omega) only [zup_off, zup_self]; exact ⟨rfl, rfl⟩
        · simp (disch := omega) only [zup_off, zup_self]; exact ⟨rfl, rfl⟩
        · simp (disch := omega) only [zup_off, zup_self]; exact ⟨rfl, rfl⟩
    have f3 : w3 67 6 = w 67 6 := by rw [F3 67 6 (by omega) (by omega) (by omega), f1]
    obtain ⟨w4, v', u1, u2, u3, u4, u5⟩ := m_ci (d := d + 4) (y := packR (P 0 6) S) (Q := Q) hP hL (by omega) hQ (aF P S).length 0 w3 (9, 0) (by omega) (F3.po O1) (F3.ml q2) (F3.sg G1) A3 (by simp) (by rw [f3]; exact hf)
    have u1' : Rn (d + 7) 134 80 [(2, 67), (1, packR (P 0 6) S), (9, 0), (0, 0), (9, 0)] [] 92 w3 = _ := u1
    obtain ⟨w5, s1, s2, s3, s4⟩ := m_open (d := d + 6) (w := w4) hP hW.1
    refine ⟨w5, ?_, u2.fq s3, fun _ => u3.fq s3, s2, fun b j h1 h2 h3 => ?_⟩
    · rw [a1, a2, u1']
      simp (disch := first | assumption | omega | (simp only [zcat_0, zcat_i, zcat_l, zcat_r, zcat_t]; omega) | simp) only [e_X8_counts_170, e_X8_counts_171, e_X8_counts_172, e_X8_counts_175, e_X8_counts_176, zpush_i, zpush_l, zpush_v, Option.bind_some, ↓if_pos, ↓if_neg, Int.reduceAdd, w32_id, s1]
    · by_cases c6 : b = 67 ∧ j = 6
      · rw [c6.1, c6.2, s4, u5, f3]
      · rw [s3 b j (by omega) (by omega) (by omega), u4 b j (by omega) (by omega) (by omega) (by omega) (by omega), F3 b j (by omega) (by omega) (by omega), V1 b j h1 h2 h3]
end T5
