section X2
variable {d : Nat} {w : zW} {P : Pg} {L : BL} {e : Ent} {S : Sc}
theorem m_x0 {y f : Int} : ∀ (u i : Nat) (w' : zW) (v : zV), i + u = 8192 → (∀ a, a ≠ 85 → w' a = w a) → (∀ a : Int, 0 ≤ a → a < (i : Int) → w' 85 a = 0) → ∃ w'', Rn d 131 13 [(2, 67), (1, y), (9, 0), (0, f), (0, (i : Int)), v] [] 92 w' = Rn d 131 35 [(2, 67), (1, y), (9, 0), (0, f), (0, 8192), v] [] 92 w'' ∧ (∀ a, a ≠ 85 → w'' a = w a) ∧ (∀ a : Int, 0 ≤ a → a < 8192 → w'' 85 a = 0) := by
  have zo67 := zo_67; have zo85 := zo_85; have zl85 := zl_85
  intro u
  induction u with
  | zero =>
    intro i w' v hi h1 h2
    have ei : (i : Int) = 8192 := by omega
    refine ⟨w', ?_, h1, fun a a0 a1 => h2 a a0 (by omega)⟩
    rw [ei]
    simp (disch := first | assumption | omega | (simp only [zcat_0, zcat_i, zcat_l, zcat_r, zcat_t]; omega) | simp) only [e_X8_explores_13, e_X8_explores_15, e_X8_explores_18, zpush_i, zpush_l, zpush_v, Option.bind_some, ↓if_pos, ↓if_neg, Int.reduceAdd, w32_id]
  | succ u ih =>
    intro i w' v hi h1 h2
    obtain ⟨w2, g1, g2, g3⟩ := ih (i + 1) (zup w' 85 i 0) v (by omega) (fun a ha => by rw [zup_ne ha]; exact h1 a ha) (fun a a0 a1 => by
      by_cases c : a = i
      · subst c; rw [zup_self]
      · rw [zup_off _ (Or.inr c)]; exact h2 a a0 (by omega))
    refine ⟨w2, ?_, g2, g3⟩
    rw [← g1, show ((i + 1 : Nat) : Int) = (i : Int) + 1 by omega, e_X8_explores_13]
    simp (disch := first | assumption | omega | (simp only [zcat_0, zcat_i, zcat_l, zcat_r, zcat_t]; omega) | simp) only [e_X8_explores_15, e_X8_explores_18, e_X8_explores_21, e_X8_explores_22, e_X8_explores_25, e_X8_explores_27, e_X8_explores_28, e_X8_explores_29, e_X8_explores_32, zpush_i, zpush_l, zpush_v, Option.bind_some, ↓if_pos, ↓if_neg, Int.reduceAdd, w32_id]
/-- nothing has changed but what the search holds, and lent ranks; the scene stands as it did -/
def FY (w w' : zW) : Prop := ∀ a i, a ≠ 72 → a ≠ 73 → a ≠ 81 → a ≠ 82 → a ≠ 83 → a ≠ 84 → a ≠ 85 → (a ≠ 67 ∨ i ≠ 28) → w' a i = w a i
theorem aF_1 (e : Ent) : aCome [] e = [e] := by
  rw [aCome_new]
  · rfl
  · unfold hasC
    simp
  · simp
theorem m_explores (hP : WP P) (hW : WS P S) (hR : RS w (P 0 6) S) (hO : PO w P) (hf : w32 (w 67 6) = w 67 6) : ∃ w', Cl (d + 6) 131 [(2, 67)] 92 w = some ((0, if 3000 < (aF P S).length then 0 else 1), 92, w') ∧ ML w' (P 0 6) (aF P S) ∧ RS w' (P 0 6) S ∧ FY w w' := by
  have zo67 := zo_67; have zo72 := zo_72; have zl72 := zl_72; have zo81 := zo_81; have zl81 := zl_81; have zo85 := zo_85; have zl85 := zl_85
  have hpk := m_packed (d := d + 5) hP hW.1 hR
  obtain ⟨w1, q1, q2, q3⟩ := m_x0 (d := d + 6) (w := w) (y := packR (P 0 6) S) (f := w 67 6) 8192 0 w (9, 0) (by omega) (fun _ _ => rfl) (fun a a0 a1 => by omega)
  have M0 : ML (zup w1 67 28 0) (P 0 6) [] := by
    refine ⟨zup_self .., fun i hi => absurd hi (Nat.not_lt_zero _), HT.nil (fun a a0 a1 => ?_)⟩
    rw [zup_off _ (Or.inl (by omega))]
    exact q3 a a0 a1
  have L0 : LG P [] := ⟨by simp, fun i hi => absurd hi (Nat.not_lt_zero _), fun i _ hi => absurd hi (Nat.not_lt_zero _), fun h => absurd h (Nat.not_lt_zero _)⟩
  obtain ⟨w2, r1, r2, r3⟩ := m_comeL (d := d + 5) (e := (S, -9, -9, 0)) M0 hP L0 ⟨hW, fun h => absurd h (Nat.not_lt_zero _), fun _ => ⟨rfl, rfl, rfl⟩⟩
  rw [aF_1] at r2
  have r1' : Cl (d + 5) 130 [(2, 67), (1, packR (P 0 6) S), (0, -9), (0, -9)] 92 (zup w1 67 28 0) = some ((9, 0), 92, w2) := r1
  have X2 : FX w w2 := fun a i h1 h2 h3 h4 h5 h6 h7 h8 => by
    rw [r3 a i h3 h4 h5 h6 h7 (by omega), zup_off _ (by omega), q2 a h7]
  have f2 : w2 67 6 = w 67 6 := by
    rw [r3 67 6 (by omega) (by omega) (by omega) (by omega) (by omega) (by omega), zup_off _ (by omega), q2 67 (by omega)]
  obtain ⟨w3, v', v'', u1, u2, u3⟩ := m_xi (d := d + 1) (y := packR (P 0 6) S) (f := w 67 6) hP 3001 0 w2 [(S, -9, -9, 0)] (9, 0) (by omega) (LG.one hW) (hO.fx X2) r2 (by rw [f2]; exact hf)
  have u1' : Rn (d + 6) 131 52 [(2, 67), (1, packR (P 0 6) S), (9, 0), (0, w 67 6), (0, 0), (9, 0)] [] 92 w2 = _ := u1
  have u2' : ML w3 (P 0 6) (aF P S) := u2
  obtain ⟨w4, s1, s2, s3, s4⟩ := m_open (d := d + 5) (w := w3) hP hW.1
  have M4 := u2'.fq s3
  have e28 := M4.1
  have q1' : Rn (d + 6) 131 13 [(2, 67), (1, packR (P 0 6) S), (9, 0), (0, w 67 6), (0, 0), (9, 0)] [] 92 w = _ := q1
  refine ⟨zup w4 67 6 (w 67 6), ?_, ?_, s2.at (zup_ne (by omega)), ?_⟩
  · show Rn (d + 6) 131 0 [(2, 67), (9, 0), (9, 0), (9, 0), (9, 0), (9, 0)] [] 92 w = _
    have a1 : Rn (d + 6) 131 0 [(2, 67), (9, 0), (9, 0), (9, 0), (9, 0), (9, 0)] [] 92 w = Rn (d + 6) 131 13 [(2, 67), (1, packR (P 0 6) S), (9, 0), (0, w 67 6), (0, 0), (9, 0)] [] 92 w := by
      simp (disch := first | assumption | omega | (simp only [zcat_0, zcat_i, zcat_l, zcat_r, zcat_t]; omega) | simp) only [e_X8_explores_0, e_X8_explores_1, e_X8_explores_4, e_X8_explores_5, e_X8_explores_6, e_X8_explores_9, e_X8_explores_10, e_X8_explores_11, zpush_i, zpush_l, zpush_v, Option.bind_some, ↓if_pos, ↓if_neg, Int.reduceAdd, w32_id, hpk]
    have a2 : Rn (d + 6) 131 35 [(2, 67), (1, packR (P 0 6) S), (9, 0), (0, w 67 6), (0, 8192), (9, 0)] [] 92 w1 = Rn (d + 6) 131 52 [(2, 67), (1, packR (P 0 6) S), (9, 0), (0, w 67 6), (0, 0), (9, 0)] [] 92 w2 := by
      simp (disch := first | assumption | omega | (simp only [zcat_0, zcat_i, zcat_l, zcat_r, zcat_t]; omega) | simp) only [e_X8_explores_35, e_X8_explores_36, e_X8_explores_37, e_X8_explores_40, e_X8_explores_41, e_X8_explores_42, e_X8_explores_44, e_X8_explores_46, e_X8_explores_49, e_X8_explores_50, zpush_i, zpush_l, zpush_v, Option.bind_some, ↓if_pos, ↓if_neg, Int.reduceAdd, w32_id, r1']
    rw [a1, q1', a2, u1']
    by_cases c : 3000 < (aF P S).length
    · rw [if_pos c]
      simp (disch := first | assumption | omega | (simp only [zcat_0, zcat_i, zcat_l, zcat_r, zcat_t]; omega) | simp) only [e_X8_explores_137, e_X8_explores_138, e_X8_explores_139, e_X8_explores_142, e_X8_explores_143, e_X8_explores_144, e_X8_explores_147, e_X8_explores_148, e_X8_explores_151, e_X8_explores_154, e_X8_explores_157, e_X8_explores_158, e_X8_explores_161, e_X8_explores_162, zpush_i, zpush_l, zpush_v, Option.bind_some, ↓if_pos, ↓if_neg, Int.reduceAdd, w32_id, s1, zup_off, e28]
    · rw [if_neg c]
      simp (disch := first | assumption | omega | (simp only [zcat_0, zcat_i, zcat_l, zcat_r, zcat_t]; omega) | simp) only [e_X8_explores_137, e_X8_explores_138, e_X8_explores_139, e_X8_explores_142, e_X8_explores_143, e_X8_explores_144, e_X8_explores_147, e_X8_explores_148, e_X8_explores_151, e_X8_explores_154, e_X8_explores_157, e_X8_explores_158, e_X8_explores_161, e_X8_explores_162, zpush_i, zpush_l, zpush_v, Option.bind_some, ↓if_pos, ↓if_neg, Int.reduceAdd, w32_id, s1, zup_off, e28]
  · obtain ⟨m1, m2, m3⟩ := M4
    refine ⟨by rw [zup_off _ (Or.inr (by omega))]; exact m1, fun i hi => ?_, ?_⟩
    · rw [zup_ne (by omega), zup_ne (by omega), zup_ne (by omega), zup_ne (by omega)]
      exact m2 i hi
    · rw [zup_ne (by omega)]
      exact m3
  · intro a i h1 h2 h3 h4 h5 h6 h7 h8
    by_cases c : a = 67 ∧ i = 6
    · rw [c.1, c.2, zup_self]
    · rw [zup_off _ (by omega), s3 a i h1 h2 (by omega), u3 a i h1 h2 h3 h4 h5 h6 h7 (by omega), X2 a i h1 h2 h3 h4 h5 h6 h7 (by omega)]
end X2
