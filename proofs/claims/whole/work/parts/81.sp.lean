section R8
variable {d : Nat} {w : zW} {j x t : Int} {S : Sc} {P : Pg} {H : Hs} {e : Sc × Int}
theorem m_step1 (hP : WP P) (hW : WS P S) (hR : RS w (P 0 6) S) (hO : PO w P) (hX : MPa w (P 0 6) H) (hf : w32 (w 67 6) = w 67 6) (ht : 0 ≤ t ∧ t < P 0 6) (hh : S.1 (13 + t) = 0) : ∃ w', Cl (d + 5) 126 [(2, 67), (0, t)] 92 w = some ((0, (sAct P t (S, w 67 6)).1.1 (9 + t)), 92, w') ∧ RS w' (P 0 6) (sAct P t (S, w 67 6)).1 ∧ w' 67 6 = (sAct P t (S, w 67 6)).2 ∧ MPa w' (P 0 6) (aPu H (S, w 67 6)) ∧ (∀ a i, a ≠ 72 → a ≠ 73 → a ≠ 79 → a ≠ 80 → (a ≠ 67 ∨ i ≠ 6 ∧ i ≠ 22) → w' a i = w a i) := by
  have zo67 := zo_67; have zo72 := zo_72; have zl72 := zl_72
  have hP4 := hP.2.1
  have hti := m_isThr (d := d + 3) (t := t) hO hP
  rw [if_pos ht] at hti
  have hh' := (hR.2.1 t ht.1 (by omega)).1
  rw [if_pos ht.2, hh] at hh'
  obtain ⟨w1, v1, q1, q2, q3⟩ := m_push (d := d + 4) (t := t) (v := (9, 0)) hP hW.1 hR hX (by simp)
  have R1 : RS w1 (P 0 6) S := hR.at (by funext i; exact q3 72 i (by omega) (by omega) (by omega))
  have O1 : PO w1 P := by
    have e : ∀ b, b = 68 ∨ b = 69 ∨ b = 70 ∨ b = 71 → w1 b = w b := fun b hb => by
      funext i
      exact q3 b i (by omega) (by omega) (by omega)
    unfold PO
    rw [q3 67 1 (by omega) (by omega) (by omega), e 68 (by omega), e 69 (by omega), e 70 (by omega), e 71 (by omega)]
    exact hO
  have f1 : w1 67 6 = w 67 6 := q3 67 6 (by omega) (by omega) (by omega)
  obtain ⟨w2, r1, r2, r3, r4⟩ := m_act (d := d) (t := t) ht.1 (by omega) hP hW R1 O1 hh (by rw [f1]; exact hf)
  rw [f1] at r2 r4
  have e9 := r2.1 (9 + t) (by omega) (by omega)
  refine ⟨w2, ?_, r2, r4, ?_, fun a i n1 n2 n3 n4 n5 => by rw [r3 a i n1 n2 (by omega), q3 a i n3 n4 (by omega)]⟩
  · show Rn (d + 5) 126 0 [(2, 67), (0, t), (9, 0)] [] 92 w = _
    have a1 : Rn (d + 5) 126 0 [(2, 67), (0, t), (9, 0)] [] 92 w = Rn (d + 5) 126 25 [(2, 67), (0, t), (9, 0)] [] 92 w := by
      simp (disch := first | assumption | omega | (simp only [zcat_0, zcat_i, zcat_l, zcat_r, zcat_t]; omega) | simp) only [e_X8_step_0, e_X8_step_1, e_X8_step_2, e_X8_step_5, e_X8_step_8, e_X8_step_9, e_X8_step_10, e_X8_step_11, e_X8_step_14, e_X8_step_16, e_X8_step_17, e_X8_step_18, e_X8_step_19, zpush_i, zpush_l, zpush_v, Option.bind_some, ↓if_pos, ↓if_neg, Int.reduceAdd, w32_id, hti, hh']
    rw [a1, q1]
    simp (disch := first | assumption | omega | (simp only [zcat_0, zcat_i, zcat_l, zcat_r, zcat_t]; omega) | simp) only [e_X8_step_122, e_X8_step_123, e_X8_step_124, e_X8_step_127, e_X8_step_128, e_X8_step_131, e_X8_step_133, e_X8_step_134, e_X8_step_135, e_X8_step_136, zpush_i, zpush_l, zpush_v, Option.bind_some, ↓if_pos, ↓if_neg, Int.reduceAdd, w32_id, r1, e9]
  · obtain ⟨m1, m2, m3⟩ := q2
    refine ⟨by rw [r3 67 22 (by omega) (by omega) (by omega)]; exact m1, m2, fun i hi => ?_⟩
    rw [r3 79 i (by omega) (by omega) (by omega), r3 80 i (by omega) (by omega) (by omega)]
    exact m3 i hi
theorem m_step0 (hP : WP P) (hR : RS w (P 0 6) S) (hO : PO w P) (h : ¬ (0 ≤ t ∧ t < P 0 6) ∨ S.1 (13 + t) ≠ 0) : Cl (d + 5) 126 [(2, 67), (0, t)] 92 w = some ((0, if 0 ≤ t ∧ t < P 0 6 then -2 else -1), 92, w) := by
  have zo67 := zo_67; have zo72 := zo_72; have zl72 := zl_72
  have hP4 := hP.2.1
  have hti := m_isThr (d := d + 3) (t := t) hO hP
  show Rn (d + 5) 126 0 [(2, 67), (0, t), (9, 0)] [] 92 w = _
  by_cases c : 0 ≤ t ∧ t < P 0 6
  · rw [if_pos c] at hti ⊢
    have hh' := (hR.2.1 t c.1 (by omega)).1
    rw [if_pos c.2] at hh'
    have : S.1 (13 + t) ≠ 0 := by
      rcases h with h | h
      · exact absurd c h
      · exact h
    simp (disch := first | assumption | omega | (simp only [zcat_0, zcat_i, zcat_l, zcat_r, zcat_t]; omega) | simp) only [e_X8_step_0, e_X8_step_1, e_X8_step_2, e_X8_step_5, e_X8_step_8, e_X8_step_9, e_X8_step_10, e_X8_step_11, e_X8_step_14, e_X8_step_16, e_X8_step_17, e_X8_step_18, e_X8_step_19, e_X8_step_22, e_X8_step_24, zpush_i, zpush_l, zpush_v, Option.bind_some, ↓if_pos, ↓if_neg, Int.reduceAdd, w32_id, hti, hh']
  · rw [if_neg c] at hti ⊢
    simp (disch := first | assumption | omega | (simp only [zcat_0, zcat_i, zcat_l, zcat_r, zcat_t]; omega) | simp) only [e_X8_step_0, e_X8_step_1, e_X8_step_2, e_X8_step_5, e_X8_step_8, e_X8_step_9, zpush_i, zpush_l, zpush_v, Option.bind_some, ↓if_pos, ↓if_neg, Int.reduceAdd, w32_id, hti]
end R8
