section V1
variable {d : Nat} {w : zW} {j x t : Int} {S : Sc} {P : Pg} {H : Hs} {e : Sc × Int} {Q : Sg}
theorem m_undo0 (hX : MPa w (P 0 6) []) : Cl (d + 1) 127 [(2, 67)] 92 w = some ((0, -2), 92, w) := by
  have zo67 := zo_67
  have h1 : w 67 22 = 0 := hX.1
  show Rn (d + 1) 127 0 [(2, 67)] [] 92 w = _
  simp (disch := first | assumption | omega | (simp only [zcat_0, zcat_i, zcat_l, zcat_r, zcat_t]; omega) | simp) only [e_X8_undo_0, e_X8_undo_1, e_X8_undo_4, e_X8_undo_7, e_X8_undo_9, zpush_i, zpush_l, zpush_v, Option.bind_some, ↓if_pos, ↓if_neg, Int.reduceAdd, w32_id, h1]
theorem m_undo1 (hP : WP P) (hW : WS0 P e.1) (hX : MPa w (P 0 6) (H ++ [e])) : ∃ w', Cl (d + 1) 127 [(2, 67)] 92 w = some ((0, (H.length : Int)), 92, w') ∧ RS w' (P 0 6) e.1 ∧ w' 67 6 = e.2 ∧ MPa w' (P 0 6) H ∧ (∀ a i, a ≠ 72 → a ≠ 73 → (a ≠ 67 ∨ i ≠ 6 ∧ i ≠ 22) → w' a i = w a i) := by
  have zo67 := zo_67; have zo79 := zo_79; have zl79 := zl_79; have zo80 := zo_80; have zl80 := zl_80
  obtain ⟨h1, h2, h3⟩ := id hX
  have hl : (H ++ [e]).length = H.length + 1 := by simp
  rw [hl] at h1 h2
  have z := h3 H.length (by rw [hl]; omega)
  rw [hH_at] at z
  have h1' : w 67 22 = (H.length : Int) + 1 := by rw [h1]; rfl
  have hs : (H.length : Int) + 1 - 1 = H.length := by omega
  obtain ⟨w1, q1, q2, q3, q4⟩ := m_open (d := d) (w := zup w 67 22 H.length) (S := e.1) hP hW
  have e22 : w1 67 22 = H.length := by rw [q3 67 22 (by omega) (by omega) (by omega), zup_self]
  have e80 : w1 80 H.length = e.2 := by rw [q3 80 _ (by omega) (by omega) (by omega), zup_ne (by omega)]; exact z.2
  refine ⟨zup w1 67 6 e.2, ?_, q2.at (zup_ne (by omega)), zup_self .., ⟨?_, by omega, fun i hi => ?_⟩, fun a i n1 n2 n3 => by rw [zup_off _ (by omega), q3 a i n1 n2 (by omega), zup_off _ (by omega)]⟩
  · show Rn (d + 1) 127 0 [(2, 67)] [] 92 w = _
    have z1 := z.1
    simp (disch := first | assumption | omega | (simp only [zcat_0, zcat_i, zcat_l, zcat_r, zcat_t]; omega) | simp) only [e_X8_undo_0, e_X8_undo_1, e_X8_undo_4, e_X8_undo_7, e_X8_undo_9, e_X8_undo_10, e_X8_undo_11, e_X8_undo_12, e_X8_undo_15, e_X8_undo_16, e_X8_undo_17, e_X8_undo_20, e_X8_undo_21, e_X8_undo_22, e_X8_undo_25, e_X8_undo_26, e_X8_undo_29, e_X8_undo_30, e_X8_undo_33, e_X8_undo_34, e_X8_undo_35, e_X8_undo_38, e_X8_undo_39, e_X8_undo_42, e_X8_undo_43, e_X8_undo_46, e_X8_undo_47, e_X8_undo_50, zpush_i, zpush_l, zpush_v, Option.bind_some, ↓if_pos, ↓if_neg, Int.reduceAdd, w32_id, h1', hs, zup_off, zup_self, z1, q1, e22, e80]
  · rw [zup_off _ (by omega), e22]
  · have y := h3 i (by rw [hl]; omega)
    rw [hH_lt hi] at y
    rw [zup_ne (by omega), zup_ne (by omega), q3 79 _ (by omega) (by omega) (by omega), q3 80 _ (by omega) (by omega) (by omega), zup_ne (by omega), zup_ne (by omega)]
    exact y
theorem r_undo0 (hX : CPa w []) : Cl (d + 3) 80 [(2, 0)] 92 w = some ((0, -2), 92, w) := by
  have zo0 := zo_0; have zo29 := zo_29
  have h1 : w 29 2 = 0 := hX.1
  show Rn (d + 3) 80 0 [(2, 0)] [] 92 w = _
  simp (disch := first | assumption | omega | (simp only [zcat_0, zcat_i, zcat_l, zcat_r, zcat_t]; omega) | simp) only [e_X7_undo_0, e_X7_undo_1, e_X7_undo_4, e_X7_undo_7, e_X7_undo_10, e_X7_undo_12, zpush_i, zpush_l, zpush_v, Option.bind_some, ↓if_pos, ↓if_neg, Int.reduceAdd, w32_id, h1]
theorem r_undo1 (hP : WP P) (hW : WS0 P e.1) (hX : CPa w (H ++ [e])) : ∃ w', Cl (d + 3) 80 [(2, 0)] 92 w = some ((0, (H.length : Int)), 92, w') ∧ CPa w' H ∧ CS w' 19 e.1 ∧ w' 19 10 = e.2 ∧ w' 41 7 = 1 ∧ (∀ a i, (a < 19 ∨ 29 < a) → (a ≠ 41 ∨ i ≠ 7) → w' a i = w a i) := by
  have zo0 := zo_0; have zo19 := zo_19; have zo29 := zo_29; have zo41 := zo_41
  have hl : (H ++ [e]).length = H.length + 1 := by simp
  have h1 : w 29 2 = (H.length : Int) + 1 := by rw [hX.1, hl]; rfl
  obtain ⟨w1, q1, q2, q3, q4, q5⟩ := r_pop (d := d) hP hW hX
  have e2 := q2.1
  refine ⟨zup w1 41 7 1, ?_, ?_, ?_, by rw [zup_off _ (by omega), q4], zup_self .., fun a i n1 n2 => by rw [zup_off _ n2, q5 a (by omega) (by omega)]⟩
  · show Rn (d + 3) 80 0 [(2, 0)] [] 92 w = _
    simp (disch := first | assumption | omega | (simp only [zcat_0, zcat_i, zcat_l, zcat_r, zcat_t]; omega) | simp) only [e_X7_undo_0, e_X7_undo_1, e_X7_undo_4, e_X7_undo_7, e_X7_undo_10, e_X7_undo_12, e_X7_undo_13, e_X7_undo_14, e_X7_undo_17, e_X7_undo_18, e_X7_undo_21, e_X7_undo_24, e_X7_undo_25, e_X7_undo_28, e_X7_undo_29, e_X7_undo_32, e_X7_undo_33, e_X7_undo_36, e_X7_undo_39, zpush_i, zpush_l, zpush_v, Option.bind_some, ↓if_pos, ↓if_neg, Int.reduceAdd, w32_id, h1, q1, zup_off, e2]
  · unfold CPa
    rw [zup_ne (by omega), zup_ne (by omega), zup_ne (by omega), zup_ne (by omega)]
    exact q2
  · unfold CS
    rw [zup_ne (by omega), zup_ne (by omega), zup_ne (by omega), zup_ne (by omega), zup_ne (by omega), zup_ne (by omega), zup_ne (by omega), zup_ne (by omega), zup_ne (by omega)]
    exact q3
end V1
