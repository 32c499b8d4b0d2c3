section R3
variable {d : Nat} {w : zW} {j x i : Int} {S : Sc} {P : Pg}
theorem r_keep1 (hx : 0 ≤ x ∧ x < 2) (h2 : w 0 2 = j) (hj : isT j) (hT : TO w j P) (hP : WP P) (hW : WS0 P S) (hC : CS w 19 S) : Cl (d + 2) 88 [(2, 0), (0, x)] 92 w = some ((0, P 0 6), 92, zup (zup (zup w 35 x (packC S)) 36 x (w 19 10)) 37 x 1) := by
  have zo0 := zo_0; have zo34 := zo_34; have zo19 := zo_19
  obtain ⟨t0, tn, t1, u1, t2, u2, t3, u3, t4, u4, t5, u5, t6, u6⟩ := sTall hj
  have hp : Cl (d + 1) 60 [(2, 34), (0, x), (2, 19)] 92 w = some ((9, 0), 92, zup (zup (zup w 35 x (packC S)) 36 x (w 19 10)) 37 x 1) := r_put (Or.inr ⟨rfl, rfl⟩) hx hP hW hC
  have e6 : w j 6 = P 0 6 := by
    have := hT 0 (by omega) (by omega) 6
    rw [Int.add_zero] at this
    exact this
  show Rn (d + 2) 88 0 [(2, 0), (0, x)] [] 92 w = _
  simp (disch := first | assumption | omega | (simp only [zcat_0, zcat_i, zcat_l, zcat_r, zcat_t]; omega) | simp) only [e_X7_keep_0, e_X7_keep_1, e_X7_keep_4, e_X7_keep_5, e_X7_keep_6, e_X7_keep_9, e_X7_keep_10, e_X7_keep_11, e_X7_keep_12, e_X7_keep_15, e_X7_keep_16, e_X7_keep_17, e_X7_keep_20, e_X7_keep_23, e_X7_keep_24, e_X7_keep_27, e_X7_keep_30, zpush_i, zpush_l, zpush_v, Option.bind_some, ↓if_pos, ↓if_neg, Int.reduceAdd, w32_id, hp, zup_off, h2, e6]
theorem r_keep0 (hx : ¬ (0 ≤ x ∧ x < 2)) : Cl (d + 2) 88 [(2, 0), (0, x)] 92 w = some ((0, -1), 92, w) := by
  show Rn (d + 2) 88 0 [(2, 0), (0, x)] [] 92 w = _
  by_cases c : x < 0
  · simp (disch := first | assumption | omega | (simp only [zcat_0, zcat_i, zcat_l, zcat_r, zcat_t]; omega) | simp) only [e_X7_keep_0, e_X7_keep_1, e_X7_keep_4, e_X7_keep_5, e_X7_keep_6, e_X7_keep_9, e_X7_keep_10, zpush_i, zpush_l, zpush_v, Option.bind_some, ↓if_pos, ↓if_neg, Int.reduceAdd, w32_id]
  · simp (disch := first | assumption | omega | (simp only [zcat_0, zcat_i, zcat_l, zcat_r, zcat_t]; omega) | simp) only [e_X7_keep_0, e_X7_keep_1, e_X7_keep_4, e_X7_keep_5, e_X7_keep_6, e_X7_keep_9, e_X7_keep_10, zpush_i, zpush_l, zpush_v, Option.bind_some, ↓if_pos, ↓if_neg, Int.reduceAdd, w32_id]
theorem m_keep1 (hx : 0 ≤ x ∧ x < 2) (hP : WP P) (hW : WS0 P S) (hR : RS w (P 0 6) S) (hO : PO w P) : Cl (d + 1) 142 [(2, 67), (0, x)] 92 w = some ((0, P 0 6), 92, zup (zup (zup w 89 x (packR (P 0 6) S)) 90 x (w 67 6)) 91 x 1) := by
  have zo67 := zo_67; have zo89 := zo_89; have zl89 := zl_89; have zo90 := zo_90; have zl90 := zl_90; have zo91 := zo_91; have zl91 := zl_91
  have hin : Cl d 95 [(1, x), (1, 0), (1, 1)] 92 w = some ((0, if 0 ≤ x ∧ x ≤ 1 then 1 else 0), 92, w) := m_in
  rw [if_pos (by omega)] at hin
  have hpk := m_packed (d := d) hP hW hR
  have e1 := hO.1
  show Rn (d + 1) 142 0 [(2, 67), (0, x)] [] 92 w = _
  simp (disch := first | assumption | omega | (simp only [zcat_0, zcat_i, zcat_l, zcat_r, zcat_t]; omega) | simp) only [e_X8_keep_0, e_X8_keep_1, e_X8_keep_2, e_X8_keep_3, e_X8_keep_4, e_X8_keep_7, e_X8_keep_10, e_X8_keep_11, e_X8_keep_12, e_X8_keep_13, e_X8_keep_16, e_X8_keep_17, e_X8_keep_18, e_X8_keep_21, e_X8_keep_22, e_X8_keep_23, e_X8_keep_26, e_X8_keep_27, e_X8_keep_28, e_X8_keep_31, e_X8_keep_32, e_X8_keep_33, e_X8_keep_36, e_X8_keep_37, e_X8_keep_38, e_X8_keep_39, e_X8_keep_40, e_X8_keep_43, zpush_i, zpush_l, zpush_v, Option.bind_some, ↓if_pos, ↓if_neg, Int.reduceAdd, w32_id, hin, hpk, zup_off, e1]
theorem m_keep0 (hx : ¬ (0 ≤ x ∧ x < 2)) : Cl (d + 1) 142 [(2, 67), (0, x)] 92 w = some ((0, -1), 92, w) := by
  have hin : Cl d 95 [(1, x), (1, 0), (1, 1)] 92 w = some ((0, if 0 ≤ x ∧ x ≤ 1 then 1 else 0), 92, w) := m_in
  rw [if_neg (by omega)] at hin
  show Rn (d + 1) 142 0 [(2, 67), (0, x)] [] 92 w = _
  simp (disch := first | assumption | omega | (simp only [zcat_0, zcat_i, zcat_l, zcat_r, zcat_t]; omega) | simp) only [e_X8_keep_0, e_X8_keep_1, e_X8_keep_2, e_X8_keep_3, e_X8_keep_4, e_X8_keep_7, e_X8_keep_10, e_X8_keep_11, zpush_i, zpush_l, zpush_v, Option.bind_some, ↓if_pos, ↓if_neg, Int.reduceAdd, w32_id, hin]
end R3
