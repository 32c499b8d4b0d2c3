section Q1
variable {d : Nat} {w : zW} {j x p : Int} {S : Sc} {P : Pg} {Q : Sg}
/-- all that was counted -/
def aA (P : Pg) (S : Sc) : Int → Int := aWs (aF P S) (aF P S).length
def qAll (P : Pg) (S : Sc) (x : Int) : Int := if x < 0 ∨ 3 < x then -1 else if 3000 < (aF P S).length then -3 else if x = 0 then (aF P S).length else if x = 1 then aA P S 0 else if x = 2 then aA P S 1 else eD (aF P S) (aA P S 2).toNat
def qCan (P : Pg) (S : Sc) (p x : Int) : Int := if ¬ ((0 ≤ p ∧ p < 3) ∧ 0 ≤ x ∧ x ≤ 1) then -1 else if 3000 < (aF P S).length then -3 else if x = 0 then aA P S (5 + p) else aA P S (8 + p)
def qSl (P : Pg) (S : Sc) : Int := if 3000 < (aF P S).length then -3 else aA P S 4
/-- what the class's questions need -/
def KX (w : zW) (j : Int) (P : Pg) (S : Sc) : Prop := w 0 2 = j ∧ isT j ∧ TO w j P ∧ CS w 19 S ∧ (KS w P S ∨ w 41 7 = 1) ∧ w32 (w 55 10) = w 55 10 ∧ WP P ∧ WS P S
theorem LGa (hP : WP P) (hW : WS P S) : LG P (aF P S) := LG.x hP 3001 0 (LG.one hW)
theorem aA2 (hP : WP P) (hW : WS P S) (hl : (aF P S).length ≤ 3000) : 0 ≤ aA P S 2 ∧ aA P S 2 < (aF P S).length := by
  have h := aF_ends hP hW hl
  have := (AJ.all (aF P S) (aF P S).length).1 (by omega)
  exact this
theorem r_all (hX : KX w j P S) : ∃ w', Cl (d + 7) 81 [(2, 0), (0, x)] 92 w = some ((0, qAll P S x), 92, w') ∧ (KS w' P S ∨ w' 41 7 = 1) ∧ FK w w' ∧ w32 (w' 55 10) = w' 55 10 := by
  have zo0 := zo_0; have zo41 := zo_41; have zo19 := zo_19
  obtain ⟨h2, hj, hT, hC, hK, hf, hP, hW⟩ := hX
  unfold qAll
  by_cases c : x < 0 ∨ 3 < x
  · rw [if_pos c]
    refine ⟨w, ?_, hK, FK.rf, hf⟩
    show Rn (d + 7) 81 0 [(2, 0), (0, x)] [] 92 w = _
    by_cases c1 : x < 0
    · simp (disch := first | assumption | omega | (simp only [zcat_0, zcat_i, zcat_l, zcat_r, zcat_t]; omega) | simp) only [e_X7_all_0, e_X7_all_1, e_X7_all_4, e_X7_all_5, e_X7_all_6, e_X7_all_9, e_X7_all_10, zpush_i, zpush_l, zpush_v, Option.bind_some, ↓if_pos, ↓if_neg, Int.reduceAdd, w32_id]
    · simp (disch := first | assumption | omega | (simp only [zcat_0, zcat_i, zcat_l, zcat_r, zcat_t]; omega) | simp) only [e_X7_all_0, e_X7_all_1, e_X7_all_4, e_X7_all_5, e_X7_all_6, e_X7_all_9, e_X7_all_10, zpush_i, zpush_l, zpush_v, Option.bind_some, ↓if_pos, ↓if_neg, Int.reduceAdd, w32_id]
  · rw [if_neg c]
    obtain ⟨w1, q1, q2, q3, q4⟩ := r_knows (d := d) hj hP hW hT hC hK hf
    refine ⟨w1, ?_, Or.inl q2, q3, q4⟩
    show Rn (d + 7) 81 0 [(2, 0), (0, x)] [] 92 w = _
    by_cases cf : 3000 < (aF P S).length
    · rw [if_pos cf] at q1 ⊢
      simp (disch := first | assumption | omega | (simp only [zcat_0, zcat_i, zcat_l, zcat_r, zcat_t]; omega) | simp) only [e_X7_all_0, e_X7_all_1, e_X7_all_4, e_X7_all_5, e_X7_all_6, e_X7_all_9, e_X7_all_10, e_X7_all_11, e_X7_all_12, e_X7_all_15, e_X7_all_16, e_X7_all_19, e_X7_all_20, e_X7_all_23, e_X7_all_26, e_X7_all_29, e_X7_all_31, zpush_i, zpush_l, zpush_v, Option.bind_some, ↓if_pos, ↓if_neg, Int.reduceAdd, w32_id, h2, q1]
    · rw [if_neg cf] at q1 ⊢
      have hl : (aF P S).length ≤ 3000 := by omega
      obtain ⟨k1, k2, k3⟩ := q2
      obtain ⟨a0, a1, a2, a3, a4, a5⟩ := k3 hl
      have s9 : w1 41 9 = ((aF P S).length : Int) := by rw [k2.1]; omega
      have hd : Rn (d + 7) 81 0 [(2, 0), (0, x)] [] 92 w = Rn (d + 7) 81 33 [(2, 0), (0, x)] [(0, x)] 92 w1 := by
        simp (disch := first | assumption | omega | (simp only [zcat_0, zcat_i, zcat_l, zcat_r, zcat_t]; omega) | simp) only [e_X7_all_0, e_X7_all_1, e_X7_all_4, e_X7_all_5, e_X7_all_6, e_X7_all_9, e_X7_all_10, e_X7_all_11, e_X7_all_12, e_X7_all_15, e_X7_all_16, e_X7_all_19, e_X7_all_20, e_X7_all_23, e_X7_all_26, e_X7_all_29, e_X7_all_31, e_X7_all_32, zpush_i, zpush_l, zpush_v, Option.bind_some, ↓if_pos, ↓if_neg, Int.reduceAdd, w32_id, h2, q1]
      rw [hd]
      have hx : x = 0 ∨ x = 1 ∨ x = 2 ∨ x = 3 := by omega
      rcases hx with rfl | rfl | rfl | rfl
      · simp (disch := first | assumption | omega | (simp only [zcat_0, zcat_i, zcat_l, zcat_r, zcat_t]; omega) | simp) only [e_X7_all_33_k0, e_X7_all_33_k1, e_X7_all_33_k2, e_X7_all_33_o, e_X7_all_60, e_X7_all_61, e_X7_all_64, e_X7_all_67, zpush_i, zpush_l, zpush_v, Option.bind_some, ↓if_pos, ↓if_neg, Int.reduceAdd, w32_id, s9]
      · simp (disch := first | assumption | omega | (simp only [zcat_0, zcat_i, zcat_l, zcat_r, zcat_t]; omega) | simp) only [e_X7_all_33_k1, e_X7_all_68, e_X7_all_69, e_X7_all_72, e_X7_all_75, zpush_i, zpush_l, zpush_v, Option.bind_some, ↓if_pos, ↓if_neg, Int.reduceAdd, w32_id, a0]
        rfl
      · simp (disch := first | assumption | omega | (simp only [zcat_0, zcat_i, zcat_l, zcat_r, zcat_t]; omega) | simp) only [e_X7_all_33_k2, e_X7_all_76, e_X7_all_77, e_X7_all_80, e_X7_all_83, zpush_i, zpush_l, zpush_v, Option.bind_some, ↓if_pos, ↓if_neg, Int.reduceAdd, w32_id, a1]
        rfl
      · have b := aA2 hP hW hl
        have hs := r_stepsTo (d := d + 5) k2 (LGa hP hW) hl (i := (aA P S 2).toNat) (by omega)
        rw [show (((aA P S 2).toNat : Nat) : Int) = aA P S 2 by omega] at hs
        have a2' : w1 41 12 = aA P S 2 := a2
        rw [e_X7_all_33_o (by omega)]
        simp (disch := first | assumption | omega | (simp only [zcat_0, zcat_i, zcat_l, zcat_r, zcat_t]; omega) | simp) only [e_X7_all_84, e_X7_all_85, e_X7_all_88, e_X7_all_89, e_X7_all_92, e_X7_all_95, e_X7_all_98, zpush_i, zpush_l, zpush_v, Option.bind_some, ↓if_pos, ↓if_neg, Int.reduceAdd, w32_id, a2', hs]
theorem m_isPl : Cl (d + 1) 96 [(0, p)] 92 w = some ((0, if 0 ≤ p ∧ p < 3 then 1 else 0), 92, w) := by
  show Rn (d + 1) 96 0 [(0, p)] [] 92 w = _
  have h : Cl d 95 [(1, p), (1, 0), (1, 2)] 92 w = some ((0, if 0 ≤ p ∧ p < 3 then 1 else 0), 92, w) := by
    rw [m_in]
    by_cases c : 0 ≤ p ∧ p < 3
    · rw [if_pos c, if_pos (by omega)]
    · rw [if_neg c, if_neg (by omega)]
  have hb : (if 0 ≤ p ∧ p < 3 then (1 : Int) else 0) = 0 ∨ (if 0 ≤ p ∧ p < 3 then (1 : Int) else 0) = 1 := by split <;> simp
  generalize (if 0 ≤ p ∧ p < 3 then (1 : Int) else 0) = b at *
  simp (disch := first | assumption | omega | (simp only [zcat_0, zcat_i, zcat_l, zcat_r, zcat_t]; omega) | simp) only [e_X8_isPlace_0, e_X8_isPlace_1, e_X8_isPlace_2, e_X8_isPlace_3, e_X8_isPlace_6, e_X8_isPlace_9, zpush_i, zpush_l, zpush_v, Option.bind_some, ↓if_pos, ↓if_neg, Int.reduceAdd, w32_id, h]
/-- what the reference's questions need -/
def MX (w : zW) (P : Pg) (S : Sc) (Q : Sg) : Prop := RS w (P 0 6) S ∧ PO w P ∧ QG Q ∧ MSg w Q ∧ w32 (w 67 6) = w 67 6 ∧ WP P ∧ WS P S
theorem m_all (hX : MX w P S Q) : ∃ w', Cl (d + 8) 135 [(2, 67), (0, x)] 92 w = some ((0, qAll P S x), 92, w') ∧ RS w' (P 0 6) S ∧ FV w w' := by
  have zo67 := zo_67
  obtain ⟨hR, hO, hQ, hG, hf, hP, hW⟩ := hX
  have hin : Cl (d + 7) 95 [(1, x), (1, 0), (1, 3)] 92 w = some ((0, if 0 ≤ x ∧ x ≤ 3 then 1 else 0), 92, w) := m_in
  unfold qAll
  by_cases c : x < 0 ∨ 3 < x
  · rw [if_pos c]
    rw [if_neg (by omega)] at hin
    refine ⟨w, ?_, hR, fun _ _ _ _ _ => rfl⟩
    show Rn (d + 8) 135 0 [(2, 67), (0, x)] [] 92 w = _
    simp (disch := first | assumption | omega | (simp only [zcat_0, zcat_i, zcat_l, zcat_r, zcat_t]; omega) | simp) only [e_X8_all_0, e_X8_all_1, e_X8_all_2, e_X8_all_3, e_X8_all_6, e_X8_all_9, e_X8_all_12, e_X8_all_13, zpush_i, zpush_l, zpush_v, Option.bind_some, ↓if_pos, ↓if_neg, Int.reduceAdd, w32_id, hin]
  · rw [if_neg c]
    rw [if_pos (by omega)] at hin
    obtain ⟨w1, q1, q2, q3, q4, q5⟩ := m_counts (d := d) hP hW hR hO hQ hG hf
    refine ⟨w1, ?_, q4, q5⟩
    show Rn (d + 8) 135 0 [(2, 67), (0, x)] [] 92 w = _
    by_cases cf : 3000 < (aF P S).length
    · rw [if_pos cf] at q1 ⊢
      simp (disch := first | assumption | omega | (simp only [zcat_0, zcat_i, zcat_l, zcat_r, zcat_t]; omega) | simp) only [e_X8_all_0, e_X8_all_1, e_X8_all_2, e_X8_all_3, e_X8_all_6, e_X8_all_9, e_X8_all_12, e_X8_all_13, e_X8_all_14, e_X8_all_15, e_X8_all_18, e_X8_all_21, e_X8_all_23, zpush_i, zpush_l, zpush_v, Option.bind_some, ↓if_pos, ↓if_neg, Int.reduceAdd, w32_id, hin, q1]
    · rw [if_neg cf] at q1 ⊢
      have hl : (aF P S).length ≤ 3000 := by omega
      obtain ⟨m0, m1, m2, m3, m4, m5, m6, m7⟩ := q3 hl
      have e28 := q2.1
      have h0 := aF_ends hP hW hl
      rw [if_neg (by omega)] at m2
      have hx : x = 0 ∨ x = 1 ∨ x = 2 ∨ x = 3 := by omega
      rcases hx with rfl | rfl | rfl | rfl
      · simp (disch := first | assumption | omega | (simp only [zcat_0, zcat_i, zcat_l, zcat_r, zcat_t]; omega) | simp) only [e_X8_all_0, e_X8_all_1, e_X8_all_2, e_X8_all_3, e_X8_all_6, e_X8_all_9, e_X8_all_12, e_X8_all_13, e_X8_all_14, e_X8_all_15, e_X8_all_18, e_X8_all_21, e_X8_all_23, e_X8_all_24, e_X8_all_25, e_X8_all_28, e_X8_all_29, e_X8_all_32, e_X8_all_35, e_X8_all_36, e_X8_all_37, e_X8_all_40, e_X8_all_41, e_X8_all_44, e_X8_all_47, e_X8_all_48, e_X8_all_49, e_X8_all_52, e_X8_all_53, e_X8_all_56, e_X8_all_59, e_X8_all_60, e_X8_all_63, zpush_i, zpush_l, zpush_v, Option.bind_some, ↓if_pos, ↓if_neg, Int.reduceAdd, w32_id, hin, q1, e28]
      · simp (disch := first | assumption | omega | (simp only [zcat_0, zcat_i, zcat_l, zcat_r, zcat_t]; omega) | simp) only [e_X8_all_0, e_X8_all_1, e_X8_all_2, e_X8_all_3, e_X8_all_6, e_X8_all_9, e_X8_all_12, e_X8_all_13, e_X8_all_14, e_X8_all_15, e_X8_all_18, e_X8_all_21, e_X8_all_23, e_X8_all_24, e_X8_all_25, e_X8_all_28, e_X8_all_29, e_X8_all_32, e_X8_all_35, e_X8_all_36, e_X8_all_37, e_X8_all_40, e_X8_all_41, e_X8_all_44, e_X8_all_47, e_X8_all_48, e_X8_all_49, e_X8_all_52, e_X8_all_53, e_X8_all_56, e_X8_all_59, e_X8_all_60, e_X8_all_63, zpush_i, zpush_l, zpush_v, Option.bind_some, ↓if_pos, ↓if_neg, Int.reduceAdd, w32_id, hin, q1, m0]
        rfl
      · simp (disch := first | assumption | omega | (simp only [zcat_0, zcat_i, zcat_l, zcat_r, zcat_t]; omega) | simp) only [e_X8_all_0, e_X8_all_1, e_X8_all_2, e_X8_all_3, e_X8_all_6, e_X8_all_9, e_X8_all_12, e_X8_all_13, e_X8_all_14, e_X8_all_15, e_X8_all_18, e_X8_all_21, e_X8_all_23, e_X8_all_24, e_X8_all_25, e_X8_all_28, e_X8_all_29, e_X8_all_32, e_X8_all_35, e_X8_all_36, e_X8_all_37, e_X8_all_40, e_X8_all_41, e_X8_all_44, e_X8_all_47, e_X8_all_48, e_X8_all_49, e_X8_all_52, e_X8_all_53, e_X8_all_56, e_X8_all_59, e_X8_all_60, e_X8_all_63, zpush_i, zpush_l, zpush_v, Option.bind_some, ↓if_pos, ↓if_neg, Int.reduceAdd, w32_id, hin, q1, m1]
        rfl
      · simp (disch := first | assumption | omega | (simp only [zcat_0, zcat_i, zcat_l, zcat_r, zcat_t]; omega) | simp) only [e_X8_all_0, e_X8_all_1, e_X8_all_2, e_X8_all_3, e_X8_all_6, e_X8_all_9, e_X8_all_12, e_X8_all_13, e_X8_all_14, e_X8_all_15, e_X8_all_18, e_X8_all_21, e_X8_all_23, e_X8_all_24, e_X8_all_25, e_X8_all_28, e_X8_all_29, e_X8_all_32, e_X8_all_35, e_X8_all_36, e_X8_all_37, e_X8_all_40, e_X8_all_41, e_X8_all_44, e_X8_all_47, e_X8_all_48, e_X8_all_49, e_X8_all_52, e_X8_all_53, e_X8_all_56, e_X8_all_59, e_X8_all_60, e_X8_all_63, zpush_i, zpush_l, zpush_v, Option.bind_some, ↓if_pos, ↓if_neg, Int.reduceAdd, w32_id, hin, q1, m2]
        rfl
theorem r_can (hX : KX w j P S) : ∃ w', Cl (d + 7) 83 [(2, 0), (0, p), (0, x)] 92 w = some ((0, qCan P S p x), 92, w') ∧ (KS w' P S ∨ w' 41 7 = 1) ∧ FK w w' ∧ w32 (w' 55 10) = w' 55 10 := by
  have zo0 := zo_0; have zo41 := zo_41; have zo19 := zo_19; have zo65 := zo_65; have zl65 := zl_65; have zo66 := zo_66; have zl66 := zl_66
  obtain ⟨h2, hj, hT, hC, hK, hf, hP, hW⟩ := hX
  unfold qCan
  by_cases c : ¬ ((0 ≤ p ∧ p < 3) ∧ 0 ≤ x ∧ x ≤ 1)
  · rw [if_pos c]
    refine ⟨w, ?_, hK, FK.rf, hf⟩
    show Rn (d + 7) 83 0 [(2, 0), (0, p), (0, x)] [] 92 w = _
    by_cases c1 : 0 ≤ p ∧ p < 3
    · have hip := c_isPlace1 (d := d + 6) (w := w) c1.1 c1.2
      by_cases c2 : x < 0
      · simp (disch := first | assumption | omega | (simp only [zcat_0, zcat_i, zcat_l, zcat_r, zcat_t]; omega) | simp) only [e_X7_can_0, e_X7_can_1, e_X7_can_4, e_X7_can_7, e_X7_can_8, e_X7_can_11, e_X7_can_12, e_X7_can_13, e_X7_can_16, e_X7_can_17, zpush_i, zpush_l, zpush_v, Option.bind_some, ↓if_pos, ↓if_neg, Int.reduceAdd, w32_id, hip]
      · simp (disch := first | assumption | omega | (simp only [zcat_0, zcat_i, zcat_l, zcat_r, zcat_t]; omega) | simp) only [e_X7_can_0, e_X7_can_1, e_X7_can_4, e_X7_can_7, e_X7_can_8, e_X7_can_11, e_X7_can_12, e_X7_can_13, e_X7_can_16, e_X7_can_17, zpush_i, zpush_l, zpush_v, Option.bind_some, ↓if_pos, ↓if_neg, Int.reduceAdd, w32_id, hip]
    · have hip := c_isPlace0 (d := d + 6) (w := w) c1
      simp (disch := first | assumption | omega | (simp only [zcat_0, zcat_i, zcat_l, zcat_r, zcat_t]; omega) | simp) only [e_X7_can_0, e_X7_can_1, e_X7_can_4, e_X7_can_7, e_X7_can_8, e_X7_can_11, e_X7_can_12, e_X7_can_13, e_X7_can_16, e_X7_can_17, zpush_i, zpush_l, zpush_v, Option.bind_some, ↓if_pos, ↓if_neg, Int.reduceAdd, w32_id, hip]
  · rw [if_neg c]
    have c' : (0 ≤ p ∧ p < 3) ∧ 0 ≤ x ∧ x ≤ 1 := by
      by_cases z : (0 ≤ p ∧ p < 3) ∧ 0 ≤ x ∧ x ≤ 1
      · exact z
      · exact absurd z c
    have hip := c_isPlace1 (d := d + 6) (w := w) c'.1.1 c'.1.2
    obtain ⟨w1, q1, q2, q3, q4⟩ := r_knows (d := d) hj hP hW hT hC hK hf
    refine ⟨w1, ?_, Or.inl q2, q3, q4⟩
    show Rn (d + 7) 83 0 [(2, 0), (0, p), (0, x)] [] 92 w = _
    by_cases cf : 3000 < (aF P S).length
    · rw [if_pos cf] at q1 ⊢
      simp (disch := first | assumption | omega | (simp only [zcat_0, zcat_i, zcat_l, zcat_r, zcat_t]; omega) | simp) only [e_X7_can_0, e_X7_can_1, e_X7_can_4, e_X7_can_7, e_X7_can_8, e_X7_can_11, e_X7_can_12, e_X7_can_13, e_X7_can_16, e_X7_can_17, e_X7_can_18, e_X7_can_19, e_X7_can_22, e_X7_can_23, e_X7_can_26, e_X7_can_27, e_X7_can_30, e_X7_can_33, e_X7_can_36, e_X7_can_38, zpush_i, zpush_l, zpush_v, Option.bind_some, ↓if_pos, ↓if_neg, Int.reduceAdd, w32_id, hip, h2, q1]
    · rw [if_neg cf] at q1 ⊢
      obtain ⟨k1, k2, k3⟩ := q2
      obtain ⟨a0, a1, a2, a3, a4, a5⟩ := k3 (by omega)
      obtain ⟨b1, b2⟩ := a5 p c'.1.1 c'.1.2
      by_cases x0 : x = 0
      · rw [if_pos x0]
        simp (disch := first | assumption | omega | (simp only [zcat_0, zcat_i, zcat_l, zcat_r, zcat_t]; omega) | simp) only [e_X7_can_0, e_X7_can_1, e_X7_can_4, e_X7_can_7, e_X7_can_8, e_X7_can_11, e_X7_can_12, e_X7_can_13, e_X7_can_16, e_X7_can_17, e_X7_can_18, e_X7_can_19, e_X7_can_22, e_X7_can_23, e_X7_can_26, e_X7_can_27, e_X7_can_30, e_X7_can_33, e_X7_can_36, e_X7_can_38, e_X7_can_39, e_X7_can_40, e_X7_can_43, e_X7_can_44, e_X7_can_47, e_X7_can_50, e_X7_can_51, e_X7_can_52, e_X7_can_55, e_X7_can_56, e_X7_can_59, e_X7_can_62, e_X7_can_63, e_X7_can_64, zpush_i, zpush_l, zpush_v, Option.bind_some, ↓if_pos, ↓if_neg, Int.reduceAdd, w32_id, hip, h2, q1, b1]
        rfl
      · rw [if_neg x0]
        simp (disch := first | assumption | omega | (simp only [zcat_0, zcat_i, zcat_l, zcat_r, zcat_t]; omega) | simp) only [e_X7_can_0, e_X7_can_1, e_X7_can_4, e_X7_can_7, e_X7_can_8, e_X7_can_11, e_X7_can_12, e_X7_can_13, e_X7_can_16, e_X7_can_17, e_X7_can_18, e_X7_can_19, e_X7_can_22, e_X7_can_23, e_X7_can_26, e_X7_can_27, e_X7_can_30, e_X7_can_33, e_X7_can_36, e_X7_can_38, e_X7_can_39, e_X7_can_40, e_X7_can_43, e_X7_can_44, e_X7_can_47, e_X7_can_50, e_X7_can_51, e_X7_can_52, e_X7_can_55, e_X7_can_56, e_X7_can_59, e_X7_can_62, e_X7_can_63, e_X7_can_64, zpush_i, zpush_l, zpush_v, Option.bind_some, ↓if_pos, ↓if_neg, Int.reduceAdd, w32_id, hip, h2, q1, b2]
        rfl
theorem m_can (hX : MX w P S Q) : ∃ w', Cl (d + 8) 137 [(2, 67), (0, p), (0, x)] 92 w = some ((0, qCan P S p x), 92, w') ∧ RS w' (P 0 6) S ∧ FV w w' := by
  have zo67 := zo_67; have zo86 := zo_86; have zl86 := zl_86; have zo87 := zo_87; have zl87 := zl_87
  obtain ⟨hR, hO, hQ, hG, hf, hP, hW⟩ := hX
  have hin : Cl (d + 7) 95 [(1, x), (1, 0), (1, 1)] 92 w = some ((0, if 0 ≤ x ∧ x ≤ 1 then 1 else 0), 92, w) := m_in
  have hip := m_isPl (d := d + 6) (w := w) (p := p)
  unfold qCan
  by_cases c : ¬ ((0 ≤ p ∧ p < 3) ∧ 0 ≤ x ∧ x ≤ 1)
  · rw [if_pos c]
    refine ⟨w, ?_, hR, fun _ _ _ _ _ => rfl⟩
    show Rn (d + 8) 137 0 [(2, 67), (0, p), (0, x)] [] 92 w = _
    by_cases c1 : 0 ≤ p ∧ p < 3
    · rw [if_pos c1] at hip
      rw [if_neg (fun z => c ⟨c1, z⟩)] at hin
      simp (disch := first | assumption | omega | (simp only [zcat_0, zcat_i, zcat_l, zcat_r, zcat_t]; omega) | simp) only [e_X8_can_0, e_X8_can_1, e_X8_can_4, e_X8_can_7, e_X8_can_8, e_X8_can_9, e_X8_can_10, e_X8_can_11, e_X8_can_14, e_X8_can_17, e_X8_can_18, zpush_i, zpush_l, zpush_v, Option.bind_some, ↓if_pos, ↓if_neg, Int.reduceAdd, w32_id, hip, hin]
    · rw [if_neg c1] at hip
      simp (disch := first | assumption | omega | (simp only [zcat_0, zcat_i, zcat_l, zcat_r, zcat_t]; omega) | simp) only [e_X8_can_0, e_X8_can_1, e_X8_can_4, e_X8_can_7, e_X8_can_8, e_X8_can_9, e_X8_can_10, e_X8_can_11, e_X8_can_14, e_X8_can_17, e_X8_can_18, zpush_i, zpush_l, zpush_v, Option.bind_some, ↓if_pos, ↓if_neg, Int.reduceAdd, w32_id, hip]
  · rw [if_neg c]
    have c' : (0 ≤ p ∧ p < 3) ∧ 0 ≤ x ∧ x ≤ 1 := by
      by_cases z : (0 ≤ p ∧ p < 3) ∧ 0 ≤ x ∧ x ≤ 1
      · exact z
      · exact absurd z c
    rw [if_pos c'.1] at hip
    rw [if_pos c'.2] at hin
    obtain ⟨w1, q1, q2, q3, q4, q5⟩ := m_counts (d := d) hP hW hR hO hQ hG hf
    refine ⟨w1, ?_, q4, q5⟩
    show Rn (d + 8) 137 0 [(2, 67), (0, p), (0, x)] [] 92 w = _
    by_cases cf : 3000 < (aF P S).length
    · rw [if_pos cf] at q1 ⊢
      simp (disch := first | assumption | omega | (simp only [zcat_0, zcat_i, zcat_l, zcat_r, zcat_t]; omega) | simp) only [e_X8_can_0, e_X8_can_1, e_X8_can_4, e_X8_can_7, e_X8_can_8, e_X8_can_9, e_X8_can_10, e_X8_can_11, e_X8_can_14, e_X8_can_17, e_X8_can_18, e_X8_can_19, e_X8_can_20, e_X8_can_23, e_X8_can_26, e_X8_can_28, zpush_i, zpush_l, zpush_v, Option.bind_some, ↓if_pos, ↓if_neg, Int.reduceAdd, w32_id, hip, hin, q1]
    · rw [if_neg cf] at q1 ⊢
      obtain ⟨m0, m1, m2, m3, m4, m5, m6, m7⟩ := q3 (by omega)
      obtain ⟨b1, b2⟩ := m7 p c'.1.1 c'.1.2
      by_cases x0 : x = 0
      · rw [if_pos x0]
        simp (disch := first | assumption | omega | (simp only [zcat_0, zcat_i, zcat_l, zcat_r, zcat_t]; omega) | simp) only [e_X8_can_0, e_X8_can_1, e_X8_can_4, e_X8_can_7, e_X8_can_8, e_X8_can_9, e_X8_can_10, e_X8_can_11, e_X8_can_14, e_X8_can_17, e_X8_can_18, e_X8_can_19, e_X8_can_20, e_X8_can_23, e_X8_can_26, e_X8_can_28, e_X8_can_29, e_X8_can_30, e_X8_can_33, e_X8_can_34, e_X8_can_37, e_X8_can_38, e_X8_can_39, e_X8_can_42, e_X8_can_43, e_X8_can_46, e_X8_can_47, e_X8_can_48, zpush_i, zpush_l, zpush_v, Option.bind_some, ↓if_pos, ↓if_neg, Int.reduceAdd, w32_id, hip, hin, q1, b1]
        rfl
      · rw [if_neg x0]
        simp (disch := first | assumption | omega | (simp only [zcat_0, zcat_i, zcat_l, zcat_r, zcat_t]; omega) | simp) only [e_X8_can_0, e_X8_can_1, e_X8_can_4, e_X8_can_7, e_X8_can_8, e_X8_can_9, e_X8_can_10, e_X8_can_11, e_X8_can_14, e_X8_can_17, e_X8_can_18, e_X8_can_19, e_X8_can_20, e_X8_can_23, e_X8_can_26, e_X8_can_28, e_X8_can_29, e_X8_can_30, e_X8_can_33, e_X8_can_34, e_X8_can_37, e_X8_can_38, e_X8_can_39, e_X8_can_42, e_X8_can_43, e_X8_can_46, e_X8_can_47, e_X8_can_48, zpush_i, zpush_l, zpush_v, Option.bind_some, ↓if_pos, ↓if_neg, Int.reduceAdd, w32_id, hip, hin, q1, b2]
        rfl
theorem r_slept (hX : KX w j P S) : ∃ w', Cl (d + 7) 84 [(2, 0)] 92 w = some ((0, qSl P S), 92, w') ∧ (KS w' P S ∨ w' 41 7 = 1) ∧ FK w w' ∧ w32 (w' 55 10) = w' 55 10 := by
  have zo0 := zo_0; have zo41 := zo_41; have zo19 := zo_19
  obtain ⟨h2, hj, hT, hC, hK, hf, hP, hW⟩ := hX
  unfold qSl
  obtain ⟨w1, q1, q2, q3, q4⟩ := r_knows (d := d) hj hP hW hT hC hK hf
  refine ⟨w1, ?_, Or.inl q2, q3, q4⟩
  show Rn (d + 7) 84 0 [(2, 0)] [] 92 w = _
  by_cases cf : 3000 < (aF P S).length
  · rw [if_pos cf] at q1 ⊢
    simp (disch := first | assumption | omega | (simp only [zcat_0, zcat_i, zcat_l, zcat_r, zcat_t]; omega) | simp) only [e_X7_slept_0, e_X7_slept_1, e_X7_slept_4, e_X7_slept_5, e_X7_slept_8, e_X7_slept_9, e_X7_slept_12, e_X7_slept_15, e_X7_slept_18, e_X7_slept_19, e_X7_slept_22, e_X7_slept_25, e_X7_slept_28, e_X7_slept_30, zpush_i, zpush_l, zpush_v, Option.bind_some, ↓if_pos, ↓if_neg, Int.reduceAdd, w32_id, h2, q1]
  · rw [if_neg cf] at q1 ⊢
    obtain ⟨k1, k2, k3⟩ := q2
    obtain ⟨a0, a1, a2, a3, a4, a5⟩ := k3 (by omega)
    simp (disch := first | assumption | omega | (simp only [zcat_0, zcat_i, zcat_l, zcat_r, zcat_t]; omega) | simp) only [e_X7_slept_0, e_X7_slept_1, e_X7_slept_4, e_X7_slept_5, e_X7_slept_8, e_X7_slept_9, e_X7_slept_12, e_X7_slept_15, e_X7_slept_18, e_X7_slept_19, e_X7_slept_22, e_X7_slept_25, e_X7_slept_28, e_X7_slept_30, zpush_i, zpush_l, zpush_v, Option.bind_some, ↓if_pos, ↓if_neg, Int.reduceAdd, w32_id, h2, q1, a4]
    rfl
theorem m_slept (hX : MX w P S Q) : ∃ w', Cl (d + 8) 138 [(2, 67)] 92 w = some ((0, qSl P S), 92, w') ∧ RS w' (P 0 6) S ∧ FV w w' := by
  have zo67 := zo_67
  obtain ⟨hR, hO, hQ, hG, hf, hP, hW⟩ := hX
  unfold qSl
  obtain ⟨w1, q1, q2, q3, q4, q5⟩ := m_counts (d := d) hP hW hR hO hQ hG hf
  refine ⟨w1, ?_, q4, q5⟩
  show Rn (d + 8) 138 0 [(2, 67)] [] 92 w = _
  by_cases cf : 3000 < (aF P S).length
  · rw [if_pos cf] at q1 ⊢
    simp (disch := first | assumption | omega | (simp only [zcat_0, zcat_i, zcat_l, zcat_r, zcat_t]; omega) | simp) only [e_X8_slept_0, e_X8_slept_1, e_X8_slept_4, e_X8_slept_7, e_X8_slept_8, e_X8_slept_11, e_X8_slept_14, e_X8_slept_16, zpush_i, zpush_l, zpush_v, Option.bind_some, ↓if_pos, ↓if_neg, Int.reduceAdd, w32_id, q1]
  · rw [if_neg cf] at q1 ⊢
    obtain ⟨m0, m1, m2, m3, m4, m5, m6, m7⟩ := q3 (by omega)
    simp (disch := first | assumption | omega | (simp only [zcat_0, zcat_i, zcat_l, zcat_r, zcat_t]; omega) | simp) only [e_X8_slept_0, e_X8_slept_1, e_X8_slept_4, e_X8_slept_7, e_X8_slept_8, e_X8_slept_11, e_X8_slept_14, e_X8_slept_16, zpush_i, zpush_l, zpush_v, Option.bind_some, ↓if_pos, ↓if_neg, Int.reduceAdd, w32_id, q1, m4]
    rfl
end Q1
