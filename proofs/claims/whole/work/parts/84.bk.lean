section V2
variable {d : Nat} {w : zW} {j x t : Int} {S : Sc} {P : Pg} {H : Hs} {e : Sc × Int} {Q : Sg}
theorem r_pempty : Cl d 1 [(2, 29)] 92 w = some ((9, 0), 92, zup w 29 2 0) := by
  have zo29 := zo_29
  show Rn d 1 0 [(2, 29)] [] 92 w = _
  simp (disch := first | assumption | omega | (simp only [zcat_0, zcat_i, zcat_l, zcat_r, zcat_t]; omega) | simp) only [e_X0_empty_0, e_X0_empty_1, e_X0_empty_2, e_X0_empty_5, zpush_i, zpush_l, zpush_v, Option.bind_some, ↓if_pos, ↓if_neg, Int.reduceAdd, w32_id]
theorem CPa.nil (h : CPa w H) : CPa (zup w 29 2 0) [] := ⟨by rw [zup_self]; rfl, by simp, by rw [zup_off _ (by omega)]; exact h.2.2.1, by rw [zup_off _ (by omega)]; exact h.2.2.2.1, fun i hi => absurd hi (Nat.not_lt_zero _)⟩
theorem CPa.at {w' : zW} (h : CPa w H) (e : ∀ a, 29 ≤ a → a ≤ 33 → w' a = w a) : CPa w' H := by
  unfold CPa
  rw [e 29 (by omega) (by omega), e 31 (by omega) (by omega), e 32 (by omega) (by omega), e 33 (by omega) (by omega)]
  exact h
theorem r_shempty : Cl d 58 [(2, 34)] 92 w = some ((9, 0), 92, zup (zup w 37 0 0) 37 1 0) := by
  have zo34 := zo_34; have zo37 := zo_37; have zl37 := zl_37
  have k37 : 20 ≤ (zsh 37).1 ∧ (zsh 37).1 ≤ 22 := by decide +kernel
  show Rn d 58 0 [(2, 34), (9, 0)] [] 92 w = _
  simp (disch := first | assumption | omega | (simp only [zcat_0, zcat_i, zcat_l, zcat_r, zcat_t]; omega) | simp) only [e_X4_empty_0, e_X4_empty_1, e_X4_empty_2, e_X4_empty_3, e_X4_empty_4, e_X4_empty_7, e_X4_empty_8, e_X4_empty_11, e_X4_empty_12, e_X4_empty_15, e_X4_empty_16, e_X4_empty_17, e_X4_empty_18, e_X4_empty_21, e_X4_empty_24, zpush_i, zpush_l, zpush_v, Option.bind_some, ↓if_pos, ↓if_neg, Int.reduceAdd, w32_id]
theorem r_back0 (hx : ¬ (0 ≤ x ∧ x < 2)) : Cl (d + 2) 89 [(2, 0), (0, x)] 92 w = some ((0, -1), 92, w) := by
  show Rn (d + 2) 89 0 [(2, 0), (0, x)] [] 92 w = _
  by_cases c : x < 0
  · simp (disch := first | assumption | omega | (simp only [zcat_0, zcat_i, zcat_l, zcat_r, zcat_t]; omega) | simp) only [e_X7_back_0, e_X7_back_1, e_X7_back_4, e_X7_back_5, e_X7_back_6, e_X7_back_9, e_X7_back_10, zpush_i, zpush_l, zpush_v, Option.bind_some, ↓if_pos, ↓if_neg, Int.reduceAdd, w32_id]
  · simp (disch := first | assumption | omega | (simp only [zcat_0, zcat_i, zcat_l, zcat_r, zcat_t]; omega) | simp) only [e_X7_back_0, e_X7_back_1, e_X7_back_4, e_X7_back_5, e_X7_back_6, e_X7_back_9, e_X7_back_10, zpush_i, zpush_l, zpush_v, Option.bind_some, ↓if_pos, ↓if_neg, Int.reduceAdd, w32_id]
theorem r_back1 (hx : 0 ≤ x ∧ x < 2) (h : w 37 x = 0) : Cl (d + 2) 89 [(2, 0), (0, x)] 92 w = some ((0, -2), 92, w) := by
  have zo0 := zo_0; have zo34 := zo_34
  have hp : Cl (d + 1) 59 [(2, 34), (0, x)] 92 w = some ((0, w 37 x), 92, w) := r_holds (Or.inr ⟨rfl, rfl⟩) hx (Or.inl h)
  rw [h] at hp
  show Rn (d + 2) 89 0 [(2, 0), (0, x)] [] 92 w = _
  simp (disch := first | assumption | omega | (simp only [zcat_0, zcat_i, zcat_l, zcat_r, zcat_t]; omega) | simp) only [e_X7_back_0, e_X7_back_1, e_X7_back_4, e_X7_back_5, e_X7_back_6, e_X7_back_9, e_X7_back_10, e_X7_back_11, e_X7_back_12, e_X7_back_15, e_X7_back_16, e_X7_back_19, e_X7_back_22, e_X7_back_24, zpush_i, zpush_l, zpush_v, Option.bind_some, ↓if_pos, ↓if_neg, Int.reduceAdd, w32_id, hp]
theorem r_back2 (hx : 0 ≤ x ∧ x < 2) (h2 : w 0 2 = j) (hj : isT j) (hT : TO w j P) (hP : WP P) (hW : WS0 P S) (hX : CPa w H) (h35 : w 35 x = packC S) (h37 : w 37 x = 1) : ∃ w', Cl (d + 2) 89 [(2, 0), (0, x)] 92 w = some ((0, P 0 6), 92, w') ∧ CPa w' [] ∧ CS w' 19 S ∧ w' 19 10 = w 36 x ∧ w' 41 7 = 1 ∧ (∀ a i, (a < 19 ∨ 29 < a) → (a ≠ 41 ∨ i ≠ 7) → w' a i = w a i) := by
  have zo0 := zo_0; have zo34 := zo_34; have zo19 := zo_19; have zo29 := zo_29; have zo41 := zo_41
  obtain ⟨t0, tn, t1, u1, t2, u2, t3, u3, t4, u4, t5, u5, t6, u6⟩ := sTall hj
  have hp : Cl (d + 1) 59 [(2, 34), (0, x)] 92 w = some ((0, w 37 x), 92, w) := r_holds (Or.inr ⟨rfl, rfl⟩) hx (Or.inr h37)
  rw [h37] at hp
  obtain ⟨w1, q1, q2, q3, q4⟩ := r_fetch (d := d) (w := w) (q := 34) (n := 2) (Or.inr ⟨rfl, rfl⟩) hx hP hW h35 h37
  have hpe := r_pempty (d := d + 1) (w := w1)
  have c1 : CPa w1 H := by
    unfold CPa
    rw [q3 29 (by omega), q3 31 (by omega), q3 32 (by omega), q3 33 (by omega)]
    exact hX
  have e2 : w1 0 2 = j := by rw [q3 0 (by omega), h2]
  have e6 : w1 j 6 = P 0 6 := by
    have := hT 0 (by omega) (by omega) 6
    rw [Int.add_zero] at this
    rw [q3 j (by omega)]
    exact this
  refine ⟨zup (zup w1 29 2 0) 41 7 1, ?_, ?_, ?_, ?_, zup_self .., fun a i n1 n2 => by rw [zup_off _ n2, zup_off _ (by omega), q3 a (by omega)]⟩
  · show Rn (d + 2) 89 0 [(2, 0), (0, x)] [] 92 w = _
    simp (disch := first | assumption | omega | (simp only [zcat_0, zcat_i, zcat_l, zcat_r, zcat_t]; omega) | simp) only [e_X7_back_0, e_X7_back_1, e_X7_back_4, e_X7_back_5, e_X7_back_6, e_X7_back_9, e_X7_back_10, e_X7_back_11, e_X7_back_12, e_X7_back_15, e_X7_back_16, e_X7_back_19, e_X7_back_22, e_X7_back_24, e_X7_back_25, e_X7_back_26, e_X7_back_29, e_X7_back_30, e_X7_back_31, e_X7_back_34, e_X7_back_37, e_X7_back_38, e_X7_back_41, e_X7_back_44, e_X7_back_45, e_X7_back_48, e_X7_back_49, e_X7_back_52, e_X7_back_53, e_X7_back_56, e_X7_back_59, zpush_i, zpush_l, zpush_v, Option.bind_some, ↓if_pos, ↓if_neg, Int.reduceAdd, w32_id, hp, q1, hpe, zup_off, e2, e6]
  · exact c1.nil.at (fun a _ _ => zup_ne (by omega))
  · unfold CS
    rw [zup_ne (by omega), zup_ne (by omega), zup_ne (by omega), zup_ne (by omega), zup_ne (by omega), zup_ne (by omega), zup_ne (by omega), zup_ne (by omega), zup_ne (by omega), zup_ne (by omega), zup_ne (by omega), zup_ne (by omega), zup_ne (by omega), zup_ne (by omega), zup_ne (by omega), zup_ne (by omega), zup_ne (by omega), zup_ne (by omega)]
    exact q2
  · rw [zup_off _ (by omega), zup_off _ (by omega), q4]
    rfl
theorem m_back0 (hx : ¬ (0 ≤ x ∧ x < 2)) : Cl (d + 1) 143 [(2, 67), (0, x)] 92 w = some ((0, -1), 92, w) := by
  have hin : Cl d 95 [(1, x), (1, 0), (1, 1)] 92 w = some ((0, if 0 ≤ x ∧ x ≤ 1 then 1 else 0), 92, w) := m_in
  rw [if_neg (by omega)] at hin
  show Rn (d + 1) 143 0 [(2, 67), (0, x)] [] 92 w = _
  simp (disch := first | assumption | omega | (simp only [zcat_0, zcat_i, zcat_l, zcat_r, zcat_t]; omega) | simp) only [e_X8_back_0, e_X8_back_1, e_X8_back_2, e_X8_back_3, e_X8_back_4, e_X8_back_7, e_X8_back_10, e_X8_back_11, zpush_i, zpush_l, zpush_v, Option.bind_some, ↓if_pos, ↓if_neg, Int.reduceAdd, w32_id, hin]
theorem m_back1 (hx : 0 ≤ x ∧ x < 2) (h : w 91 x = 0) : Cl (d + 1) 143 [(2, 67), (0, x)] 92 w = some ((0, -2), 92, w) := by
  have zo67 := zo_67; have zo89 := zo_89; have zl89 := zl_89; have zo90 := zo_90; have zl90 := zl_90; have zo91 := zo_91; have zl91 := zl_91
  have hin : Cl d 95 [(1, x), (1, 0), (1, 1)] 92 w = some ((0, if 0 ≤ x ∧ x ≤ 1 then 1 else 0), 92, w) := m_in
  rw [if_pos (by omega)] at hin
  show Rn (d + 1) 143 0 [(2, 67), (0, x)] [] 92 w = _
  simp (disch := first | assumption | omega | (simp only [zcat_0, zcat_i, zcat_l, zcat_r, zcat_t]; omega) | simp) only [e_X8_back_0, e_X8_back_1, e_X8_back_2, e_X8_back_3, e_X8_back_4, e_X8_back_7, e_X8_back_10, e_X8_back_11, e_X8_back_12, e_X8_back_13, e_X8_back_16, e_X8_back_17, e_X8_back_18, e_X8_back_21, e_X8_back_23, zpush_i, zpush_l, zpush_v, Option.bind_some, ↓if_pos, ↓if_neg, Int.reduceAdd, w32_id, hin, h]
theorem m_back2 (hx : 0 ≤ x ∧ x < 2) (hP : WP P) (hW : WS0 P S) (hO : PO w P) (h89 : w 89 x = packR (P 0 6) S) (h91 : w 91 x = 1) : ∃ w', Cl (d + 1) 143 [(2, 67), (0, x)] 92 w = some ((0, P 0 6), 92, w') ∧ RS w' (P 0 6) S ∧ w' 67 6 = w 90 x ∧ MPa w' (P 0 6) [] ∧ (∀ a i, a ≠ 72 → a ≠ 73 → (a ≠ 67 ∨ i ≠ 6 ∧ i ≠ 22) → w' a i = w a i) := by
  have zo67 := zo_67; have zo89 := zo_89; have zl89 := zl_89; have zo90 := zo_90; have zl90 := zl_90; have zo91 := zo_91; have zl91 := zl_91
  have hin : Cl d 95 [(1, x), (1, 0), (1, 1)] 92 w = some ((0, if 0 ≤ x ∧ x ≤ 1 then 1 else 0), 92, w) := m_in
  rw [if_pos (by omega)] at hin
  obtain ⟨w1, q1, q2, q3, q4⟩ := m_open (d := d) (w := w) (S := S) hP hW
  have e1 : w1 67 1 = P 0 6 := by rw [q3 67 1 (by omega) (by omega) (by omega), hO.1]
  have e90 : w1 90 x = w 90 x := q3 90 x (by omega) (by omega) (by omega)
  refine ⟨zup (zup w1 67 6 (w 90 x)) 67 22 0, ?_, (q2.at (w' := zup w1 67 6 (w 90 x)) (zup_ne (by omega))).at (zup_ne (by omega)), by rw [zup_off _ (by omega), zup_self], ⟨by rw [zup_self]; rfl, by simp, fun i hi => absurd hi (Nat.not_lt_zero _)⟩, fun a i n1 n2 n3 => by rw [zup_off _ (by omega), zup_off _ (by omega), q3 a i n1 n2 (by omega)]⟩
  show Rn (d + 1) 143 0 [(2, 67), (0, x)] [] 92 w = _
  simp (disch := first | assumption | omega | (simp only [zcat_0, zcat_i, zcat_l, zcat_r, zcat_t]; omega) | simp) only [e_X8_back_0, e_X8_back_1, e_X8_back_2, e_X8_back_3, e_X8_back_4, e_X8_back_7, e_X8_back_10, e_X8_back_11, e_X8_back_12, e_X8_back_13, e_X8_back_16, e_X8_back_17, e_X8_back_18, e_X8_back_21, e_X8_back_23, e_X8_back_24, e_X8_back_25, e_X8_back_26, e_X8_back_29, e_X8_back_30, e_X8_back_31, e_X8_back_34, e_X8_back_35, e_X8_back_36, e_X8_back_39, e_X8_back_40, e_X8_back_41, e_X8_back_44, e_X8_back_45, e_X8_back_46, e_X8_back_49, e_X8_back_50, e_X8_back_53, zpush_i, zpush_l, zpush_v, Option.bind_some, ↓if_pos, ↓if_neg, Int.reduceAdd, w32_id, hin, h89, h91, q1, zup_off, e1, e90]
/-! count -/
def qCt (P : Pg) (S : Sc) (f : Int) (q l h : Nat) (x : Int) : Int := if x = 0 then P 0 6 else if x = 1 then S.2.length else if x = 2 then f else if x = 3 then q else if x = 4 then l else if x = 5 then h else -1
theorem r_count {T : List Int} (h2 : w 0 2 = j) (hj : isT j) (hT : TO w j P) (hC : CS w 19 S) (hQ : CSg w Q) (hX : CPa w H) (hL : CX0 w T) : Cl d 90 [(2, 0), (0, x)] 92 w = some ((0, qCt P S (w 19 10) Q.length T.length H.length x), 92, w) := by
  have zo0 := zo_0; have zo19 := zo_19; have zo29 := zo_29; have zo38 := zo_38
  obtain ⟨t0, tn, t1, u1, t2, u2, t3, u3, t4, u4, t5, u5, t6, u6⟩ := sTall hj
  have e6 : w j 6 = P 0 6 := by
    have := hT 0 (by omega) (by omega) 6
    rw [Int.add_zero] at this
    exact this
  have e9 := hC.2.2.1
  have e1 := hQ.1
  have e2 := hX.1
  have e3 := hL.1
  show Rn d 90 0 [(2, 0), (0, x)] [] 92 w = _
  unfold qCt
  by_cases c0 : x = 0
  · subst c0
    simp (disch := first | assumption | omega | (simp only [zcat_0, zcat_i, zcat_l, zcat_r, zcat_t]; omega) | simp) only [e_X7_count_0, e_X7_count_1_k0, e_X7_count_1_k1, e_X7_count_1_k2, e_X7_count_1_k3, e_X7_count_1_k4, e_X7_count_1_k5, e_X7_count_1_o, e_X7_count_40, e_X7_count_41, e_X7_count_44, e_X7_count_47, e_X7_count_48, e_X7_count_49, e_X7_count_52, e_X7_count_55, e_X7_count_56, e_X7_count_57, e_X7_count_60, e_X7_count_63, e_X7_count_64, e_X7_count_65, e_X7_count_68, e_X7_count_71, e_X7_count_72, e_X7_count_73, e_X7_count_76, e_X7_count_77, e_X7_count_78, e_X7_count_81, e_X7_count_84, e_X7_count_85, e_X7_count_86, zpush_i, zpush_l, zpush_v, Option.bind_some, ↓if_pos, ↓if_neg, Int.reduceAdd, w32_id, h2, e6]
  by_cases c1 : x = 1
  · subst c1
    simp (disch := first | assumption | omega | (simp only [zcat_0, zcat_i, zcat_l, zcat_r, zcat_t]; omega) | simp) only [e_X7_count_0, e_X7_count_1_k0, e_X7_count_1_k1, e_X7_count_1_k2, e_X7_count_1_k3, e_X7_count_1_k4, e_X7_count_1_k5, e_X7_count_1_o, e_X7_count_40, e_X7_count_41, e_X7_count_44, e_X7_count_47, e_X7_count_48, e_X7_count_49, e_X7_count_52, e_X7_count_55, e_X7_count_56, e_X7_count_57, e_X7_count_60, e_X7_count_63, e_X7_count_64, e_X7_count_65, e_X7_count_68, e_X7_count_71, e_X7_count_72, e_X7_count_73, e_X7_count_76, e_X7_count_77, e_X7_count_78, e_X7_count_81, e_X7_count_84, e_X7_count_85, e_X7_count_86, zpush_i, zpush_l, zpush_v, Option.bind_some, ↓if_pos, ↓if_neg, Int.reduceAdd, w32_id, e9]
  by_cases c2 : x = 2
  · subst c2
    simp (disch := first | assumption | omega | (simp only [zcat_0, zcat_i, zcat_l, zcat_r, zcat_t]; omega) | simp) only [e_X7_count_0, e_X7_count_1_k0, e_X7_count_1_k1, e_X7_count_1_k2, e_X7_count_1_k3, e_X7_count_1_k4, e_X7_count_1_k5, e_X7_count_1_o, e_X7_count_40, e_X7_count_41, e_X7_count_44, e_X7_count_47, e_X7_count_48, e_X7_count_49, e_X7_count_52, e_X7_count_55, e_X7_count_56, e_X7_count_57, e_X7_count_60, e_X7_count_63, e_X7_count_64, e_X7_count_65, e_X7_count_68, e_X7_count_71, e_X7_count_72, e_X7_count_73, e_X7_count_76, e_X7_count_77, e_X7_count_78, e_X7_count_81, e_X7_count_84, e_X7_count_85, e_X7_count_86, zpush_i, zpush_l, zpush_v, Option.bind_some, ↓if_pos, ↓if_neg, Int.reduceAdd, w32_id]
  by_cases c3 : x = 3
  · subst c3
    simp (disch := first | assumption | omega | (simp only [zcat_0, zcat_i, zcat_l, zcat_r, zcat_t]; omega) | simp) only [e_X7_count_0, e_X7_count_1_k0, e_X7_count_1_k1, e_X7_count_1_k2, e_X7_count_1_k3, e_X7_count_1_k4, e_X7_count_1_k5, e_X7_count_1_o, e_X7_count_40, e_X7_count_41, e_X7_count_44, e_X7_count_47, e_X7_count_48, e_X7_count_49, e_X7_count_52, e_X7_count_55, e_X7_count_56, e_X7_count_57, e_X7_count_60, e_X7_count_63, e_X7_count_64, e_X7_count_65, e_X7_count_68, e_X7_count_71, e_X7_count_72, e_X7_count_73, e_X7_count_76, e_X7_count_77, e_X7_count_78, e_X7_count_81, e_X7_count_84, e_X7_count_85, e_X7_count_86, zpush_i, zpush_l, zpush_v, Option.bind_some, ↓if_pos, ↓if_neg, Int.reduceAdd, w32_id, e1]
  by_cases c4 : x = 4
  · subst c4
    simp (disch := first | assumption | omega | (simp only [zcat_0, zcat_i, zcat_l, zcat_r, zcat_t]; omega) | simp) only [e_X7_count_0, e_X7_count_1_k0, e_X7_count_1_k1, e_X7_count_1_k2, e_X7_count_1_k3, e_X7_count_1_k4, e_X7_count_1_k5, e_X7_count_1_o, e_X7_count_40, e_X7_count_41, e_X7_count_44, e_X7_count_47, e_X7_count_48, e_X7_count_49, e_X7_count_52, e_X7_count_55, e_X7_count_56, e_X7_count_57, e_X7_count_60, e_X7_count_63, e_X7_count_64, e_X7_count_65, e_X7_count_68, e_X7_count_71, e_X7_count_72, e_X7_count_73, e_X7_count_76, e_X7_count_77, e_X7_count_78, e_X7_count_81, e_X7_count_84, e_X7_count_85, e_X7_count_86, zpush_i, zpush_l, zpush_v, Option.bind_some, ↓if_pos, ↓if_neg, Int.reduceAdd, w32_id, e3]
  by_cases c5 : x = 5
  · subst c5
    simp (disch := first | assumption | omega | (simp only [zcat_0, zcat_i, zcat_l, zcat_r, zcat_t]; omega) | simp) only [e_X7_count_0, e_X7_count_1_k0, e_X7_count_1_k1, e_X7_count_1_k2, e_X7_count_1_k3, e_X7_count_1_k4, e_X7_count_1_k5, e_X7_count_1_o, e_X7_count_40, e_X7_count_41, e_X7_count_44, e_X7_count_47, e_X7_count_48, e_X7_count_49, e_X7_count_52, e_X7_count_55, e_X7_count_56, e_X7_count_57, e_X7_count_60, e_X7_count_63, e_X7_count_64, e_X7_count_65, e_X7_count_68, e_X7_count_71, e_X7_count_72, e_X7_count_73, e_X7_count_76, e_X7_count_77, e_X7_count_78, e_X7_count_81, e_X7_count_84, e_X7_count_85, e_X7_count_86, zpush_i, zpush_l, zpush_v, Option.bind_some, ↓if_pos, ↓if_neg, Int.reduceAdd, w32_id, e2]
  · rw [e_X7_count_0, e_X7_count_1_o (by omega)]
    simp (disch := first | assumption | omega | (simp only [zcat_0, zcat_i, zcat_l, zcat_r, zcat_t]; omega) | simp) only [e_X7_count_85, e_X7_count_86, zpush_i, zpush_l, zpush_v, Option.bind_some, ↓if_pos, ↓if_neg, Int.reduceAdd, w32_id]
theorem m_rowLength (hR : RS w (P 0 6) S) (hW : WS0 P S) : Cl d 144 [(2, 67)] 92 w = some ((0, (S.2.length : Int)), 92, w) := by
  have zo67 := zo_67; have zo72 := zo_72; have zl72 := zl_72
  have hl := row_len hW
  have hc : ∀ i : Nat, i < 4 → w 72 (21 + i) = (if i < S.2.length then S.2.getD i 0 + 1 else 0) := fun i hi => hR.2.2 i hi
  have hp : ∀ i : Nat, i < S.2.length → 0 ≤ S.2.getD i 0 := fun i hi => ((hW.2.2.2 _).mp (getD_mem (l := S.2) hi)).1
  have hf : ∀ i : Nat, i < 4 → (0 < w 72 (21 + i) ↔ i < S.2.length) := fun i hi => by
    have h1 := hc i hi
    have h2 := hp i
    split at h1 <;> omega
  have f0 : 0 < w 72 21 ↔ 0 < S.2.length := hf 0 (by omega)
  have f1 : 0 < w 72 22 ↔ 1 < S.2.length := hf 1 (by omega)
  have f2 : 0 < w 72 23 ↔ 2 < S.2.length := hf 2 (by omega)
  have f3 : 0 < w 72 24 ↔ 3 < S.2.length := hf 3 (by omega)
  show Rn d 144 0 [(2, 67), (9, 0), (9, 0)] [] 92 w = _
  by_cases c0 : S.2.length = 0
  · rw [c0]
    simp (disch := first | assumption | omega | (simp only [zcat_0, zcat_i, zcat_l, zcat_r, zcat_t]; omega) | simp) only [e_X8_rowLength_0, e_X8_rowLength_1, e_X8_rowLength_2, e_X8_rowLength_3, e_X8_rowLength_4, e_X8_rowLength_5, e_X8_rowLength_6, e_X8_rowLength_9, e_X8_rowLength_10, e_X8_rowLength_11, e_X8_rowLength_14, e_X8_rowLength_16, e_X8_rowLength_17, e_X8_rowLength_18, e_X8_rowLength_19, e_X8_rowLength_22, e_X8_rowLength_23, e_X8_rowLength_26, e_X8_rowLength_27, e_X8_rowLength_28, e_X8_rowLength_29, e_X8_rowLength_32, e_X8_rowLength_35, e_X8_rowLength_36, zpush_i, zpush_l, zpush_v, Option.bind_some, ↓if_pos, ↓if_neg, Int.reduceAdd, w32_id]
    rfl
  by_cases c1 : S.2.length = 1
  · rw [c1]
    simp (disch := first | assumption | omega | (simp only [zcat_0, zcat_i, zcat_l, zcat_r, zcat_t]; omega) | simp) only [e_X8_rowLength_0, e_X8_rowLength_1, e_X8_rowLength_2, e_X8_rowLength_3, e_X8_rowLength_4, e_X8_rowLength_5, e_X8_rowLength_6, e_X8_rowLength_9, e_X8_rowLength_10, e_X8_rowLength_11, e_X8_rowLength_14, e_X8_rowLength_16, e_X8_rowLength_17, e_X8_rowLength_18, e_X8_rowLength_19, e_X8_rowLength_22, e_X8_rowLength_23, e_X8_rowLength_26, e_X8_rowLength_27, e_X8_rowLength_28, e_X8_rowLength_29, e_X8_rowLength_32, e_X8_rowLength_35, e_X8_rowLength_36, zpush_i, zpush_l, zpush_v, Option.bind_some, ↓if_pos, ↓if_neg, Int.reduceAdd, w32_id]
    rfl
  by_cases c2 : S.2.length = 2
  · rw [c2]
    simp (disch := first | assumption | omega | (simp only [zcat_0, zcat_i, zcat_l, zcat_r, zcat_t]; omega) | simp) only [e_X8_rowLength_0, e_X8_rowLength_1, e_X8_rowLength_2, e_X8_rowLength_3, e_X8_rowLength_4, e_X8_rowLength_5, e_X8_rowLength_6, e_X8_rowLength_9, e_X8_rowLength_10, e_X8_rowLength_11, e_X8_rowLength_14, e_X8_rowLength_16, e_X8_rowLength_17, e_X8_rowLength_18, e_X8_rowLength_19, e_X8_rowLength_22, e_X8_rowLength_23, e_X8_rowLength_26, e_X8_rowLength_27, e_X8_rowLength_28, e_X8_rowLength_29, e_X8_rowLength_32, e_X8_rowLength_35, e_X8_rowLength_36, zpush_i, zpush_l, zpush_v, Option.bind_some, ↓if_pos, ↓if_neg, Int.reduceAdd, w32_id]
    rfl
  by_cases c3 : S.2.length = 3
  · rw [c3]
    simp (disch := first | assumption | omega | (simp only [zcat_0, zcat_i, zcat_l, zcat_r, zcat_t]; omega) | simp) only [e_X8_rowLength_0, e_X8_rowLength_1, e_X8_rowLength_2, e_X8_rowLength_3, e_X8_rowLength_4, e_X8_rowLength_5, e_X8_rowLength_6, e_X8_rowLength_9, e_X8_rowLength_10, e_X8_rowLength_11, e_X8_rowLength_14, e_X8_rowLength_16, e_X8_rowLength_17, e_X8_rowLength_18, e_X8_rowLength_19, e_X8_rowLength_22, e_X8_rowLength_23, e_X8_rowLength_26, e_X8_rowLength_27, e_X8_rowLength_28, e_X8_rowLength_29, e_X8_rowLength_32, e_X8_rowLength_35, e_X8_rowLength_36, zpush_i, zpush_l, zpush_v, Option.bind_some, ↓if_pos, ↓if_neg, Int.reduceAdd, w32_id]
    rfl
  · have c4 : S.2.length = 4 := by omega
    rw [c4]
    simp (disch := first | assumption | omega | (simp only [zcat_0, zcat_i, zcat_l, zcat_r, zcat_t]; omega) | simp) only [e_X8_rowLength_0, e_X8_rowLength_1, e_X8_rowLength_2, e_X8_rowLength_3, e_X8_rowLength_4, e_X8_rowLength_5, e_X8_rowLength_6, e_X8_rowLength_9, e_X8_rowLength_10, e_X8_rowLength_11, e_X8_rowLength_14, e_X8_rowLength_16, e_X8_rowLength_17, e_X8_rowLength_18, e_X8_rowLength_19, e_X8_rowLength_22, e_X8_rowLength_23, e_X8_rowLength_26, e_X8_rowLength_27, e_X8_rowLength_28, e_X8_rowLength_29, e_X8_rowLength_32, e_X8_rowLength_35, e_X8_rowLength_36, zpush_i, zpush_l, zpush_v, Option.bind_some, ↓if_pos, ↓if_neg, Int.reduceAdd, w32_id]
    rfl
theorem m_count {T : List Int} (hR : RS w (P 0 6) S) (hW : WS0 P S) (hO : PO w P) (hQ : MSg w Q) (hX : MPa w (P 0 6) H) (hL : MX0 w T) : Cl (d + 1) 145 [(2, 67), (0, x)] 92 w = some ((0, qCt P S (w 67 6) Q.length T.length H.length x), 92, w) := by
  have zo67 := zo_67
  have er := m_rowLength (d := d) hR hW
  have e0 := hO.1
  have e1 := hQ.1
  have e2 := hX.1
  have e3 := hL.1
  show Rn (d + 1) 145 0 [(2, 67), (0, x)] [] 92 w = _
  unfold qCt
  by_cases c0 : x = 0
  · subst c0
    simp (disch := first | assumption | omega | (simp only [zcat_0, zcat_i, zcat_l, zcat_r, zcat_t]; omega) | simp) only [e_X8_count_0, e_X8_count_1_k0, e_X8_count_1_k1, e_X8_count_1_k2, e_X8_count_1_k3, e_X8_count_1_k4, e_X8_count_1_k5, e_X8_count_1_o, e_X8_count_40, e_X8_count_41, e_X8_count_44, e_X8_count_45, e_X8_count_46, e_X8_count_49, e_X8_count_50, e_X8_count_51, e_X8_count_54, e_X8_count_55, e_X8_count_56, e_X8_count_59, e_X8_count_60, e_X8_count_61, e_X8_count_64, e_X8_count_65, e_X8_count_66, e_X8_count_69, e_X8_count_70, e_X8_count_71, zpush_i, zpush_l, zpush_v, Option.bind_some, ↓if_pos, ↓if_neg, Int.reduceAdd, w32_id, e0]
  by_cases c1 : x = 1
  · subst c1
    simp (disch := first | assumption | omega | (simp only [zcat_0, zcat_i, zcat_l, zcat_r, zcat_t]; omega) | simp) only [e_X8_count_0, e_X8_count_1_k0, e_X8_count_1_k1, e_X8_count_1_k2, e_X8_count_1_k3, e_X8_count_1_k4, e_X8_count_1_k5, e_X8_count_1_o, e_X8_count_40, e_X8_count_41, e_X8_count_44, e_X8_count_45, e_X8_count_46, e_X8_count_49, e_X8_count_50, e_X8_count_51, e_X8_count_54, e_X8_count_55, e_X8_count_56, e_X8_count_59, e_X8_count_60, e_X8_count_61, e_X8_count_64, e_X8_count_65, e_X8_count_66, e_X8_count_69, e_X8_count_70, e_X8_count_71, zpush_i, zpush_l, zpush_v, Option.bind_some, ↓if_pos, ↓if_neg, Int.reduceAdd, w32_id, er]
  by_cases c2 : x = 2
  · subst c2
    simp (disch := first | assumption | omega | (simp only [zcat_0, zcat_i, zcat_l, zcat_r, zcat_t]; omega) | simp) only [e_X8_count_0, e_X8_count_1_k0, e_X8_count_1_k1, e_X8_count_1_k2, e_X8_count_1_k3, e_X8_count_1_k4, e_X8_count_1_k5, e_X8_count_1_o, e_X8_count_40, e_X8_count_41, e_X8_count_44, e_X8_count_45, e_X8_count_46, e_X8_count_49, e_X8_count_50, e_X8_count_51, e_X8_count_54, e_X8_count_55, e_X8_count_56, e_X8_count_59, e_X8_count_60, e_X8_count_61, e_X8_count_64, e_X8_count_65, e_X8_count_66, e_X8_count_69, e_X8_count_70, e_X8_count_71, zpush_i, zpush_l, zpush_v, Option.bind_some, ↓if_pos, ↓if_neg, Int.reduceAdd, w32_id]
  by_cases c3 : x = 3
  · subst c3
    simp (disch := first | assumption | omega | (simp only [zcat_0, zcat_i, zcat_l, zcat_r, zcat_t]; omega) | simp) only [e_X8_count_0, e_X8_count_1_k0, e_X8_count_1_k1, e_X8_count_1_k2, e_X8_count_1_k3, e_X8_count_1_k4, e_X8_count_1_k5, e_X8_count_1_o, e_X8_count_40, e_X8_count_41, e_X8_count_44, e_X8_count_45, e_X8_count_46, e_X8_count_49, e_X8_count_50, e_X8_count_51, e_X8_count_54, e_X8_count_55, e_X8_count_56, e_X8_count_59, e_X8_count_60, e_X8_count_61, e_X8_count_64, e_X8_count_65, e_X8_count_66, e_X8_count_69, e_X8_count_70, e_X8_count_71, zpush_i, zpush_l, zpush_v, Option.bind_some, ↓if_pos, ↓if_neg, Int.reduceAdd, w32_id, e1]
  by_cases c4 : x = 4
  · subst c4
    simp (disch := first | assumption | omega | (simp only [zcat_0, zcat_i, zcat_l, zcat_r, zcat_t]; omega) | simp) only [e_X8_count_0, e_X8_count_1_k0, e_X8_count_1_k1, e_X8_count_1_k2, e_X8_count_1_k3, e_X8_count_1_k4, e_X8_count_1_k5, e_X8_count_1_o, e_X8_count_40, e_X8_count_41, e_X8_count_44, e_X8_count_45, e_X8_count_46, e_X8_count_49, e_X8_count_50, e_X8_count_51, e_X8_count_54, e_X8_count_55, e_X8_count_56, e_X8_count_59, e_X8_count_60, e_X8_count_61, e_X8_count_64, e_X8_count_65, e_X8_count_66, e_X8_count_69, e_X8_count_70, e_X8_count_71, zpush_i, zpush_l, zpush_v, Option.bind_some, ↓if_pos, ↓if_neg, Int.reduceAdd, w32_id, e3]
  by_cases c5 : x = 5
  · subst c5
    simp (disch := first | assumption | omega | (simp only [zcat_0, zcat_i, zcat_l, zcat_r, zcat_t]; omega) | simp) only [e_X8_count_0, e_X8_count_1_k0, e_X8_count_1_k1, e_X8_count_1_k2, e_X8_count_1_k3, e_X8_count_1_k4, e_X8_count_1_k5, e_X8_count_1_o, e_X8_count_40, e_X8_count_41, e_X8_count_44, e_X8_count_45, e_X8_count_46, e_X8_count_49, e_X8_count_50, e_X8_count_51, e_X8_count_54, e_X8_count_55, e_X8_count_56, e_X8_count_59, e_X8_count_60, e_X8_count_61, e_X8_count_64, e_X8_count_65, e_X8_count_66, e_X8_count_69, e_X8_count_70, e_X8_count_71, zpush_i, zpush_l, zpush_v, Option.bind_some, ↓if_pos, ↓if_neg, Int.reduceAdd, w32_id, e2]
  · rw [e_X8_count_0, e_X8_count_1_o (by omega)]
    simp (disch := first | assumption | omega | (simp only [zcat_0, zcat_i, zcat_l, zcat_r, zcat_t]; omega) | simp) only [e_X8_count_70, e_X8_count_71, zpush_i, zpush_l, zpush_v, Option.bind_some, ↓if_pos, ↓if_neg, Int.reduceAdd, w32_id]
end V2
