section Q8
variable {d : Nat} {w : zW} {j x p t : Int} {S : Sc} {P : Pg} {Q : Sg}
/-- the text: letters, how many -/
def CX0 (w : zW) (T : List Int) : Prop := w 0 1 = T.length ∧ ∀ i : Nat, i < T.length → w 1 i = T.getD i 0
def MX0 (w : zW) (T : List Int) : Prop := w 67 9 = T.length ∧ ∀ i : Nat, i < T.length → w 74 i = T.getD i 0
def qTy (T : List Int) (x : Int) : Int × List Int := if x < 0 ∨ 255 < x then (-1, T) else if T.length = 120 then (-3, T) else (T.length + 1, T ++ [x])
theorem gd_lt {T : List Int} {x : Int} {i : Nat} (h : i < T.length) : (T ++ [x]).getD i 0 = T.getD i 0 := getD_al h
theorem r_type {T : List Int} (hl : T.length ≤ 120) (hX : CX0 w T) : ∃ w', Cl d 73 [(2, 0), (0, x)] 92 w = some ((0, (qTy T x).1), 92, w') ∧ CX0 w' (qTy T x).2 ∧ (∀ a i, a ≠ 1 → (a ≠ 0 ∨ i ≠ 1) → w' a i = w a i) := by
  have zo0 := zo_0; have zo1 := zo_1; have zl1 := zl_1
  obtain ⟨e1, e2⟩ := id hX
  unfold qTy
  by_cases c : x < 0 ∨ 255 < x
  · rw [if_pos c]
    refine ⟨w, ?_, hX, fun _ _ _ _ => rfl⟩
    show Rn d 73 0 [(2, 0), (0, x)] [] 92 w = _
    by_cases c1 : x < 0
    · simp (disch := first | assumption | omega | (simp only [zcat_0, zcat_i, zcat_l, zcat_r, zcat_t]; omega) | simp) only [e_X7_type_0, e_X7_type_1, e_X7_type_4, e_X7_type_5, e_X7_type_8, e_X7_type_11, e_X7_type_12, zpush_i, zpush_l, zpush_v, Option.bind_some, ↓if_pos, ↓if_neg, Int.reduceAdd, w32_id]
    · simp (disch := first | assumption | omega | (simp only [zcat_0, zcat_i, zcat_l, zcat_r, zcat_t]; omega) | simp) only [e_X7_type_0, e_X7_type_1, e_X7_type_4, e_X7_type_5, e_X7_type_8, e_X7_type_11, e_X7_type_12, zpush_i, zpush_l, zpush_v, Option.bind_some, ↓if_pos, ↓if_neg, Int.reduceAdd, w32_id]
  rw [if_neg c]
  by_cases c2 : T.length = 120
  · rw [if_pos c2]
    refine ⟨w, ?_, hX, fun _ _ _ _ => rfl⟩
    show Rn d 73 0 [(2, 0), (0, x)] [] 92 w = _
    simp (disch := first | assumption | omega | (simp only [zcat_0, zcat_i, zcat_l, zcat_r, zcat_t]; omega) | simp) only [e_X7_type_0, e_X7_type_1, e_X7_type_4, e_X7_type_5, e_X7_type_8, e_X7_type_11, e_X7_type_12, e_X7_type_13, e_X7_type_14, e_X7_type_17, e_X7_type_19, e_X7_type_22, e_X7_type_24, zpush_i, zpush_l, zpush_v, Option.bind_some, ↓if_pos, ↓if_neg, Int.reduceAdd, w32_id, e1]
  rw [if_neg c2]
  refine ⟨zup (zup w 1 T.length x) 0 1 (T.length + 1), ?_, ⟨?_, fun i hi => ?_⟩, fun a i h1 h2 => by rw [zup_off _ h2, zup_off _ (Or.inl h1)]⟩
  · show Rn d 73 0 [(2, 0), (0, x)] [] 92 w = _
    simp (disch := first | assumption | omega | (simp only [zcat_0, zcat_i, zcat_l, zcat_r, zcat_t]; omega) | simp) only [e_X7_type_0, e_X7_type_1, e_X7_type_4, e_X7_type_5, e_X7_type_8, e_X7_type_11, e_X7_type_12, e_X7_type_13, e_X7_type_14, e_X7_type_17, e_X7_type_19, e_X7_type_22, e_X7_type_24, e_X7_type_25, e_X7_type_26, e_X7_type_29, e_X7_type_30, e_X7_type_33, e_X7_type_34, e_X7_type_35, e_X7_type_36, e_X7_type_37, e_X7_type_40, e_X7_type_41, e_X7_type_42, e_X7_type_45, e_X7_type_46, e_X7_type_49, zpush_i, zpush_l, zpush_v, Option.bind_some, ↓if_pos, ↓if_neg, Int.reduceAdd, w32_id, e1, zup_off, zup_self]
  · rw [zup_self, List.length_append]
    rfl
  · rw [zup_off _ (Or.inl (by omega))]
    by_cases ci : i < T.length
    · rw [zup_off _ (Or.inr (by omega)), e2 i ci]
      exact (gd_lt ci).symm
    · have : i = T.length := by simp at hi; omega
      subst this
      rw [zup_self]
      exact (getD_as T x).symm
theorem m_type {T : List Int} (hl : T.length ≤ 120) (hX : MX0 w T) : ∃ w', Cl (d + 1) 112 [(2, 67), (0, x)] 92 w = some ((0, (qTy T x).1), 92, w') ∧ MX0 w' (qTy T x).2 ∧ (∀ a i, a ≠ 74 → (a ≠ 67 ∨ i ≠ 9) → w' a i = w a i) := by
  have zo67 := zo_67; have zo74 := zo_74; have zl74 := zl_74
  obtain ⟨e1, e2⟩ := id hX
  have hin : Cl d 95 [(1, x), (1, 0), (1, 255)] 92 w = some ((0, if 0 ≤ x ∧ x ≤ 255 then 1 else 0), 92, w) := m_in
  unfold qTy
  by_cases c : x < 0 ∨ 255 < x
  · rw [if_pos c]
    rw [if_neg (by omega)] at hin
    refine ⟨w, ?_, hX, fun _ _ _ _ => rfl⟩
    show Rn (d + 1) 112 0 [(2, 67), (0, x)] [] 92 w = _
    simp (disch := first | assumption | omega | (simp only [zcat_0, zcat_i, zcat_l, zcat_r, zcat_t]; omega) | simp) only [e_X8_type_0, e_X8_type_1, e_X8_type_2, e_X8_type_3, e_X8_type_6, e_X8_type_9, e_X8_type_12, e_X8_type_13, zpush_i, zpush_l, zpush_v, Option.bind_some, ↓if_pos, ↓if_neg, Int.reduceAdd, w32_id, hin]
  rw [if_neg c]
  rw [if_pos (by omega)] at hin
  by_cases c2 : T.length = 120
  · rw [if_pos c2]
    refine ⟨w, ?_, hX, fun _ _ _ _ => rfl⟩
    show Rn (d + 1) 112 0 [(2, 67), (0, x)] [] 92 w = _
    simp (disch := first | assumption | omega | (simp only [zcat_0, zcat_i, zcat_l, zcat_r, zcat_t]; omega) | simp) only [e_X8_type_0, e_X8_type_1, e_X8_type_2, e_X8_type_3, e_X8_type_6, e_X8_type_9, e_X8_type_12, e_X8_type_13, e_X8_type_14, e_X8_type_15, e_X8_type_18, e_X8_type_20, e_X8_type_23, e_X8_type_25, zpush_i, zpush_l, zpush_v, Option.bind_some, ↓if_pos, ↓if_neg, Int.reduceAdd, w32_id, hin, e1]
  rw [if_neg c2]
  refine ⟨zup (zup w 74 T.length x) 67 9 (T.length + 1), ?_, ⟨?_, fun i hi => ?_⟩, fun a i h1 h2 => by rw [zup_off _ h2, zup_off _ (Or.inl h1)]⟩
  · show Rn (d + 1) 112 0 [(2, 67), (0, x)] [] 92 w = _
    simp (disch := first | assumption | omega | (simp only [zcat_0, zcat_i, zcat_l, zcat_r, zcat_t]; omega) | simp) only [e_X8_type_0, e_X8_type_1, e_X8_type_2, e_X8_type_3, e_X8_type_6, e_X8_type_9, e_X8_type_12, e_X8_type_13, e_X8_type_14, e_X8_type_15, e_X8_type_18, e_X8_type_20, e_X8_type_23, e_X8_type_25, e_X8_type_26, e_X8_type_27, e_X8_type_30, e_X8_type_31, e_X8_type_34, e_X8_type_35, e_X8_type_36, e_X8_type_37, e_X8_type_38, e_X8_type_41, e_X8_type_42, e_X8_type_43, e_X8_type_46, e_X8_type_47, e_X8_type_50, zpush_i, zpush_l, zpush_v, Option.bind_some, ↓if_pos, ↓if_neg, Int.reduceAdd, w32_id, hin, e1, zup_off, zup_self]
  · rw [zup_self, List.length_append]
    rfl
  · rw [zup_off _ (Or.inl (by omega))]
    by_cases ci : i < T.length
    · rw [zup_off _ (Or.inr (by omega)), e2 i ci]
      exact (gd_lt ci).symm
    · have : i = T.length := by simp at hi; omega
      subst this
      rw [zup_self]
      exact (getD_as T x).symm
theorem r_clear {T : List Int} (hX : CX0 w T) : Cl d 74 [(2, 0)] 92 w = some ((0, (T.length : Int)), 92, zup w 0 1 0) := by
  have zo0 := zo_0
  have e1 := hX.1
  show Rn d 74 0 [(2, 0), (9, 0)] [] 92 w = _
  simp (disch := first | assumption | omega | (simp only [zcat_0, zcat_i, zcat_l, zcat_r, zcat_t]; omega) | simp) only [e_X7_clear_0, e_X7_clear_1, e_X7_clear_4, e_X7_clear_5, e_X7_clear_6, e_X7_clear_7, e_X7_clear_10, e_X7_clear_11, zpush_i, zpush_l, zpush_v, Option.bind_some, ↓if_pos, ↓if_neg, Int.reduceAdd, w32_id, e1]
theorem m_clear {T : List Int} (hX : MX0 w T) : Cl d 113 [(2, 67)] 92 w = some ((0, (T.length : Int)), 92, zup w 67 9 0) := by
  have zo67 := zo_67
  have e1 := hX.1
  show Rn d 113 0 [(2, 67), (9, 0)] [] 92 w = _
  simp (disch := first | assumption | omega | (simp only [zcat_0, zcat_i, zcat_l, zcat_r, zcat_t]; omega) | simp) only [e_X8_clear_0, e_X8_clear_1, e_X8_clear_4, e_X8_clear_5, e_X8_clear_6, e_X8_clear_7, e_X8_clear_10, e_X8_clear_11, zpush_i, zpush_l, zpush_v, Option.bind_some, ↓if_pos, ↓if_neg, Int.reduceAdd, w32_id, e1]
theorem r_forget (hX : CSg w Q) : Cl d 86 [(2, 0)] 92 w = some ((0, (Q.length : Int)), 92, zup w 38 2 0) := by
  have zo0 := zo_0; have zo38 := zo_38
  have e1 := hX.1
  show Rn d 86 0 [(2, 0), (9, 0)] [] 92 w = _
  simp (disch := first | assumption | omega | (simp only [zcat_0, zcat_i, zcat_l, zcat_r, zcat_t]; omega) | simp) only [e_X7_forget_0, e_X7_forget_1, e_X7_forget_4, e_X7_forget_7, e_X7_forget_8, e_X7_forget_9, e_X7_forget_12, e_X7_forget_13, e_X7_forget_16, e_X7_forget_17, zpush_i, zpush_l, zpush_v, Option.bind_some, ↓if_pos, ↓if_neg, Int.reduceAdd, w32_id, e1]
theorem m_forget (hX : MSg w Q) : Cl d 140 [(2, 67)] 92 w = some ((0, (Q.length : Int)), 92, zup w 67 39 0) := by
  have zo67 := zo_67
  have e1 := hX.1
  show Rn d 140 0 [(2, 67), (9, 0)] [] 92 w = _
  simp (disch := first | assumption | omega | (simp only [zcat_0, zcat_i, zcat_l, zcat_r, zcat_t]; omega) | simp) only [e_X8_forget_0, e_X8_forget_1, e_X8_forget_4, e_X8_forget_5, e_X8_forget_6, e_X8_forget_7, e_X8_forget_10, e_X8_forget_11, zpush_i, zpush_l, zpush_v, Option.bind_some, ↓if_pos, ↓if_neg, Int.reduceAdd, w32_id, e1]
end Q8
