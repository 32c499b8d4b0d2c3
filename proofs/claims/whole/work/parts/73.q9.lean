section Q9
variable {d : Nat} {w : zW} {j x p t : Int} {S : Sc} {P : Pg} {Q : Sg}
def qSee (Q : Sg) (p x : Int) : Int × Sg := if ¬ ((0 ≤ p ∧ p < 3) ∧ 0 ≤ x ∧ x ≤ 3) then (-1, Q) else if Q.length = 6 then (-3, Q) else (Q.length + 1, Q ++ [(p, x)])
theorem gq_lt {q : Int × Int} {i : Nat} (h : i < Q.length) : (Q ++ [q]).getD i (0, 0) = Q.getD i (0, 0) := by
  rw [List.getD_eq_getElem?_getD, List.getD_eq_getElem?_getD, List.getElem?_append_left h]
theorem gq_at (Q : Sg) (q : Int × Int) : (Q ++ [q]).getD Q.length (0, 0) = q := by
  rw [List.getD_eq_getElem?_getD, List.getElem?_append_right (by omega), Nat.sub_self]
  rfl
theorem QG.see (hQ : QG Q) : QG (qSee Q p x).2 := by
  unfold qSee
  split
  · exact hQ
  · next c =>
    split
    · exact hQ
    · next c2 =>
      have pp : 0 ≤ p ∧ p < 3 := by
        by_cases z : 0 ≤ p ∧ p < 3
        · exact z
        · exact absurd (fun y => z y.1) c
      have := hQ.1
      refine ⟨by simp; omega, fun i hi => ?_⟩
      show 0 ≤ ((Q ++ [(p, x)]).getD i (0, 0)).1 ∧ ((Q ++ [(p, x)]).getD i (0, 0)).1 < 3
      by_cases ci : i < Q.length
      · rw [gq_lt ci]; exact hQ.2 i ci
      · have : i = Q.length := by simp at hi; omega
        subst this
        rw [gq_at]
        exact pp
theorem r_sees (hQ : QG Q) (hX : CSg w Q) : ∃ w', Cl (d + 1) 85 [(2, 0), (0, p), (0, x)] 92 w = some ((0, (qSee Q p x).1), 92, w') ∧ CSg w' (qSee Q p x).2 ∧ (∀ a, a ≠ 38 → a ≠ 39 → a ≠ 40 → w' a = w a) := by
  have zo0 := zo_0; have zo38 := zo_38; have zo39 := zo_39; have zl39 := zl_39; have zo40 := zo_40; have zl40 := zl_40
  have hl := hQ.1
  obtain ⟨e1, e2⟩ := id hX
  unfold qSee
  by_cases c : ¬ ((0 ≤ p ∧ p < 3) ∧ 0 ≤ x ∧ x ≤ 3)
  · rw [if_pos c]
    refine ⟨w, ?_, hX, fun _ _ _ _ => rfl⟩
    show Rn (d + 1) 85 0 [(2, 0), (0, p), (0, x)] [] 92 w = _
    by_cases c1 : 0 ≤ p ∧ p < 3
    · have hip := c_isPlace1 (d := d) (w := w) c1.1 c1.2
      by_cases c2 : x < 0
      · simp (disch := first | assumption | omega | (simp only [zcat_0, zcat_i, zcat_l, zcat_r, zcat_t]; omega) | simp) only [e_X7_sees_0, e_X7_sees_1, e_X7_sees_4, e_X7_sees_7, e_X7_sees_8, e_X7_sees_11, e_X7_sees_12, e_X7_sees_13, e_X7_sees_16, e_X7_sees_17, zpush_i, zpush_l, zpush_v, Option.bind_some, ↓if_pos, ↓if_neg, Int.reduceAdd, w32_id, hip]
      · simp (disch := first | assumption | omega | (simp only [zcat_0, zcat_i, zcat_l, zcat_r, zcat_t]; omega) | simp) only [e_X7_sees_0, e_X7_sees_1, e_X7_sees_4, e_X7_sees_7, e_X7_sees_8, e_X7_sees_11, e_X7_sees_12, e_X7_sees_13, e_X7_sees_16, e_X7_sees_17, zpush_i, zpush_l, zpush_v, Option.bind_some, ↓if_pos, ↓if_neg, Int.reduceAdd, w32_id, hip]
    · have hip := c_isPlace0 (d := d) (w := w) c1
      simp (disch := first | assumption | omega | (simp only [zcat_0, zcat_i, zcat_l, zcat_r, zcat_t]; omega) | simp) only [e_X7_sees_0, e_X7_sees_1, e_X7_sees_4, e_X7_sees_7, e_X7_sees_8, e_X7_sees_11, e_X7_sees_12, e_X7_sees_13, e_X7_sees_16, e_X7_sees_17, zpush_i, zpush_l, zpush_v, Option.bind_some, ↓if_pos, ↓if_neg, Int.reduceAdd, w32_id, hip]
  rw [if_neg c]
  have c' : (0 ≤ p ∧ p < 3) ∧ 0 ≤ x ∧ x ≤ 3 := by
    by_cases z : (0 ≤ p ∧ p < 3) ∧ 0 ≤ x ∧ x ≤ 3
    · exact z
    · exact absurd z c
  have hip := c_isPlace1 (d := d) (w := w) c'.1.1 c'.1.2
  by_cases c6 : Q.length = 6
  · rw [if_pos c6]
    refine ⟨w, ?_, hX, fun _ _ _ _ => rfl⟩
    show Rn (d + 1) 85 0 [(2, 0), (0, p), (0, x)] [] 92 w = _
    simp (disch := first | assumption | omega | (simp only [zcat_0, zcat_i, zcat_l, zcat_r, zcat_t]; omega) | simp) only [e_X7_sees_0, e_X7_sees_1, e_X7_sees_4, e_X7_sees_7, e_X7_sees_8, e_X7_sees_11, e_X7_sees_12, e_X7_sees_13, e_X7_sees_16, e_X7_sees_17, e_X7_sees_18, e_X7_sees_19, e_X7_sees_22, e_X7_sees_25, e_X7_sees_27, e_X7_sees_30, e_X7_sees_32, zpush_i, zpush_l, zpush_v, Option.bind_some, ↓if_pos, ↓if_neg, Int.reduceAdd, w32_id, hip, e1]
  rw [if_neg c6]
  have ha : Cl d 63 [(2, 38), (0, p), (0, x)] 92 w = some ((9, 0), 92, zup (zup (zup w 39 Q.length p) 40 Q.length x) 38 2 (Q.length + 1)) := by
    show Rn d 63 0 [(2, 38), (0, p), (0, x)] [] 92 w = _
    simp (disch := first | assumption | omega | (simp only [zcat_0, zcat_i, zcat_l, zcat_r, zcat_t]; omega) | simp) only [e_X5_add_0, e_X5_add_1, e_X5_add_4, e_X5_add_7, e_X5_add_8, e_X5_add_11, e_X5_add_13, e_X5_add_16, e_X5_add_17, e_X5_add_18, e_X5_add_21, e_X5_add_22, e_X5_add_25, e_X5_add_26, e_X5_add_27, e_X5_add_28, e_X5_add_31, e_X5_add_32, e_X5_add_35, e_X5_add_36, e_X5_add_37, e_X5_add_38, e_X5_add_39, e_X5_add_42, e_X5_add_43, e_X5_add_44, e_X5_add_47, zpush_i, zpush_l, zpush_v, Option.bind_some, ↓if_pos, ↓if_neg, Int.reduceAdd, w32_id, e1, zup_off]
  refine ⟨zup (zup (zup w 39 Q.length p) 40 Q.length x) 38 2 (Q.length + 1), ?_, ⟨?_, fun i hi => ?_⟩, fun a h1 h2 h3 => by rw [zup_ne h1, zup_ne h3, zup_ne h2]⟩
  · show Rn (d + 1) 85 0 [(2, 0), (0, p), (0, x)] [] 92 w = _
    simp (disch := first | assumption | omega | (simp only [zcat_0, zcat_i, zcat_l, zcat_r, zcat_t]; omega) | simp) only [e_X7_sees_0, e_X7_sees_1, e_X7_sees_4, e_X7_sees_7, e_X7_sees_8, e_X7_sees_11, e_X7_sees_12, e_X7_sees_13, e_X7_sees_16, e_X7_sees_17, e_X7_sees_18, e_X7_sees_19, e_X7_sees_22, e_X7_sees_25, e_X7_sees_27, e_X7_sees_30, e_X7_sees_32, e_X7_sees_33, e_X7_sees_34, e_X7_sees_37, e_X7_sees_38, e_X7_sees_39, e_X7_sees_42, e_X7_sees_43, e_X7_sees_46, e_X7_sees_49, zpush_i, zpush_l, zpush_v, Option.bind_some, ↓if_pos, ↓if_neg, Int.reduceAdd, w32_id, hip, e1, ha, zup_self]
  · rw [zup_self, List.length_append]
    rfl
  · show _ = ((Q ++ [(p, x)]).getD i (0, 0)).1 ∧ _ = ((Q ++ [(p, x)]).getD i (0, 0)).2
    by_cases ci : i < Q.length
    · rw [gq_lt ci]
      simp (disch := omega) only [zup_off]
      exact e2 i ci
    · have : i = Q.length := by simp at hi; omega
      subst this
      rw [gq_at]
      simp (disch := omega) only [zup_off, zup_self]
      exact ⟨trivial, trivial⟩
theorem m_sees (hQ : QG Q) (hX : MSg w Q) : ∃ w', Cl (d + 2) 139 [(2, 67), (0, p), (0, x)] 92 w = some ((0, (qSee Q p x).1), 92, w') ∧ MSg w' (qSee Q p x).2 ∧ (∀ a i, a ≠ 88 → (a ≠ 67 ∨ i ≠ 39) → w' a i = w a i) := by
  have zo67 := zo_67; have zo88 := zo_88; have zl88 := zl_88
  have hl := hQ.1
  obtain ⟨e1, e2⟩ := id hX
  have hin : Cl (d + 1) 95 [(1, x), (1, 0), (1, 3)] 92 w = some ((0, if 0 ≤ x ∧ x ≤ 3 then 1 else 0), 92, w) := m_in
  have hip := m_isPl (d := d) (w := w) (p := p)
  unfold qSee
  by_cases c : ¬ ((0 ≤ p ∧ p < 3) ∧ 0 ≤ x ∧ x ≤ 3)
  · rw [if_pos c]
    refine ⟨w, ?_, hX, fun _ _ _ _ => rfl⟩
    show Rn (d + 2) 139 0 [(2, 67), (0, p), (0, x)] [] 92 w = _
    by_cases c1 : 0 ≤ p ∧ p < 3
    · rw [if_pos c1] at hip
      rw [if_neg (fun z => c ⟨c1, z⟩)] at hin
      simp (disch := first | assumption | omega | (simp only [zcat_0, zcat_i, zcat_l, zcat_r, zcat_t]; omega) | simp) only [e_X8_sees_0, e_X8_sees_1, e_X8_sees_4, e_X8_sees_7, e_X8_sees_8, e_X8_sees_9, e_X8_sees_10, e_X8_sees_13, e_X8_sees_16, e_X8_sees_19, e_X8_sees_20, zpush_i, zpush_l, zpush_v, Option.bind_some, ↓if_pos, ↓if_neg, Int.reduceAdd, w32_id, hip, hin]
    · rw [if_neg c1] at hip
      simp (disch := first | assumption | omega | (simp only [zcat_0, zcat_i, zcat_l, zcat_r, zcat_t]; omega) | simp) only [e_X8_sees_0, e_X8_sees_1, e_X8_sees_4, e_X8_sees_7, e_X8_sees_8, e_X8_sees_9, e_X8_sees_10, e_X8_sees_13, e_X8_sees_16, e_X8_sees_19, e_X8_sees_20, zpush_i, zpush_l, zpush_v, Option.bind_some, ↓if_pos, ↓if_neg, Int.reduceAdd, w32_id, hip]
  rw [if_neg c]
  have c' : (0 ≤ p ∧ p < 3) ∧ 0 ≤ x ∧ x ≤ 3 := by
    by_cases z : (0 ≤ p ∧ p < 3) ∧ 0 ≤ x ∧ x ≤ 3
    · exact z
    · exact absurd z c
  rw [if_pos c'.1] at hip
  rw [if_pos c'.2] at hin
  by_cases c6 : Q.length = 6
  · rw [if_pos c6]
    refine ⟨w, ?_, hX, fun _ _ _ _ => rfl⟩
    show Rn (d + 2) 139 0 [(2, 67), (0, p), (0, x)] [] 92 w = _
    simp (disch := first | assumption | omega | (simp only [zcat_0, zcat_i, zcat_l, zcat_r, zcat_t]; omega) | simp) only [e_X8_sees_0, e_X8_sees_1, e_X8_sees_4, e_X8_sees_7, e_X8_sees_8, e_X8_sees_9, e_X8_sees_10, e_X8_sees_13, e_X8_sees_16, e_X8_sees_19, e_X8_sees_20, e_X8_sees_21, e_X8_sees_22, e_X8_sees_25, e_X8_sees_27, e_X8_sees_30, e_X8_sees_32, zpush_i, zpush_l, zpush_v, Option.bind_some, ↓if_pos, ↓if_neg, Int.reduceAdd, w32_id, hip, hin, e1]
  rw [if_neg c6]
  refine ⟨zup (zup (zup w 88 (2 * Q.length) p) 88 (2 * Q.length + 1) x) 67 39 (Q.length + 1), ?_, ⟨?_, fun i hi => ?_⟩, fun a i h1 h2 => by rw [zup_off _ h2, zup_ne h1, zup_ne h1]⟩
  · show Rn (d + 2) 139 0 [(2, 67), (0, p), (0, x)] [] 92 w = _
    simp (disch := first | assumption | omega | (simp only [zcat_0, zcat_i, zcat_l, zcat_r, zcat_t]; omega) | simp) only [e_X8_sees_0, e_X8_sees_1, e_X8_sees_4, e_X8_sees_7, e_X8_sees_8, e_X8_sees_9, e_X8_sees_10, e_X8_sees_13, e_X8_sees_16, e_X8_sees_19, e_X8_sees_20, e_X8_sees_21, e_X8_sees_22, e_X8_sees_25, e_X8_sees_27, e_X8_sees_30, e_X8_sees_32, e_X8_sees_33, e_X8_sees_34, e_X8_sees_37, e_X8_sees_38, e_X8_sees_39, e_X8_sees_42, e_X8_sees_43, e_X8_sees_44, e_X8_sees_45, e_X8_sees_46, e_X8_sees_49, e_X8_sees_50, e_X8_sees_51, e_X8_sees_54, e_X8_sees_55, e_X8_sees_56, e_X8_sees_57, e_X8_sees_58, e_X8_sees_59, e_X8_sees_60, e_X8_sees_61, e_X8_sees_64, e_X8_sees_65, e_X8_sees_66, e_X8_sees_69, e_X8_sees_70, e_X8_sees_73, zpush_i, zpush_l, zpush_v, Option.bind_some, ↓if_pos, ↓if_neg, Int.reduceAdd, w32_id, hip, hin, e1, zup_off, zup_self]
  · rw [zup_self, List.length_append]
    rfl
  · show _ = ((Q ++ [(p, x)]).getD i (0, 0)).1 ∧ _ = ((Q ++ [(p, x)]).getD i (0, 0)).2
    by_cases ci : i < Q.length
    · rw [gq_lt ci]
      simp (disch := omega) only [zup_off]
      exact e2 i ci
    · have : i = Q.length := by simp at hi; omega
      subst this
      rw [gq_at]
      simp (disch := omega) only [zup_off, zup_self]
      exact ⟨trivial, trivial⟩
end Q9
