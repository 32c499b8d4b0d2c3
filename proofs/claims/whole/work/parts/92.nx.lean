section T9
variable {d : Nat} {w : zW} {L : Tk} {n : Nat} {D : Pg} {T : List Int}
def MB (w : zW) (T : List Int) (L : Tk) : Prop := ∃ p : Nat, w 67 10 = p ∧ p ≤ T.length ∧ tk (aT0 T) T.length p = L
def MH (w : zW) (T : List Int) (L : Tk) : Prop := ∃ p : Nat, w 67 10 = p ∧ p ≤ T.length ∧ (hk L ≠ -1 → tk (aT0 T) T.length p = L.tail) ∧ w 67 11 = hs L ∧ TKr (w 67 12) (w 67 13) (hk L)
/-- nothing but the reader -/
def FN (w w' : zW) : Prop := ∀ a i, (a ≠ 67 ∨ i < 10 ∨ 13 < i) → w' a i = w a i
theorem FN.rf : FN w w := fun _ _ _ => rfl
theorem FN.tr {w' w'' : zW} (h : FN w w') (h' : FN w' w'') : FN w w'' := fun a i h1 => (h' a i h1).trans (h a i h1)
theorem MX0.fn {w' : zW} (h : MX0 w T) (hF : FN w w') : MX0 w' T := ⟨by rw [hF 67 9 (by omega)]; exact h.1, fun i hi => by rw [hF 74 i (by omega)]; exact h.2 i hi⟩
theorem m_nx_b (hl : T.length ≤ 120) : ∀ (u p : Nat) (w : zW), p + u = T.length → w 67 10 = p → MX0 w T → ∃ (w' : zW) (q : Nat), Rn d 114 0 [(2, 67)] [] 92 w = Rn d 114 38 [(2, 67)] [] 92 w' ∧ w' 67 10 = q ∧ q ≤ T.length ∧ tk (aT0 T) T.length p = tk (aT0 T) T.length q ∧ (q < T.length → T.getD q 0 ≠ 32) ∧ (∀ a i, (a ≠ 67 ∨ i ≠ 10) → w' a i = w a i) := by
  have zo67 := zo_67; have zo74 := zo_74; have zl74 := zl_74
  intro u
  induction u with
  | zero =>
    intro p w hp h10 hX
    refine ⟨w, p, ?_, h10, by omega, rfl, fun z => by omega, fun _ _ _ => rfl⟩
    have e9 := hX.1
    rw [e_X8_next_0 (by omega)]
    simp (disch := first | assumption | omega | (simp only [zcat_0, zcat_i, zcat_l, zcat_r, zcat_t]; omega) | simp) only [e_X8_next_1, e_X8_next_4, e_X8_next_5, e_X8_next_8, zpush_i, zpush_l, zpush_v, Option.bind_some, ↓if_pos, ↓if_neg, Int.reduceAdd, w32_id, e9, h10]
  | succ u ih =>
    intro p w hp h10 hX
    have e9 := hX.1
    have e := hX.2 p (by omega)
    by_cases c : T.getD p 0 = 32
    · obtain ⟨w', q, q1, q2, q3, q4, q5, q6⟩ := ih (p + 1) (zup w 67 10 (p + 1)) (by omega) (by rw [zup_self]; omega) ⟨by rw [zup_off _ (by omega)]; exact hX.1, fun i hi => by rw [zup_ne (by omega)]; exact hX.2 i hi⟩
      refine ⟨w', q, ?_, q2, q3, (tk_blank (a := aT0 T) (by omega) c).trans q4, q5, fun a i h => by rw [q6 a i h, zup_off _ h]⟩
      rw [e_X8_next_0 (by omega)]
      simp (disch := first | assumption | omega | (simp only [zcat_0, zcat_i, zcat_l, zcat_r, zcat_t]; omega) | simp) only [e_X8_next_1, e_X8_next_4, e_X8_next_5, e_X8_next_8, e_X8_next_11, e_X8_next_12, e_X8_next_15, e_X8_next_16, e_X8_next_19, e_X8_next_20, e_X8_next_22, e_X8_next_25, e_X8_next_26, e_X8_next_27, e_X8_next_30, e_X8_next_31, e_X8_next_32, e_X8_next_35, zpush_i, zpush_l, zpush_v, Option.bind_some, ↓if_pos, ↓if_neg, Int.reduceAdd, w32_id, e9, h10, e]
      exact q1
    · refine ⟨w, p, ?_, h10, by omega, rfl, fun _ => c, fun _ _ _ => rfl⟩
      rw [e_X8_next_0 (by omega)]
      simp (disch := first | assumption | omega | (simp only [zcat_0, zcat_i, zcat_l, zcat_r, zcat_t]; omega) | simp) only [e_X8_next_1, e_X8_next_4, e_X8_next_5, e_X8_next_8, e_X8_next_11, e_X8_next_12, e_X8_next_15, e_X8_next_16, e_X8_next_19, e_X8_next_20, e_X8_next_22, e_X8_next_25, e_X8_next_26, e_X8_next_27, e_X8_next_30, e_X8_next_31, e_X8_next_32, e_X8_next_35, zpush_i, zpush_l, zpush_v, Option.bind_some, ↓if_pos, ↓if_neg, Int.reduceAdd, w32_id, e9, h10, e]
theorem m_nx_d (hl : T.length ≤ 120) : ∀ (u p : Nat) (w : zW), p + u = T.length → w 67 10 = p → MX0 w T → ∃ w' : zW, Rn (d + 1) 114 129 [(2, 67)] [] 92 w = Rn (d + 1) 114 181 [(2, 67)] [] 92 w' ∧ w' 67 10 = dE (aT0 T) T.length p ∧ w' 67 13 = (if dE (aT0 T) T.length p = p then w 67 13 else 99) ∧ (∀ a i, (a ≠ 67 ∨ i ≠ 10 ∧ i ≠ 13) → w' a i = w a i) := by
  have zo67 := zo_67; have zo74 := zo_74; have zl74 := zl_74
  intro u
  induction u with
  | zero =>
    intro p w hp h10 hX
    have e9 := hX.1
    rw [dE_no (by omega), if_pos rfl]
    refine ⟨w, ?_, h10, rfl, fun _ _ _ => rfl⟩
    rw [e_X8_next_129 (by omega)]
    simp (disch := first | assumption | omega | (simp only [zcat_0, zcat_i, zcat_l, zcat_r, zcat_t]; omega) | simp) only [e_X8_next_130, e_X8_next_133, e_X8_next_134, e_X8_next_137, zpush_i, zpush_l, zpush_v, Option.bind_some, ↓if_pos, ↓if_neg, Int.reduceAdd, w32_id, e9, h10]
  | succ u ih =>
    intro p w hp h10 hX
    have e9 := hX.1
    have e := hX.2 p (by omega)
    have hin : Cl d 95 [(1, T.getD p 0), (1, 48), (1, 57)] 92 w = some ((0, if 48 ≤ T.getD p 0 ∧ T.getD p 0 ≤ 57 then 1 else 0), 92, w) := m_in
    by_cases c : dg (T.getD p 0)
    · rw [if_pos c] at hin
      obtain ⟨w', q1, q2, q3, q4⟩ := ih (p + 1) (zup (zup w 67 13 99) 67 10 (p + 1)) (by omega) (by rw [zup_self]; omega) ⟨by rw [zup_off _ (by omega), zup_off _ (by omega)]; exact hX.1, fun i hi => by rw [zup_ne (by omega), zup_ne (by omega)]; exact hX.2 i hi⟩
      have hd := dE_in (a := aT0 T) (n := T.length) (i := p + 1) (by omega)
      rw [dE_yes (a := aT0 T) (by omega) c]
      refine ⟨w', ?_, q2, ?_, fun a i h => by rw [q4 a i h, zup_off _ (by omega), zup_off _ (by omega)]⟩
      · rw [e_X8_next_129 (by omega)]
        simp (disch := first | assumption | omega | (simp only [zcat_0, zcat_i, zcat_l, zcat_r, zcat_t]; omega) | simp) only [e_X8_next_130, e_X8_next_133, e_X8_next_134, e_X8_next_137, e_X8_next_140, e_X8_next_141, e_X8_next_144, e_X8_next_145, e_X8_next_148, e_X8_next_149, e_X8_next_150, e_X8_next_153, e_X8_next_156, e_X8_next_159, e_X8_next_162, e_X8_next_163, e_X8_next_165, e_X8_next_168, e_X8_next_169, e_X8_next_170, e_X8_next_173, e_X8_next_174, e_X8_next_175, e_X8_next_178, zpush_i, zpush_l, zpush_v, Option.bind_some, ↓if_pos, ↓if_neg, Int.reduceAdd, w32_id, e9, h10, e, hin, zup_off]
        exact q1
      · rw [q3, zup_off _ (by omega), zup_self, if_neg (show ¬ dE (aT0 T) T.length (p + 1) = p by omega)]
        split <;> rfl
    · rw [if_neg c] at hin
      rw [dE_no (a := aT0 T) (fun z => c z.2), if_pos rfl]
      refine ⟨w, ?_, h10, rfl, fun _ _ _ => rfl⟩
      rw [e_X8_next_129 (by omega)]
      simp (disch := first | assumption | omega | (simp only [zcat_0, zcat_i, zcat_l, zcat_r, zcat_t]; omega) | simp) only [e_X8_next_130, e_X8_next_133, e_X8_next_134, e_X8_next_137, e_X8_next_140, e_X8_next_141, e_X8_next_144, e_X8_next_145, e_X8_next_148, e_X8_next_149, e_X8_next_150, e_X8_next_153, e_X8_next_156, e_X8_next_159, zpush_i, zpush_l, zpush_v, Option.bind_some, ↓if_pos, ↓if_neg, Int.reduceAdd, w32_id, e9, h10, e, hin]
theorem m_next (hl : T.length ≤ 120) (hx : ∀ x, x ∈ T → 0 ≤ x ∧ x ≤ 255) (hX : MX0 w T) (hB : MB w T L) : ∃ w', Cl (d + 1) 114 [(2, 67)] 92 w = some ((9, 0), 92, w') ∧ MH w' T L ∧ FN w w' := by
  have zo67 := zo_67; have zo74 := zo_74; have zl74 := zl_74
  obtain ⟨p, h10, hp, hL⟩ := hB
  obtain ⟨w1, q, q1, q2, q3, q4, q5, q6⟩ := m_nx_b (d := d + 1) hl (T.length - p) p w (by omega) h10 hX
  have hX1 : MX0 w1 T := ⟨by rw [q6 67 9 (by omega)]; exact hX.1, fun i hi => by rw [q6 74 i (by omega)]; exact hX.2 i hi⟩
  have F1 : FN w w1 := fun a i h => q6 a i (by omega)
  rw [hL] at q4
  have e9 := hX1.1
  have h0 : Cl (d + 1) 114 [(2, 67)] 92 w = Rn (d + 1) 114 38 [(2, 67)] [] 92 w1 := q1
  by_cases c : q = T.length
  · rw [c, tk_over (Nat.le_refl _)] at q4
    subst q4
    rw [c] at q2
    have hin : Cl d 95 [(1, -1), (1, 48), (1, 57)] 92 (zup (zup (zup (zup w1 67 11 T.length) 67 12 (-1)) 67 10 T.length) 67 13 (-9)) = some ((0, if (48 : Int) ≤ -1 ∧ (-1 : Int) ≤ 57 then 1 else 0), 92, (zup (zup (zup (zup w1 67 11 T.length) 67 12 (-1)) 67 10 T.length) 67 13 (-9))) := m_in
    rw [if_neg (by omega)] at hin
    refine ⟨zup (zup (zup (zup w1 67 11 T.length) 67 12 (-1)) 67 10 T.length) 67 13 (-9), h0.trans ?_, ⟨T.length, by rw [zup_off _ (by omega), zup_self], by omega, fun z => absurd rfl z, ?_, ?_⟩, F1.tr (fun a i h => by rw [zup_off _ (by omega), zup_off _ (by omega), zup_off _ (by omega), zup_off _ (by omega)])⟩
    · simp (disch := first | assumption | omega | (simp only [zcat_0, zcat_i, zcat_l, zcat_r, zcat_t]; omega) | simp) only [e_X8_next_38, e_X8_next_39, e_X8_next_40, e_X8_next_43, e_X8_next_46, e_X8_next_47, e_X8_next_48, e_X8_next_51, e_X8_next_52, e_X8_next_55, e_X8_next_58, e_X8_next_59, e_X8_next_62, e_X8_next_63, e_X8_next_66, e_X8_next_67, e_X8_next_70, e_X8_next_71, e_X8_next_74, e_X8_next_75, e_X8_next_76, e_X8_next_79, e_X8_next_80, e_X8_next_83, e_X8_next_86, e_X8_next_87, e_X8_next_90, e_X8_next_91, e_X8_next_92, e_X8_next_95, e_X8_next_96, e_X8_next_98, e_X8_next_101, e_X8_next_102, e_X8_next_105, e_X8_next_106, e_X8_next_109, e_X8_next_112, e_X8_next_115, e_X8_next_187, zpush_i, zpush_l, zpush_v, Option.bind_some, ↓if_pos, ↓if_neg, Int.reduceAdd, w32_id, e9, q2, hin, zup_off, zup_self, Int.add_zero]
    · rw [zup_off _ (by omega), zup_off _ (by omega), zup_off _ (by omega), zup_self]
      rfl
    · rw [zup_off _ (by omega), zup_off _ (by omega), zup_self, zup_self]
      exact TKr.over
  have e := hX1.2 q (by omega)
  have hb := q5 (by omega)
  have hxq := hx _ (getD_mem (l := T) (i := q) (by omega))
  obtain ⟨w2, e2⟩ : ∃ w2, zup (zup (zup (zup w1 67 11 q) 67 12 (T.getD q 0)) 67 10 (q + 1)) 67 13 (-9) = w2 := ⟨_, rfl⟩
  have hin : Cl d 95 [(1, T.getD q 0), (1, 48), (1, 57)] 92 w2 = some ((0, if 48 ≤ T.getD q 0 ∧ T.getD q 0 ≤ 57 then 1 else 0), 92, w2) := m_in
  have f10 : w2 67 10 = q + 1 := by rw [← e2, zup_off _ (by omega), zup_self]
  have f11 : w2 67 11 = q := by rw [← e2, zup_off _ (by omega), zup_off _ (by omega), zup_off _ (by omega), zup_self]
  have f12 : w2 67 12 = T.getD q 0 := by rw [← e2, zup_off _ (by omega), zup_off _ (by omega), zup_self]
  have f13 : w2 67 13 = -9 := by rw [← e2, zup_self]
  have F2 : FN w1 w2 := fun a i h => by rw [← e2, zup_off _ (by omega), zup_off _ (by omega), zup_off _ (by omega), zup_off _ (by omega)]
  have h1 : Rn (d + 1) 114 38 [(2, 67)] [] 92 w1 = Rn (d + 1) 114 115 [(2, 67)] [(0, if 48 ≤ T.getD q 0 ∧ T.getD q 0 ≤ 57 then 1 else 0)] 92 w2 := by
    rw [← e2] at hin ⊢
    simp (disch := first | assumption | omega | (simp only [zcat_0, zcat_i, zcat_l, zcat_r, zcat_t]; omega) | simp) only [e_X8_next_38, e_X8_next_39, e_X8_next_40, e_X8_next_43, e_X8_next_46, e_X8_next_47, e_X8_next_48, e_X8_next_51, e_X8_next_52, e_X8_next_55, e_X8_next_58, e_X8_next_59, e_X8_next_62, e_X8_next_63, e_X8_next_66, e_X8_next_67, e_X8_next_70, e_X8_next_71, e_X8_next_74, e_X8_next_75, e_X8_next_76, e_X8_next_79, e_X8_next_80, e_X8_next_83, e_X8_next_86, e_X8_next_87, e_X8_next_90, e_X8_next_91, e_X8_next_92, e_X8_next_95, e_X8_next_96, e_X8_next_98, e_X8_next_101, e_X8_next_102, e_X8_next_105, e_X8_next_106, e_X8_next_109, e_X8_next_112, zpush_i, zpush_l, zpush_v, Option.bind_some, ↓if_pos, ↓if_neg, Int.reduceAdd, w32_id, e9, q2, e, hin, zup_off, zup_self]
  have hX2 := hX1.fn F2
  by_cases c2 : dg (T.getD q 0)
  · rw [if_pos c2] at h1 hin
    obtain ⟨w3, r1, r2, r3, r4⟩ := m_nx_d (d := d) hl (T.length - (q + 1)) (q + 1) (zup w2 67 13 (T.getD q 0 - 48)) (by omega) (by rw [zup_off _ (by omega), f10]; omega) (hX2.fn (fun a i h => by rw [zup_off _ (by omega)]))
    have hd := dE_in (a := aT0 T) (n := T.length) (i := q + 1) (by omega)
    rw [tk_dig (a := aT0 T) (by omega) c2] at q4
    subst q4
    rw [zup_self] at r3
    refine ⟨zup w3 67 12 48, (h0.trans h1).trans ?_, ⟨dE (aT0 T) T.length (q + 1), by rw [zup_off _ (by omega), r2], hd.2, fun _ => rfl, ?_, ?_⟩, (F1.tr F2).tr (fun a i h => by rw [zup_off _ (by omega), r4 a i (by omega), zup_off _ (by omega)])⟩
    · simp (disch := first | assumption | omega | (simp only [zcat_0, zcat_i, zcat_l, zcat_r, zcat_t]; omega) | simp) only [e_X8_next_115, e_X8_next_118, e_X8_next_119, e_X8_next_120, e_X8_next_123, e_X8_next_125, e_X8_next_126, zpush_i, zpush_l, zpush_v, Option.bind_some, ↓if_pos, ↓if_neg, Int.reduceAdd, w32_id, f12]
      rw [r1]
      simp (disch := first | assumption | omega | (simp only [zcat_0, zcat_i, zcat_l, zcat_r, zcat_t]; omega) | simp) only [e_X8_next_181, e_X8_next_182, e_X8_next_184, e_X8_next_187, zpush_i, zpush_l, zpush_v, Option.bind_some, ↓if_pos, ↓if_neg, Int.reduceAdd, w32_id]
    · rw [zup_off _ (by omega), r4 67 11 (by omega), zup_off _ (by omega), f11]
      rfl
    · rw [zup_self, zup_off _ (by omega), r3]
      show TKr 48 _ (if dE (aT0 T) T.length (q + 1) = q + 1 then T.getD q 0 - 48 else -2)
      by_cases c3 : dE (aT0 T) T.length (q + 1) = q + 1
      · rw [if_pos c3, if_pos c3]
        exact TKr.dig c2
      · rw [if_neg c3, if_neg c3]
        exact TKr.odd
  · rw [if_neg c2] at h1
    rw [tk_let (a := aT0 T) (by omega) hb c2] at q4
    subst q4
    refine ⟨w2, (h0.trans h1).trans ?_, ⟨q + 1, by rw [f10]; omega, by omega, fun _ => rfl, by rw [f11]; rfl, ?_⟩, F1.tr F2⟩
    · simp (disch := first | assumption | omega | (simp only [zcat_0, zcat_i, zcat_l, zcat_r, zcat_t]; omega) | simp) only [e_X8_next_115, e_X8_next_187, zpush_i, zpush_l, zpush_v, Option.bind_some, ↓if_pos, ↓if_neg, Int.reduceAdd, w32_id]
    · rw [f12, f13]
      exact TKr.lett hxq.1 c2
end T9
