section T12
variable {d : Nat} {w : zW} {L : Tk} {n : Nat} {D : Pg} {T : List Int} {lo hi : Int}
theorem PN.thr {w' : zW} (h : PN w D) (hD : WD D) (h4 : D 0 6 < 4) (e15 : w' 67 15 = D 0 6 + 1) (e75 : w' 75 = w 75) (e76 : ∀ u, u ≠ D 0 6 → w' 76 u = w 76 u) (e76' : w' 76 (D 0 6) = 0) (e77 : ∀ u, u ≠ D 0 6 → w' 77 u = w 77 u) (e77' : w' 77 (D 0 6) = 0) (e78 : w' 78 = w 78) : PN w' (zup D 0 6 (D 0 6 + 1)) := by
  obtain ⟨a1, a2, a3⟩ := h
  have hs0 := hD.1.1
  have z2 := hD.2 (D 0 6) (by omega) (by omega)
  have z3 := (hD.1.2.2.2.1 (D 0 6) (by omega) (by omega)).2.2.2.2 (by omega)
  unfold PN
  rw [zup_self, zup_ne (a := 0) (a' := 1) (by omega), zup_ne (a := 0) (a' := 2) (by omega), zup_ne (a := 0) (a' := 3) (by omega), zup_ne (a := 0) (a' := 4) (by omega), zup_ne (a := 0) (a' := 5) (by omega), zup_ne (a := 0) (a' := 6) (by omega), e75, e78]
  refine ⟨e15, a2, fun u u0 u4 => ?_⟩
  by_cases cu : u = D 0 6
  · rw [cu, e76', e77', z2, z3]
    exact ⟨rfl, rfl, fun i i0 il => by omega⟩
  · rw [e76 u cu, e77 u cu]
    exact a3 u u0 (by omega)
theorem PN.val {w' : zW} {p v : Int} (h : PN w D) (e15 : w' 67 15 = w 67 15) (e75 : ∀ u, u ≠ p → w' 75 u = w 75 u) (e75' : w' 75 p = v) (e76 : w' 76 = w 76) (e77 : w' 77 = w 77) (e78 : w' 78 = w 78) : PN w' (zup D 1 p v) := by
  obtain ⟨a1, a2, a3⟩ := h
  unfold PN
  rw [zup_ne (a := 1) (a' := 0) (by omega), zup_ne (a := 1) (a' := 2) (by omega), zup_ne (a := 1) (a' := 3) (by omega), zup_ne (a := 1) (a' := 4) (by omega), zup_ne (a := 1) (a' := 5) (by omega), zup_ne (a := 1) (a' := 6) (by omega), e15, e76, e77, e78]
  refine ⟨a1, fun q q0 q3 => ?_, a3⟩
  by_cases c : q = p
  · subst c
    rw [e75', zup_self]
  · rw [e75 q c, zup_off _ (Or.inr c)]
    exact a2 q q0 q3
theorem PN.rank {w' : zW} {p v : Int} (h : PN w D) (e15 : w' 67 15 = w 67 15) (e76 : ∀ u, u ≠ p → w' 76 u = w 76 u) (e76' : w' 76 p = v) (e75 : w' 75 = w 75) (e77 : w' 77 = w 77) (e78 : w' 78 = w 78) : PN w' (zup D 2 p v) := by
  obtain ⟨a1, a2, a3⟩ := h
  unfold PN
  rw [zup_ne (a := 2) (a' := 0) (by omega), zup_ne (a := 2) (a' := 1) (by omega), zup_ne (a := 2) (a' := 3) (by omega), zup_ne (a := 2) (a' := 4) (by omega), zup_ne (a := 2) (a' := 5) (by omega), zup_ne (a := 2) (a' := 6) (by omega), e15, e75, e77, e78]
  refine ⟨a1, a2, fun u u0 u4 => ?_⟩
  obtain ⟨b1, b2⟩ := a3 u u0 u4
  refine ⟨?_, b2⟩
  by_cases c : u = p
  · subst c
    rw [e76', zup_self]
  · rw [e76 u c, zup_off _ (Or.inr c)]
    exact b1
theorem m_ops (hl : T.length ≤ 120) (hx : ∀ x, x ∈ T → 0 ≤ x ∧ x ≤ 255) {t : Int} : ∀ (u : Nat) (w : zW) (D : Pg) (L : Tk), D 0 6 - 1 = t → MX0 w T → MH w T L → gT n L → PN w D → WD D → 1 ≤ D 0 6 → D 3 t + u = 5 → ∃ w', Rn (d + 4) 120 46 [(2, 67), (0, t)] [] 92 w = some ((0, (aOps u D L).1), 92, w') ∧ MEn T w w' (aOps u D L) := by
  have zo67 := zo_67; have zo77 := zo_77; have zl77 := zl_77
  intro u
  induction u with
  | zero =>
    intro w D L et hX hH hg hN hD h1 hu
    have hP4 := hD.1.2.1
    obtain ⟨p0, r1, r2, r3, r4, r5⟩ := id hH
    have hz := r5.2.1 59 (by omega)
    have hf := m_faults (d := d + 3) (w := w)
    have ho := m_isOp (d := d + 3) (w := w) (c := w 67 12)
    have e77 := (hN.2.2 t (by omega) (by omega)).2.1
    have e5 : w 77 t = 5 := by omega
    rw [aOps]
    unfold aEnd
    rw [e_X8_takesThread_46 (by omega)]
    by_cases c : hk L = 59
    · rw [if_pos c]
      have c' := hz.mpr c
      refine ⟨w, ?_, .yes (hH.mb (by omega)) hN .rf⟩
      simp (disch := first | assumption | omega | (simp only [zcat_0, zcat_i, zcat_l, zcat_r, zcat_t]; omega) | simp) only [e_X8_takesThread_47, e_X8_takesThread_50, e_X8_takesThread_52, e_X8_takesThread_97, e_X8_takesThread_98, zpush_i, zpush_l, zpush_v, Option.bind_some, ↓if_pos, ↓if_neg, Int.reduceAdd, w32_id, c']
    · rw [if_neg c]
      have c' : w 67 12 ≠ 59 := fun z => c (hz.mp z)
      refine ⟨zup w 67 14 (w 67 11), ?_, .no (by rw [zup_self, r4]) FL.up.fm⟩
      by_cases c9 : is9 (w 67 12)
      · rw [if_pos c9] at ho
        simp (disch := first | assumption | omega | (simp only [zcat_0, zcat_i, zcat_l, zcat_r, zcat_t]; omega) | simp) only [e_X8_takesThread_47, e_X8_takesThread_50, e_X8_takesThread_52, e_X8_takesThread_55, e_X8_takesThread_56, e_X8_takesThread_59, e_X8_takesThread_62, e_X8_takesThread_65, e_X8_takesThread_66, e_X8_takesThread_69, e_X8_takesThread_70, e_X8_takesThread_71, e_X8_takesThread_72, e_X8_takesThread_75, e_X8_takesThread_76, e_X8_takesThread_79, zpush_i, zpush_l, zpush_v, Option.bind_some, ↓if_pos, ↓if_neg, Int.reduceAdd, w32_id, ho, e5, hf]
      · rw [if_neg c9] at ho
        simp (disch := first | assumption | omega | (simp only [zcat_0, zcat_i, zcat_l, zcat_r, zcat_t]; omega) | simp) only [e_X8_takesThread_47, e_X8_takesThread_50, e_X8_takesThread_52, e_X8_takesThread_55, e_X8_takesThread_56, e_X8_takesThread_59, e_X8_takesThread_62, e_X8_takesThread_65, e_X8_takesThread_66, e_X8_takesThread_69, e_X8_takesThread_70, e_X8_takesThread_71, e_X8_takesThread_72, e_X8_takesThread_75, e_X8_takesThread_76, e_X8_takesThread_79, zpush_i, zpush_l, zpush_v, Option.bind_some, ↓if_pos, ↓if_neg, Int.reduceAdd, w32_id, ho, hf]
  | succ u ih =>
    intro w D L et hX hH hg hN hD h1 hu
    have hP4 := hD.1.2.1
    obtain ⟨p0, r1, r2, r3, r4, r5⟩ := id hH
    have hz := r5.2.1 59 (by omega)
    have hf := m_faults (d := d + 3) (w := w)
    have ho := m_isOp (d := d + 3) (w := w) (c := w 67 12)
    have e77 := (hN.2.2 t (by omega) (by omega)).2.1
    have e5 : w 77 t ≠ 5 := by omega
    rw [aOps]
    rw [e_X8_takesThread_46 (by omega)]
    by_cases c : hk L = 59
    · rw [if_pos c]
      unfold aEnd
      rw [if_pos c]
      have c' := hz.mpr c
      refine ⟨w, ?_, .yes (hH.mb (by omega)) hN .rf⟩
      simp (disch := first | assumption | omega | (simp only [zcat_0, zcat_i, zcat_l, zcat_r, zcat_t]; omega) | simp) only [e_X8_takesThread_47, e_X8_takesThread_50, e_X8_takesThread_52, e_X8_takesThread_97, e_X8_takesThread_98, zpush_i, zpush_l, zpush_v, Option.bind_some, ↓if_pos, ↓if_neg, Int.reduceAdd, w32_id, c']
    rw [if_neg c]
    have c' : w 67 12 ≠ 59 := fun z => c (hz.mp z)
    by_cases c9 : is9 (hk L)
    · rw [if_pos (r5.nine.mpr c9)] at ho
      obtain ⟨w1, q1, q2⟩ := m_takesOp (d := d) hl hx hX hH hg c9 hN hD h1 (by rw [et]; omega)
      obtain ⟨s1, s2, s3⟩ := aOp_g hg hD h1 (by rw [et]; omega)
      rw [et] at q1
      by_cases c0 : (aOp D L).1 = 0
      · rw [if_pos c0]
        refine ⟨w1, ?_, q2⟩
        rw [c0] at q1 ⊢
        simp (disch := first | assumption | omega | (simp only [zcat_0, zcat_i, zcat_l, zcat_r, zcat_t]; omega) | simp) only [e_X8_takesThread_47, e_X8_takesThread_50, e_X8_takesThread_52, e_X8_takesThread_55, e_X8_takesThread_56, e_X8_takesThread_59, e_X8_takesThread_62, e_X8_takesThread_65, e_X8_takesThread_66, e_X8_takesThread_69, e_X8_takesThread_70, e_X8_takesThread_71, e_X8_takesThread_72, e_X8_takesThread_75, e_X8_takesThread_76, e_X8_takesThread_79, e_X8_takesThread_80, e_X8_takesThread_81, e_X8_takesThread_82, e_X8_takesThread_85, e_X8_takesThread_88, e_X8_takesThread_89, zpush_i, zpush_l, zpush_v, Option.bind_some, ↓if_pos, ↓if_neg, Int.reduceAdd, w32_id, ho, q1]
      rw [if_neg c0]
      have e1 : (aOp D L).1 = 1 := by
        rcases s1.2.2.2 with z | z
        · exact absurd z c0
        · exact z.1
      obtain ⟨b1, b2⟩ := q2.1 e1
      obtain ⟨w2, y1, y2, y3⟩ := m_next (d := d + 2) hl hx (hX.fm q2.2.2) b1
      obtain ⟨w3, v1, v2, v3, v4⟩ := ih w2 _ _ (by rw [s2]; exact et) ((hX.fm q2.2.2).fn y3) y2 s1.1 (b2.fl y3.fl) s1.2.2.1 (by rw [s2]; exact h1) (by
        have := s3 e1
        rw [et] at this
        rw [this]
        omega)
      refine ⟨w3, ?_, v2, v3, (q2.2.2.tr y3.fl.fm).tr v4⟩
      rw [e1] at q1
      simp (disch := first | assumption | omega | (simp only [zcat_0, zcat_i, zcat_l, zcat_r, zcat_t]; omega) | simp) only [e_X8_takesThread_47, e_X8_takesThread_50, e_X8_takesThread_52, e_X8_takesThread_55, e_X8_takesThread_56, e_X8_takesThread_59, e_X8_takesThread_62, e_X8_takesThread_65, e_X8_takesThread_66, e_X8_takesThread_69, e_X8_takesThread_70, e_X8_takesThread_71, e_X8_takesThread_72, e_X8_takesThread_75, e_X8_takesThread_76, e_X8_takesThread_79, e_X8_takesThread_80, e_X8_takesThread_81, e_X8_takesThread_82, e_X8_takesThread_85, e_X8_takesThread_88, e_X8_takesThread_89, e_X8_takesThread_90, e_X8_takesThread_91, e_X8_takesThread_94, zpush_i, zpush_l, zpush_v, Option.bind_some, ↓if_pos, ↓if_neg, Int.reduceAdd, w32_id, ho, q1, y1]
      exact v1
    · rw [if_neg (fun z => c9 (r5.nine.mp z))] at ho
      have ea : aOp D L = (0, L, D) := by
        unfold aOp
        rw [if_pos c9]
      rw [ea, if_pos rfl]
      refine ⟨zup w 67 14 (w 67 11), ?_, .no (by rw [zup_self, r4]) FL.up.fm⟩
      simp (disch := first | assumption | omega | (simp only [zcat_0, zcat_i, zcat_l, zcat_r, zcat_t]; omega) | simp) only [e_X8_takesThread_47, e_X8_takesThread_50, e_X8_takesThread_52, e_X8_takesThread_55, e_X8_takesThread_56, e_X8_takesThread_59, e_X8_takesThread_62, e_X8_takesThread_65, e_X8_takesThread_66, e_X8_takesThread_69, e_X8_takesThread_70, e_X8_takesThread_71, e_X8_takesThread_72, e_X8_takesThread_75, e_X8_takesThread_76, e_X8_takesThread_79, zpush_i, zpush_l, zpush_v, Option.bind_some, ↓if_pos, ↓if_neg, Int.reduceAdd, w32_id, ho, hf]
theorem m_takesThr (hl : T.length ≤ 120) (hx : ∀ x, x ∈ T → 0 ≤ x ∧ x ≤ 255) (hX : MX0 w T) (hH : MH w T L) (hL : hk L ≠ -1) (hg : gT n L) (hN : PN w D) (hD : WD D) : ∃ w', Cl (d + 4) 120 [(2, 67)] 92 w = some ((0, (aThr D L).1), 92, w') ∧ MEn T w w' (aThr D L) := by
  have zo67 := zo_67; have zo76 := zo_76; have zl76 := zl_76; have zo77 := zo_77; have zl77 := zl_77
  have hs0 := hD.1.1
  have hs4 := hD.1.2.1
  obtain ⟨p0, r1, r2, r3, r4, r5⟩ := id hH
  have e15 := hN.1
  unfold aThr
  by_cases c : 4 ≤ D 0 6
  · rw [if_pos c]
    have hf := m_faults (d := d + 3) (w := w)
    have e15' : w 67 15 = 4 := by omega
    refine ⟨zup w 67 14 (w 67 11), ?_, .no (by rw [zup_self, r4]) FL.up.fm⟩
    show Rn (d + 4) 120 0 [(2, 67), (9, 0)] [] 92 w = _
    simp (disch := first | assumption | omega | (simp only [zcat_0, zcat_i, zcat_l, zcat_r, zcat_t]; omega) | simp) only [e_X8_takesThread_0, e_X8_takesThread_1, e_X8_takesThread_4, e_X8_takesThread_5, e_X8_takesThread_8, e_X8_takesThread_9, e_X8_takesThread_12, zpush_i, zpush_l, zpush_v, Option.bind_some, ↓if_pos, ↓if_neg, Int.reduceAdd, w32_id, e15', hf]
  rw [if_neg c]
  obtain ⟨w1, e1⟩ : ∃ w1, zup (zup (zup w 67 15 (D 0 6 + 1)) 76 (D 0 6) 0) 77 (D 0 6) 0 = w1 := ⟨_, rfl⟩
  have M1 : FM w w1 := fun b i h1 h2 => by rw [← e1, zup_ne (by omega), zup_ne (by omega), zup_off _ (by omega)]
  have N1 : PN w1 (zup D 0 6 (D 0 6 + 1)) := hN.thr hD (by omega) (by rw [← e1, zup_ne (by omega), zup_ne (by omega), zup_self]) (by rw [← e1, zup_ne (by omega), zup_ne (by omega), zup_ne (by omega)]) (fun u hu => by rw [← e1, zup_ne (by omega), zup_off _ (Or.inr hu), zup_ne (by omega)]) (by rw [← e1, zup_ne (by omega), zup_self]) (fun u hu => by rw [← e1, zup_off _ (Or.inr hu), zup_ne (by omega), zup_ne (by omega)]) (by rw [← e1, zup_self]) (by rw [← e1, zup_ne (by omega), zup_ne (by omega), zup_ne (by omega)])
  have hB : MB w1 T L.tail := (hH.mb hL).at (by rw [← e1, zup_ne (by omega), zup_ne (by omega), zup_off _ (by omega)])
  obtain ⟨w2, y1, y2, y3⟩ := m_next (d := d + 2) hl hx (hX.fm M1) hB
  have e0 : ∀ x, zup D 0 6 x 3 = D 3 := fun x => zup_ne (by omega)
  obtain ⟨w3, v1, v2, v3, v4⟩ := m_ops (d := d) hl hx (t := D 0 6) 5 w2 _ _ (by rw [zup_self]; omega) ((hX.fm M1).fn y3) y2 (hg.tl hL) (N1.fl y3.fl) (hD.thr (by omega)) (by rw [zup_self]; omega) (by rw [e0, (hD.1.2.2.2.1 (D 0 6) (by omega) (by omega)).2.2.2.2 (by omega)]; rfl)
  refine ⟨w3, ?_, v2, v3, (M1.tr y3.fl.fm).tr v4⟩
  show Rn (d + 4) 120 0 [(2, 67), (9, 0)] [] 92 w = _
  rw [← e1] at y1
  simp (disch := first | assumption | omega | (simp only [zcat_0, zcat_i, zcat_l, zcat_r, zcat_t]; omega) | simp) only [e_X8_takesThread_0, e_X8_takesThread_1, e_X8_takesThread_4, e_X8_takesThread_5, e_X8_takesThread_8, e_X8_takesThread_9, e_X8_takesThread_12, e_X8_takesThread_13, e_X8_takesThread_14, e_X8_takesThread_17, e_X8_takesThread_18, e_X8_takesThread_19, e_X8_takesThread_20, e_X8_takesThread_23, e_X8_takesThread_24, e_X8_takesThread_25, e_X8_takesThread_28, e_X8_takesThread_29, e_X8_takesThread_32, e_X8_takesThread_33, e_X8_takesThread_34, e_X8_takesThread_35, e_X8_takesThread_36, e_X8_takesThread_39, e_X8_takesThread_40, e_X8_takesThread_41, e_X8_takesThread_42, e_X8_takesThread_43, zpush_i, zpush_l, zpush_v, Option.bind_some, ↓if_pos, ↓if_neg, Int.reduceAdd, w32_id, e15, y1]
  exact v1
theorem m_takesItem (hl : T.length ≤ 120) (hx : ∀ x, x ∈ T → 0 ≤ x ∧ x ≤ 255) (hX : MX0 w T) (hH : MH w T L) (hL : hk L ≠ -1) (hg : gT n L) (hN : PN w D) (hD : WD D) : ∃ w', Cl (d + 5) 121 [(2, 67)] 92 w = some ((0, (aItem D L).1), 92, w') ∧ MEn T w w' (aItem D L) := by
  have zo67 := zo_67; have zo75 := zo_75; have zl75 := zl_75; have zo76 := zo_76; have zl76 := zl_76
  have hs0 := hD.1.1
  have hs4 := hD.1.2.1
  obtain ⟨p0, r1, r2, r3, r4, r5⟩ := id hH
  have e15 := hN.1
  have hf := m_faults (d := d + 4) (w := w)
  have z1 := r5.2.1 118 (by omega)
  have z2 := r5.2.1 116 (by omega)
  have z3 := r5.2.1 114 (by omega)
  unfold aItem
  by_cases c2 : hk L = 116
  · rw [if_neg (by omega), if_pos c2]
    have c2' := z2.mpr c2
    obtain ⟨w1, q1, q2⟩ := m_takesThr (d := d) hl hx hX hH hL hg hN hD
    have z01 := (aThr_g hg hL hD).o1
    refine ⟨w1, ?_, q2⟩
    show Rn (d + 5) 121 0 [(2, 67), (9, 0), (9, 0)] [] 92 w = _
    simp (disch := first | assumption | omega | (simp only [zcat_0, zcat_i, zcat_l, zcat_r, zcat_t]; omega) | simp) only [e_X8_takesItem_0, e_X8_takesItem_1, e_X8_takesItem_4, e_X8_takesItem_6, e_X8_takesItem_9, e_X8_takesItem_10, e_X8_takesItem_13, zpush_i, zpush_l, zpush_v, Option.bind_some, ↓if_pos, ↓if_neg, Int.reduceAdd, w32_id, c2', q1]
  have c2' : w 67 12 ≠ 116 := fun z => c2 (z2.mp z)
  rw [if_neg c2]
  have hBL := hH.mb hL
  by_cases c1 : hk L = 118
  · rw [if_pos c1]
    have c1' := z1.mpr c1
    obtain ⟨w1, q1, q2, q3, q4, q5⟩ := m_number (d := d + 2) (lo := 0) (hi := 2) (by omega) (by omega) hl hx hX hBL
    have hd : Cl (d + 5) 121 [(2, 67)] 92 w = Rn (d + 5) 121 71 [(2, 67), (0, 1), (9, 0)] [(0, if 0 ≤ hk L.tail ∧ hk L.tail ≤ 2 then 1 else 0)] 92 w1 := by
      show Rn (d + 5) 121 0 [(2, 67), (9, 0), (9, 0)] [] 92 w = _
      simp (disch := first | assumption | omega | (simp only [zcat_0, zcat_i, zcat_l, zcat_r, zcat_t]; omega) | simp) only [e_X8_takesItem_0, e_X8_takesItem_1, e_X8_takesItem_4, e_X8_takesItem_6, e_X8_takesItem_9, e_X8_takesItem_10, e_X8_takesItem_13, e_X8_takesItem_14, e_X8_takesItem_15, e_X8_takesItem_18, e_X8_takesItem_20, e_X8_takesItem_23, e_X8_takesItem_24, e_X8_takesItem_27, e_X8_takesItem_29, e_X8_takesItem_32, e_X8_takesItem_33, e_X8_takesItem_36, e_X8_takesItem_37, e_X8_takesItem_38, e_X8_takesItem_41, e_X8_takesItem_43, e_X8_takesItem_46, e_X8_takesItem_47, e_X8_takesItem_50, e_X8_takesItem_51, e_X8_takesItem_52, e_X8_takesItem_53, e_X8_takesItem_54, e_X8_takesItem_55, e_X8_takesItem_58, e_X8_takesItem_59, e_X8_takesItem_62, e_X8_takesItem_63, e_X8_takesItem_66, e_X8_takesItem_67, e_X8_takesItem_68, zpush_i, zpush_l, zpush_v, Option.bind_some, ↓if_pos, ↓if_neg, Int.reduceAdd, w32_id, c1', q1]
    rw [hd]
    unfold aVal
    by_cases b1 : ¬ (0 ≤ hk L.tail ∧ hk L.tail ≤ 2)
    · rw [if_pos b1, if_neg b1]
      refine ⟨w1, ?_, .no (q3 b1) q5.fm⟩
      simp (disch := first | assumption | omega | (simp only [zcat_0, zcat_i, zcat_l, zcat_r, zcat_t]; omega) | simp) only [e_X8_takesItem_71, e_X8_takesItem_74, e_X8_takesItem_75, zpush_i, zpush_l, zpush_v, Option.bind_some, ↓if_pos, ↓if_neg, Int.reduceAdd, w32_id]
    rw [if_neg b1]
    have b1' := Classical.not_not.mp b1
    rw [if_pos b1']
    have e13 := q4 b1'
    obtain ⟨w2, s1, s2, s3, s4, s5⟩ := m_number (d := d + 2) (lo := 0) (hi := 3) (by omega) (by omega) hl hx (hX.fl q5) (q2.mb (by omega))
    have hd2 : Rn (d + 5) 121 71 [(2, 67), (0, 1), (9, 0)] [(0, 1)] 92 w1 = Rn (d + 5) 121 87 [(2, 67), (0, 1), (0, hk L.tail)] [(0, if 0 ≤ hk L.tail.tail ∧ hk L.tail.tail ≤ 3 then 1 else 0)] 92 w2 := by
      simp (disch := first | assumption | omega | (simp only [zcat_0, zcat_i, zcat_l, zcat_r, zcat_t]; omega) | simp) only [e_X8_takesItem_71, e_X8_takesItem_74, e_X8_takesItem_75, e_X8_takesItem_76, e_X8_takesItem_77, e_X8_takesItem_80, e_X8_takesItem_81, e_X8_takesItem_82, e_X8_takesItem_83, e_X8_takesItem_84, zpush_i, zpush_l, zpush_v, Option.bind_some, ↓if_pos, ↓if_neg, Int.reduceAdd, w32_id, e13, s1]
    rw [hd2]
    by_cases b2 : ¬ (0 ≤ hk L.tail.tail ∧ hk L.tail.tail ≤ 3)
    · rw [if_pos b2, if_neg b2]
      refine ⟨w2, ?_, .no (s3 b2) (q5.tr s5).fm⟩
      simp (disch := first | assumption | omega | (simp only [zcat_0, zcat_i, zcat_l, zcat_r, zcat_t]; omega) | simp) only [e_X8_takesItem_87, e_X8_takesItem_90, e_X8_takesItem_91, zpush_i, zpush_l, zpush_v, Option.bind_some, ↓if_pos, ↓if_neg, Int.reduceAdd, w32_id]
    rw [if_neg b2]
    have b2' := Classical.not_not.mp b2
    rw [if_pos b2']
    have e13' := s4 b2'
    obtain ⟨w3, e3⟩ : ∃ w3, zup w2 75 (hk L.tail) (hk L.tail.tail) = w3 := ⟨_, rfl⟩
    have M3 : FM w w3 := (q5.tr s5).fm.tr (fun b i _ hb => by rw [← e3, zup_ne (by omega)])
    have N2 : PN w2 D := hN.fl (q5.tr s5)
    have N3 : PN w3 (zup D 1 (hk L.tail) (hk L.tail.tail)) := N2.val (by rw [← e3, zup_ne (by omega)]) (fun u hu => by rw [← e3, zup_off _ (Or.inr hu)]) (by rw [← e3, zup_self]) (by rw [← e3, zup_ne (by omega)]) (by rw [← e3, zup_ne (by omega)]) (by rw [← e3, zup_ne (by omega)])
    obtain ⟨w4, y1, y2, y3, y4⟩ := m_takesEnd (d := d + 2) (D := zup D 1 (hk L.tail) (hk L.tail.tail)) hl hx (hX.fm M3) ((s2.mb (by omega)).at (w' := w3) (by rw [← e3, zup_ne (by omega)]))
    have z01 := aEnd_01 (zup D 1 (hk L.tail) (hk L.tail.tail)) L.tail.tail.tail
    refine ⟨w4, ?_, fun z => ⟨y2 z, ?_⟩, y3, M3.tr y4.fm⟩
    · rw [← e3] at y1
      simp (disch := first | assumption | omega | (simp only [zcat_0, zcat_i, zcat_l, zcat_r, zcat_t]; omega) | simp) only [e_X8_takesItem_87, e_X8_takesItem_90, e_X8_takesItem_91, e_X8_takesItem_92, e_X8_takesItem_93, e_X8_takesItem_96, e_X8_takesItem_97, e_X8_takesItem_100, e_X8_takesItem_101, e_X8_takesItem_102, e_X8_takesItem_105, e_X8_takesItem_106, e_X8_takesItem_109, e_X8_takesItem_110, e_X8_takesItem_113, e_X8_takesItem_114, e_X8_takesItem_115, e_X8_takesItem_118, e_X8_takesItem_119, e_X8_takesItem_120, e_X8_takesItem_123, zpush_i, zpush_l, zpush_v, Option.bind_some, ↓if_pos, ↓if_neg, Int.reduceAdd, w32_id, e13', y1]
    · have : (aEnd (zup D 1 (hk L.tail) (hk L.tail.tail)) L.tail.tail.tail).2.2 = zup D 1 (hk L.tail) (hk L.tail.tail) := by
        unfold aEnd
        split <;> rfl
      rw [this]
      exact N3.fl y4
  have c1' : w 67 12 ≠ 118 := fun z => c1 (z1.mp z)
  rw [if_neg c1]
  by_cases c3 : hk L = 114
  · rw [if_pos c3]
    have c3' := z3.mpr c3
    obtain ⟨w1, q1, q2, q3, q4, q5⟩ := m_number (d := d + 2) (lo := 0) (hi := D 0 6 - 1) (by omega) (by omega) hl hx hX hBL
    have hd : Cl (d + 5) 121 [(2, 67)] 92 w = Rn (d + 5) 121 71 [(2, 67), (0, 0), (9, 0)] [(0, if 0 ≤ hk L.tail ∧ hk L.tail ≤ D 0 6 - 1 then 1 else 0)] 92 w1 := by
      show Rn (d + 5) 121 0 [(2, 67), (9, 0), (9, 0)] [] 92 w = _
      simp (disch := first | assumption | omega | (simp only [zcat_0, zcat_i, zcat_l, zcat_r, zcat_t]; omega) | simp) only [e_X8_takesItem_0, e_X8_takesItem_1, e_X8_takesItem_4, e_X8_takesItem_6, e_X8_takesItem_9, e_X8_takesItem_10, e_X8_takesItem_13, e_X8_takesItem_14, e_X8_takesItem_15, e_X8_takesItem_18, e_X8_takesItem_20, e_X8_takesItem_23, e_X8_takesItem_24, e_X8_takesItem_27, e_X8_takesItem_29, e_X8_takesItem_32, e_X8_takesItem_33, e_X8_takesItem_36, e_X8_takesItem_37, e_X8_takesItem_38, e_X8_takesItem_41, e_X8_takesItem_43, e_X8_takesItem_46, e_X8_takesItem_47, e_X8_takesItem_50, e_X8_takesItem_51, e_X8_takesItem_52, e_X8_takesItem_53, e_X8_takesItem_54, e_X8_takesItem_55, e_X8_takesItem_58, e_X8_takesItem_59, e_X8_takesItem_62, e_X8_takesItem_63, e_X8_takesItem_66, e_X8_takesItem_67, e_X8_takesItem_68, zpush_i, zpush_l, zpush_v, Option.bind_some, ↓if_pos, ↓if_neg, Int.reduceAdd, w32_id, c3', e15, q1]
    rw [hd]
    unfold aVal
    by_cases b1 : ¬ (0 ≤ hk L.tail ∧ hk L.tail ≤ D 0 6 - 1)
    · rw [if_pos b1, if_neg b1]
      refine ⟨w1, ?_, .no (q3 b1) q5.fm⟩
      simp (disch := first | assumption | omega | (simp only [zcat_0, zcat_i, zcat_l, zcat_r, zcat_t]; omega) | simp) only [e_X8_takesItem_71, e_X8_takesItem_74, e_X8_takesItem_75, zpush_i, zpush_l, zpush_v, Option.bind_some, ↓if_pos, ↓if_neg, Int.reduceAdd, w32_id]
    rw [if_neg b1]
    have b1' := Classical.not_not.mp b1
    rw [if_pos b1']
    have e13 := q4 b1'
    obtain ⟨w2, s1, s2, s3, s4, s5⟩ := m_number (d := d + 2) (lo := 0) (hi := 3) (by omega) (by omega) hl hx (hX.fl q5) (q2.mb (by omega))
    have hd2 : Rn (d + 5) 121 71 [(2, 67), (0, 0), (9, 0)] [(0, 1)] 92 w1 = Rn (d + 5) 121 87 [(2, 67), (0, 0), (0, hk L.tail)] [(0, if 0 ≤ hk L.tail.tail ∧ hk L.tail.tail ≤ 3 then 1 else 0)] 92 w2 := by
      simp (disch := first | assumption | omega | (simp only [zcat_0, zcat_i, zcat_l, zcat_r, zcat_t]; omega) | simp) only [e_X8_takesItem_71, e_X8_takesItem_74, e_X8_takesItem_75, e_X8_takesItem_76, e_X8_takesItem_77, e_X8_takesItem_80, e_X8_takesItem_81, e_X8_takesItem_82, e_X8_takesItem_83, e_X8_takesItem_84, zpush_i, zpush_l, zpush_v, Option.bind_some, ↓if_pos, ↓if_neg, Int.reduceAdd, w32_id, e13, s1]
    rw [hd2]
    by_cases b2 : ¬ (0 ≤ hk L.tail.tail ∧ hk L.tail.tail ≤ 3)
    · rw [if_pos b2, if_neg b2]
      refine ⟨w2, ?_, .no (s3 b2) (q5.tr s5).fm⟩
      simp (disch := first | assumption | omega | (simp only [zcat_0, zcat_i, zcat_l, zcat_r, zcat_t]; omega) | simp) only [e_X8_takesItem_87, e_X8_takesItem_90, e_X8_takesItem_91, zpush_i, zpush_l, zpush_v, Option.bind_some, ↓if_pos, ↓if_neg, Int.reduceAdd, w32_id]
    rw [if_neg b2]
    have b2' := Classical.not_not.mp b2
    rw [if_pos b2']
    have e13' := s4 b2'
    obtain ⟨w3, e3⟩ : ∃ w3, zup w2 76 (hk L.tail) (hk L.tail.tail) = w3 := ⟨_, rfl⟩
    have M3 : FM w w3 := (q5.tr s5).fm.tr (fun b i _ hb => by rw [← e3, zup_ne (by omega)])
    have N2 : PN w2 D := hN.fl (q5.tr s5)
    have N3 : PN w3 (zup D 2 (hk L.tail) (hk L.tail.tail)) := N2.rank (by rw [← e3, zup_ne (by omega)]) (fun u hu => by rw [← e3, zup_off _ (Or.inr hu)]) (by rw [← e3, zup_self]) (by rw [← e3, zup_ne (by omega)]) (by rw [← e3, zup_ne (by omega)]) (by rw [← e3, zup_ne (by omega)])
    obtain ⟨w4, y1, y2, y3, y4⟩ := m_takesEnd (d := d + 2) (D := zup D 2 (hk L.tail) (hk L.tail.tail)) hl hx (hX.fm M3) ((s2.mb (by omega)).at (w' := w3) (by rw [← e3, zup_ne (by omega)]))
    have z01 := aEnd_01 (zup D 2 (hk L.tail) (hk L.tail.tail)) L.tail.tail.tail
    refine ⟨w4, ?_, fun z => ⟨y2 z, ?_⟩, y3, M3.tr y4.fm⟩
    · rw [← e3] at y1
      simp (disch := first | assumption | omega | (simp only [zcat_0, zcat_i, zcat_l, zcat_r, zcat_t]; omega) | simp) only [e_X8_takesItem_87, e_X8_takesItem_90, e_X8_takesItem_91, e_X8_takesItem_92, e_X8_takesItem_93, e_X8_takesItem_96, e_X8_takesItem_97, e_X8_takesItem_100, e_X8_takesItem_101, e_X8_takesItem_102, e_X8_takesItem_105, e_X8_takesItem_106, e_X8_takesItem_109, e_X8_takesItem_110, e_X8_takesItem_113, e_X8_takesItem_114, e_X8_takesItem_115, e_X8_takesItem_118, e_X8_takesItem_119, e_X8_takesItem_120, e_X8_takesItem_123, zpush_i, zpush_l, zpush_v, Option.bind_some, ↓if_pos, ↓if_neg, Int.reduceAdd, w32_id, e13', y1]
    · have : (aEnd (zup D 2 (hk L.tail) (hk L.tail.tail)) L.tail.tail.tail).2.2 = zup D 2 (hk L.tail) (hk L.tail.tail) := by
        unfold aEnd
        split <;> rfl
      rw [this]
      exact N3.fl y4
  have c3' : w 67 12 ≠ 114 := fun z => c3 (z3.mp z)
  rw [if_neg c3]
  refine ⟨zup w 67 14 (w 67 11), ?_, .no (by rw [zup_self, r4]) FL.up.fm⟩
  show Rn (d + 5) 121 0 [(2, 67), (9, 0), (9, 0)] [] 92 w = _
  simp (disch := first | assumption | omega | (simp only [zcat_0, zcat_i, zcat_l, zcat_r, zcat_t]; omega) | simp) only [e_X8_takesItem_0, e_X8_takesItem_1, e_X8_takesItem_4, e_X8_takesItem_6, e_X8_takesItem_9, e_X8_takesItem_10, e_X8_takesItem_13, e_X8_takesItem_14, e_X8_takesItem_15, e_X8_takesItem_18, e_X8_takesItem_20, e_X8_takesItem_23, e_X8_takesItem_24, e_X8_takesItem_27, e_X8_takesItem_29, e_X8_takesItem_32, e_X8_takesItem_33, e_X8_takesItem_36, zpush_i, zpush_l, zpush_v, Option.bind_some, ↓if_pos, ↓if_neg, Int.reduceAdd, w32_id, hf]
end T12
