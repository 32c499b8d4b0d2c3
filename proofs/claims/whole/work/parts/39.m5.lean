section M5
variable {d : Nat} {w : zW} {t p q n : Int} {S : Sc} {P : Pg} {l : Int → Int}
theorem RS.set (h : RS w n S) {i x : Int} (h1 : i < 13) : RS (zup w 72 i x) n (su S.1 i x, S.2) := by
  obtain ⟨a1, a2, a3⟩ := h
  refine ⟨fun j j0 j1 => ?_, fun u u0 u4 => ?_, fun j hj => ?_⟩
  · by_cases e : j = i
    · subst e
      rw [zup_self]
      exact (su_self ..).symm
    · rw [zup_off _ (Or.inr e)]
      exact (a1 j j0 j1).trans (su_ne _ e).symm
  · simp (disch := omega) only [zup_off, su_ne]
    exact a2 u u0 u4
  · rw [zup_off _ (Or.inr (by omega))]
    exact a3 j hj
theorem RS.at (h : RS w n S) {w' : zW} (e : w' 72 = w 72) : RS w' n S := by
  unfold RS
  rw [e]
  exact h
theorem m_hand_l (hP : WP P) (hW : WS0 P S) (hR : RS w (P 0 6) S) (hl : LR w (P 0 6) l) (hp : 0 ≤ p ∧ p < 3) : ∀ (m i : Nat) (h c : Int) (v : zV), i + m = 4 → (h = 4 ∧ c < 0 ∨ 0 ≤ c ∧ c < S.2.length ∧ S.2.getD c.toNat 0 = h) → ∃ c' v', Rn d 105 9 [(2, 67), (0, p), (0, c), (0, (i : Int)), v] [] 92 w = Rn d 105 86 [(2, 67), (0, p), (0, c'), (0, 4), v'] [] 92 w ∧ (sHr S.1 l p (S.2.drop i) h = 4 ∧ c' < 0 ∨ 0 ≤ c' ∧ c' < S.2.length ∧ S.2.getD c'.toNat 0 = sHr S.1 l p (S.2.drop i) h) := by
  have zo67 := zo_67; have zo72 := zo_72; have zl72 := zl_72; have zo73 := zo_73; have zl73 := zl_73
  have hP4 := hP.2.1
  have hl4 := row_len hW
  have hlt : ∀ u, u ∈ S.2 → 0 ≤ u ∧ u < P 0 6 ∧ u < 4 := fun u hu => row_lt hW hP hu
  intro m
  induction m with
  | zero =>
    intro i h c v hi hh
    obtain rfl : i = 4 := by omega
    refine ⟨c, v, ?_, ?_⟩
    · simp (disch := first | assumption | omega | (simp only [zcat_0, zcat_i, zcat_l, zcat_r, zcat_t]; omega) | simp) only [e_X8_handOn_9, e_X8_handOn_10, e_X8_handOn_11, zpush_i, zpush_l, zpush_v, Option.bind_some, ↓if_pos, ↓if_neg, Int.reduceAdd, w32_id]
      rfl
    · rw [List.drop_eq_nil_of_le (by omega), sHr]
      exact hh
  | succ m ih =>
    intro i h c v hi hh
    have e := hR.2.2 i (by omega)
    by_cases h1 : i < S.2.length
    · rw [rE_pos h1] at e
      obtain ⟨t0, tn, t4⟩ := hlt _ (getD_mem (l := S.2) (i := i) h1)
      have e2 := (hR.2.1 (S.2.getD i 0) t0 t4).1
      rw [if_pos tn] at e2
      have l1 := hl (S.2.getD i 0) t0 tn
      have es : S.2.getD i 0 + 1 - 1 = S.2.getD i 0 := by omega
      rw [drop_cons h1, sHr]
      by_cases hx : S.1 (13 + S.2.getD i 0) = 4 + p
      · rcases hh with ⟨ha, hb⟩ | ⟨c0, c1, c2⟩
        · rw [if_pos ⟨hx, Or.inl ha⟩]
          obtain ⟨c', v', g1, g2⟩ := ih (i + 1) (S.2.getD i 0) i (0, S.2.getD i 0) (by omega) (Or.inr ⟨by omega, by omega, rfl⟩)
          refine ⟨c', v', ?_, g2⟩
          rw [← g1, e_X8_handOn_9, show ((i + 1 : Nat) : Int) = (i : Int) + 1 by omega]
          simp (disch := first | assumption | omega | (simp only [zcat_0, zcat_i, zcat_l, zcat_r, zcat_t]; omega) | simp) only [e_X8_handOn_10, e_X8_handOn_11, e_X8_handOn_14, e_X8_handOn_15, e_X8_handOn_18, e_X8_handOn_20, e_X8_handOn_21, e_X8_handOn_22, e_X8_handOn_23, e_X8_handOn_24, e_X8_handOn_25, e_X8_handOn_27, e_X8_handOn_29, e_X8_handOn_32, e_X8_handOn_33, e_X8_handOn_36, e_X8_handOn_38, e_X8_handOn_40, e_X8_handOn_41, e_X8_handOn_42, e_X8_handOn_43, e_X8_handOn_44, e_X8_handOn_45, e_X8_handOn_48, e_X8_handOn_49, e_X8_handOn_52, e_X8_handOn_53, e_X8_handOn_56, e_X8_handOn_58, e_X8_handOn_59, e_X8_handOn_60, e_X8_handOn_63, e_X8_handOn_64, e_X8_handOn_67, e_X8_handOn_69, e_X8_handOn_70, e_X8_handOn_71, e_X8_handOn_72, e_X8_handOn_73, e_X8_handOn_74, e_X8_handOn_75, e_X8_handOn_78, e_X8_handOn_79, e_X8_handOn_80, e_X8_handOn_83, zpush_i, zpush_l, zpush_v, Option.bind_some, ↓if_pos, ↓if_neg, Int.reduceAdd, w32_id, e, es, e2]
        · obtain ⟨x0, xn, x4⟩ := hlt _ (getD_mem (l := S.2) (i := c.toNat) (by omega))
          rw [c2] at x0 xn x4
          have ec := hR.2.2 c.toNat (by omega)
          rw [rE_pos (by omega), c2, show ((c.toNat : Nat) : Int) = c by omega] at ec
          have l2 := hl h x0 xn
          have es2 : h + 1 - 1 = h := by omega
          by_cases hc : l h < l (S.2.getD i 0)
          · rw [if_pos ⟨hx, Or.inr hc⟩]
            obtain ⟨c', v', g1, g2⟩ := ih (i + 1) (S.2.getD i 0) i (0, S.2.getD i 0) (by omega) (Or.inr ⟨by omega, by omega, rfl⟩)
            refine ⟨c', v', ?_, g2⟩
            rw [← g1, e_X8_handOn_9, show ((i + 1 : Nat) : Int) = (i : Int) + 1 by omega]
            simp (disch := first | assumption | omega | (simp only [zcat_0, zcat_i, zcat_l, zcat_r, zcat_t]; omega) | simp) only [e_X8_handOn_10, e_X8_handOn_11, e_X8_handOn_14, e_X8_handOn_15, e_X8_handOn_18, e_X8_handOn_20, e_X8_handOn_21, e_X8_handOn_22, e_X8_handOn_23, e_X8_handOn_24, e_X8_handOn_25, e_X8_handOn_27, e_X8_handOn_29, e_X8_handOn_32, e_X8_handOn_33, e_X8_handOn_36, e_X8_handOn_38, e_X8_handOn_40, e_X8_handOn_41, e_X8_handOn_42, e_X8_handOn_43, e_X8_handOn_44, e_X8_handOn_45, e_X8_handOn_48, e_X8_handOn_49, e_X8_handOn_52, e_X8_handOn_53, e_X8_handOn_56, e_X8_handOn_58, e_X8_handOn_59, e_X8_handOn_60, e_X8_handOn_63, e_X8_handOn_64, e_X8_handOn_67, e_X8_handOn_69, e_X8_handOn_70, e_X8_handOn_71, e_X8_handOn_72, e_X8_handOn_73, e_X8_handOn_74, e_X8_handOn_75, e_X8_handOn_78, e_X8_handOn_79, e_X8_handOn_80, e_X8_handOn_83, zpush_i, zpush_l, zpush_v, Option.bind_some, ↓if_pos, ↓if_neg, Int.reduceAdd, w32_id, e, es, e2, ec, es2, l1, l2]
          · rw [if_neg (by omega)]
            obtain ⟨c', v', g1, g2⟩ := ih (i + 1) h c (0, S.2.getD i 0) (by omega) (Or.inr ⟨c0, c1, c2⟩)
            refine ⟨c', v', ?_, g2⟩
            rw [← g1, e_X8_handOn_9, show ((i + 1 : Nat) : Int) = (i : Int) + 1 by omega]
            simp (disch := first | assumption | omega | (simp only [zcat_0, zcat_i, zcat_l, zcat_r, zcat_t]; omega) | simp) only [e_X8_handOn_10, e_X8_handOn_11, e_X8_handOn_14, e_X8_handOn_15, e_X8_handOn_18, e_X8_handOn_20, e_X8_handOn_21, e_X8_handOn_22, e_X8_handOn_23, e_X8_handOn_24, e_X8_handOn_25, e_X8_handOn_27, e_X8_handOn_29, e_X8_handOn_32, e_X8_handOn_33, e_X8_handOn_36, e_X8_handOn_38, e_X8_handOn_40, e_X8_handOn_41, e_X8_handOn_42, e_X8_handOn_43, e_X8_handOn_44, e_X8_handOn_45, e_X8_handOn_48, e_X8_handOn_49, e_X8_handOn_52, e_X8_handOn_53, e_X8_handOn_56, e_X8_handOn_58, e_X8_handOn_59, e_X8_handOn_60, e_X8_handOn_63, e_X8_handOn_64, e_X8_handOn_67, e_X8_handOn_69, e_X8_handOn_70, e_X8_handOn_71, e_X8_handOn_72, e_X8_handOn_73, e_X8_handOn_74, e_X8_handOn_75, e_X8_handOn_78, e_X8_handOn_79, e_X8_handOn_80, e_X8_handOn_83, zpush_i, zpush_l, zpush_v, Option.bind_some, ↓if_pos, ↓if_neg, Int.reduceAdd, w32_id, e, es, e2, ec, es2, l1, l2]
      · rw [if_neg (fun z => hx z.1)]
        obtain ⟨c', v', g1, g2⟩ := ih (i + 1) h c (0, S.2.getD i 0) (by omega) hh
        refine ⟨c', v', ?_, g2⟩
        rw [← g1, e_X8_handOn_9, show ((i + 1 : Nat) : Int) = (i : Int) + 1 by omega]
        simp (disch := first | assumption | omega | (simp only [zcat_0, zcat_i, zcat_l, zcat_r, zcat_t]; omega) | simp) only [e_X8_handOn_10, e_X8_handOn_11, e_X8_handOn_14, e_X8_handOn_15, e_X8_handOn_18, e_X8_handOn_20, e_X8_handOn_21, e_X8_handOn_22, e_X8_handOn_23, e_X8_handOn_24, e_X8_handOn_25, e_X8_handOn_27, e_X8_handOn_29, e_X8_handOn_32, e_X8_handOn_33, e_X8_handOn_36, e_X8_handOn_38, e_X8_handOn_40, e_X8_handOn_41, e_X8_handOn_42, e_X8_handOn_43, e_X8_handOn_44, e_X8_handOn_45, e_X8_handOn_48, e_X8_handOn_49, e_X8_handOn_52, e_X8_handOn_53, e_X8_handOn_56, e_X8_handOn_58, e_X8_handOn_59, e_X8_handOn_60, e_X8_handOn_63, e_X8_handOn_64, e_X8_handOn_67, e_X8_handOn_69, e_X8_handOn_70, e_X8_handOn_71, e_X8_handOn_72, e_X8_handOn_73, e_X8_handOn_74, e_X8_handOn_75, e_X8_handOn_78, e_X8_handOn_79, e_X8_handOn_80, e_X8_handOn_83, zpush_i, zpush_l, zpush_v, Option.bind_some, ↓if_pos, ↓if_neg, Int.reduceAdd, w32_id, e, es, e2]
    · rw [rE_no (by omega)] at e
      have ed : S.2.drop i = S.2.drop (i + 1) := by rw [List.drop_eq_nil_of_le (by omega), List.drop_eq_nil_of_le (by omega)]
      rw [ed]
      obtain ⟨c', v', g1, g2⟩ := ih (i + 1) h c (0, -1) (by omega) hh
      refine ⟨c', v', ?_, g2⟩
      rw [← g1, e_X8_handOn_9, show ((i + 1 : Nat) : Int) = (i : Int) + 1 by omega]
      simp (disch := first | assumption | omega | (simp only [zcat_0, zcat_i, zcat_l, zcat_r, zcat_t]; omega) | simp) only [e_X8_handOn_10, e_X8_handOn_11, e_X8_handOn_14, e_X8_handOn_15, e_X8_handOn_18, e_X8_handOn_20, e_X8_handOn_21, e_X8_handOn_22, e_X8_handOn_23, e_X8_handOn_24, e_X8_handOn_25, e_X8_handOn_27, e_X8_handOn_29, e_X8_handOn_32, e_X8_handOn_33, e_X8_handOn_36, e_X8_handOn_38, e_X8_handOn_40, e_X8_handOn_41, e_X8_handOn_42, e_X8_handOn_43, e_X8_handOn_44, e_X8_handOn_45, e_X8_handOn_48, e_X8_handOn_49, e_X8_handOn_52, e_X8_handOn_53, e_X8_handOn_56, e_X8_handOn_58, e_X8_handOn_59, e_X8_handOn_60, e_X8_handOn_63, e_X8_handOn_64, e_X8_handOn_67, e_X8_handOn_69, e_X8_handOn_70, e_X8_handOn_71, e_X8_handOn_72, e_X8_handOn_73, e_X8_handOn_74, e_X8_handOn_75, e_X8_handOn_78, e_X8_handOn_79, e_X8_handOn_80, e_X8_handOn_83, zpush_i, zpush_l, zpush_v, Option.bind_some, ↓if_pos, ↓if_neg, Int.reduceAdd, w32_id, e, Int.reduceSub, Int.zero_sub]
theorem m_hand (hP : WP P) (hW : WS0 P S) (hR : RS w (P 0 6) S) (hO : PO w P) (hp : 0 ≤ p ∧ p < 3) : ∃ w', Cl (d + 2) 105 [(2, 67), (0, p)] 92 w = some ((0, if sHo P p S = 4 then 0 else 1), 92, w') ∧ RS w' (P 0 6) (sHd P p S) ∧ FQ w w' ∧ w' 67 6 = w 67 6 := by
  have zo67 := zo_67; have zo72 := zo_72; have zl72 := zl_72; have zo73 := zo_73; have zl73 := zl_73
  have hP4 := hP.2.1
  have hl4 := row_len hW
  obtain ⟨w1, q1, q2, q3⟩ := m_lay (d := d) hP hW hR hO
  have F1 : FQ w w1 := fun a i h1 h2 h3 => by rw [q3 a h2]
  have R1 := hR.at (q3 72 (by omega))
  obtain ⟨c, v, g1, g2⟩ := m_hand_l (d := d + 2) hP hW R1 q2 hp 4 0 4 (-9) (9, 0) rfl (Or.inl ⟨rfl, by omega⟩)
  have g1' : Rn (d + 2) 105 9 [(2, 67), (0, p), (0, -9), (0, 0), (9, 0)] [] 92 w1 = _ := g1
  have g2 : (sHo P p S = 4 ∧ c < 0 ∨ 0 ≤ c ∧ c < S.2.length ∧ S.2.getD c.toNat 0 = sHo P p S) := g2
  unfold sHd
  rcases g2 with ⟨h4, hc⟩ | ⟨c0, c1, c2⟩
  · rw [if_pos h4, if_pos h4]
    refine ⟨zup w1 72 (3 + p) 0, ?_, R1.set (by omega), F1.up, by rw [zup_off _ (Or.inl (by omega)), q3 67 (by omega)]⟩
    show Rn (d + 2) 105 0 [(2, 67), (0, p), (9, 0), (9, 0), (9, 0)] [] 92 w = _
    simp (disch := first | assumption | omega | (simp only [zcat_0, zcat_i, zcat_l, zcat_r, zcat_t]; omega) | simp) only [e_X8_handOn_0, e_X8_handOn_1, e_X8_handOn_4, e_X8_handOn_6, e_X8_handOn_7, e_X8_handOn_8, zpush_i, zpush_l, zpush_v, Option.bind_some, ↓if_pos, ↓if_neg, Int.reduceAdd, w32_id, q1, g1']
    simp (disch := first | assumption | omega | (simp only [zcat_0, zcat_i, zcat_l, zcat_r, zcat_t]; omega) | simp) only [e_X8_handOn_86, e_X8_handOn_87, e_X8_handOn_90, e_X8_handOn_91, e_X8_handOn_92, e_X8_handOn_93, e_X8_handOn_94, e_X8_handOn_97, e_X8_handOn_98, e_X8_handOn_101, e_X8_handOn_102, e_X8_handOn_105, e_X8_handOn_107, e_X8_handOn_108, e_X8_handOn_109, e_X8_handOn_110, e_X8_handOn_111, e_X8_handOn_112, e_X8_handOn_115, e_X8_handOn_116, e_X8_handOn_117, e_X8_handOn_120, e_X8_handOn_121, e_X8_handOn_124, e_X8_handOn_125, e_X8_handOn_128, e_X8_handOn_129, zpush_i, zpush_l, zpush_v, Option.bind_some, ↓if_pos, ↓if_neg, Int.reduceAdd, w32_id]
  · have hin := getD_mem (l := S.2) (i := c.toNat) (by omega)
    obtain ⟨t0, tn, t4⟩ := row_lt hW hP hin
    rw [c2] at t0 tn t4
    rw [if_neg (by omega), if_neg (by omega)]
    have W2 : WS0 P (su S.1 (3 + p) (sHo P p S + 1), S.2) := hW.own hp (by omega)
    have e := R1.2.2 c.toNat (by omega)
    rw [rE_pos (by omega), c2, show ((c.toNat : Nat) : Int) = c by omega] at e
    obtain ⟨w3, v1, v2, v3, v4⟩ := m_wkf (d := d) (S := (su S.1 (3 + p) (sHo P p S + 1), S.2)) (i := c.toNat) (show c.toNat < S.2.length by omega) hP W2 (R1.set (i := 3 + p) (x := sHo P p S + 1) (by omega)) (hO.fq (F1.up (i := 3 + p) (x := sHo P p S + 1)))
    have v2 : RS w3 (P 0 6) (sRl P (S.2.getD c.toNat 0) (su S.1 (3 + p) (sHo P p S + 1), S.2)) := v2
    rw [c2] at v2
    rw [show ((c.toNat : Nat) : Int) = c by omega] at v1
    refine ⟨w3, ?_, v2, F1.up.tr v3, by rw [v4, zup_off _ (Or.inl (by omega)), q3 67 (by omega)]⟩
    show Rn (d + 2) 105 0 [(2, 67), (0, p), (9, 0), (9, 0), (9, 0)] [] 92 w = _
    simp (disch := first | assumption | omega | (simp only [zcat_0, zcat_i, zcat_l, zcat_r, zcat_t]; omega) | simp) only [e_X8_handOn_0, e_X8_handOn_1, e_X8_handOn_4, e_X8_handOn_6, e_X8_handOn_7, e_X8_handOn_8, zpush_i, zpush_l, zpush_v, Option.bind_some, ↓if_pos, ↓if_neg, Int.reduceAdd, w32_id, q1, g1']
    simp (disch := first | assumption | omega | (simp only [zcat_0, zcat_i, zcat_l, zcat_r, zcat_t]; omega) | simp) only [e_X8_handOn_86, e_X8_handOn_87, e_X8_handOn_90, e_X8_handOn_91, e_X8_handOn_92, e_X8_handOn_93, e_X8_handOn_94, e_X8_handOn_97, e_X8_handOn_98, e_X8_handOn_101, e_X8_handOn_102, e_X8_handOn_105, e_X8_handOn_107, e_X8_handOn_108, e_X8_handOn_109, e_X8_handOn_110, e_X8_handOn_111, e_X8_handOn_112, e_X8_handOn_115, e_X8_handOn_116, e_X8_handOn_117, e_X8_handOn_120, e_X8_handOn_121, e_X8_handOn_124, e_X8_handOn_125, e_X8_handOn_128, e_X8_handOn_129, zpush_i, zpush_l, zpush_v, Option.bind_some, ↓if_pos, ↓if_neg, Int.reduceAdd, w32_id, e, v1]
end M5
