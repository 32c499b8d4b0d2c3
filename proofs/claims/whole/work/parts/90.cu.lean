section T7
variable {d : Nat} {w : zW} {j : Int} {L : Tk} {n : Nat} {D : Pg}
theorem aEnd_01 (D : Pg) (L : Tk) : (aEnd D L).1 = 0 ∨ (aEnd D L).1 = 1 := by
  unfold aEnd
  split
  · exact Or.inr rfl
  · exact Or.inl rfl
theorem gR.o1 {r : Ps} (h : gR n L r) : r.1 = 0 ∨ r.1 = 1 := h.2.2.2.elim Or.inl (fun z => Or.inr z.1)
theorem r_endA (hj : isT j) (hC : CR w L) (hg : gT n L) (hT : TO w j D) : ∃ w', Cl (d + 1) 17 [(2, 16)] 92 w = some ((0, (aEnd D L).1), 92, w') ∧ CR w' (aEnd D L).2.1 ∧ TO w' j (aEnd D L).2.2 ∧ FD j w w' := by
  have e := r_end (d := d) hC hg.ne
  unfold aEnd
  by_cases c : hk L = 59
  · rw [if_pos c] at e ⊢
    exact ⟨_, e, hC.av hg.ne, hT.av hj, .av hj⟩
  · rw [if_neg c] at e ⊢
    exact ⟨_, e, hC, hT, .rf⟩
theorem r_takeVal (hj : isT j) (hC : CR w L) (hg : gT n L) (hL : hk L ≠ -1) (hT : TO w j D) (hD : WD D) : ∃ w', Cl (d + 5) 12 [(2, 16), (2, j)] 92 w = some ((0, (aVal 1 2 D L).1), 92, w') ∧ CR w' (aVal 1 2 D L).2.1 ∧ TO w' j (aVal 1 2 D L).2.2 ∧ FD j w w' := by
  have zo16 := zo_16
  obtain ⟨t0, tn, t1, u1, t2, u2, t3, u3, t4, u4, t5, u5, t6, u6⟩ := sTall hj
  have hC1 := hC.av hg.ne
  have g1 := hg.tl hL
  have hT1 := hT.av hj
  have hc1 := hC.1
  have hc2 := hC.2.1
  have hc3 := hg.ne
  have F1 : FD j w (adv w) := .av hj
  have en := r_number (d := d + 3) (lo := 0) (hi := 2) hC1 g1.ne
  unfold aVal
  by_cases c2 : ¬ (0 ≤ hk L.tail ∧ hk L.tail ≤ 2)
  · rw [if_pos c2]
    rw [if_neg c2] at en
    refine ⟨adv w, ?_, hC1, hT1, F1⟩
    have ep := c_isPlace0 (d := d + 4) (w := adv w) (t := -1) (by omega)
    show Rn (d + 5) 12 0 [(2, 16), (2, j), (9, 0), (9, 0)] [] 92 w = _
    unfold adv at en ep ⊢
    simp (disch := first | assumption | omega | (simp only [zcat_0, zcat_i, zcat_l, zcat_r, zcat_t]; omega) | simp) only [e_X1_takeValue_0, e_X1_takeValue_1, e_X1_takeValue_2, e_X1_takeValue_5, e_X1_takeValue_6, e_X1_takeValue_7, e_X1_takeValue_10, e_X1_takeValue_11, e_X1_takeValue_12, e_X1_takeValue_13, e_X1_takeValue_16, e_X1_takeValue_17, e_X1_takeValue_18, e_X1_takeValue_21, e_X1_takeValue_24, e_X1_takeValue_25, zpush_i, zpush_l, zpush_v, Option.bind_some, ↓if_pos, ↓if_neg, Int.reduceAdd, w32_id, en, ep]
  rw [if_neg c2]
  have c2' : 0 ≤ hk L.tail ∧ hk L.tail ≤ 2 := Classical.not_not.mp c2
  rw [if_pos c2'] at en
  have hC2 := hC1.av g1.ne
  have g2 := g1.tl (by omega)
  have hT2 := hT1.av hj
  have F2 : FD j w (adv (adv w)) := F1.tr (.av hj)
  have ep := c_isPlace1 (d := d + 4) (w := adv (adv w)) (t := hk L.tail) (by omega) (by omega)
  have hd : Cl (d + 5) 12 [(2, 16), (2, j)] 92 w = Rn (d + 5) 12 26 [(2, 16), (2, j), (0, hk L.tail), (9, 0)] [] 92 (adv (adv w)) := by
    show Rn (d + 5) 12 0 [(2, 16), (2, j), (9, 0), (9, 0)] [] 92 w = _
    have ea : zup w 16 3 (w 16 3 + 1) = adv w := rfl
    simp (disch := first | assumption | omega | (simp only [zcat_0, zcat_i, zcat_l, zcat_r, zcat_t]; omega) | simp) only [e_X1_takeValue_0, e_X1_takeValue_1, e_X1_takeValue_2, e_X1_takeValue_5, e_X1_takeValue_6, e_X1_takeValue_7, e_X1_takeValue_10, e_X1_takeValue_11, e_X1_takeValue_12, e_X1_takeValue_13, e_X1_takeValue_16, e_X1_takeValue_17, e_X1_takeValue_18, e_X1_takeValue_21, e_X1_takeValue_24, e_X1_takeValue_25, zpush_i, zpush_l, zpush_v, Option.bind_some, ↓if_pos, ↓if_neg, Int.reduceAdd, w32_id, ea, en, ep]
  rw [hd]
  obtain ⟨w2, ew2⟩ : ∃ w2, adv (adv w) = w2 := ⟨_, rfl⟩
  rw [ew2] at hC2 hT2 F2 ⊢
  clear hd en ep
  have en := r_number (d := d + 3) (lo := 0) (hi := 3) hC2 g2.ne
  by_cases c3 : ¬ (0 ≤ hk L.tail.tail ∧ hk L.tail.tail ≤ 3)
  · rw [if_pos c3]
    rw [if_neg c3] at en
    refine ⟨w2, ?_, hC2, hT2, F2⟩
    simp (disch := first | assumption | omega | (simp only [zcat_0, zcat_i, zcat_l, zcat_r, zcat_t]; omega) | simp) only [e_X1_takeValue_26, e_X1_takeValue_27, e_X1_takeValue_28, e_X1_takeValue_29, e_X1_takeValue_32, e_X1_takeValue_33, e_X1_takeValue_34, e_X1_takeValue_35, e_X1_takeValue_38, e_X1_takeValue_39, zpush_i, zpush_l, zpush_v, Option.bind_some, ↓if_pos, ↓if_neg, Int.reduceAdd, w32_id, en]
  rw [if_neg c3]
  have c3' : 0 ≤ hk L.tail.tail ∧ hk L.tail.tail ≤ 3 := Classical.not_not.mp c3
  rw [if_pos c3'] at en
  have hC3 := hC2.av g2.ne
  have g3 := g2.tl (by omega)
  have hT3 := hT2.av hj
  have F3 : FD j w (adv w2) := F2.tr (.av hj)
  obtain ⟨w4, q1, q2, q3, q4⟩ := r_endA (d := d + 3) hj (hC3.up (a := 1) (i := hk L.tail) (x := hk L.tail.tail) hj (by omega) (by omega)) g3 (hT3.up (a := 1) (i := hk L.tail) (x := hk L.tail.tail) (by omega) (by omega))
  refine ⟨w4, ?_, q2, q3, (F3.tr (.up (by omega) (by omega))).tr q4⟩
  have z01 := aEnd_01 (zup D 1 (hk L.tail) (hk L.tail.tail)) L.tail.tail.tail
  simp (disch := first | assumption | omega | (simp only [zcat_0, zcat_i, zcat_l, zcat_r, zcat_t]; omega) | simp) only [e_X1_takeValue_26, e_X1_takeValue_27, e_X1_takeValue_28, e_X1_takeValue_29, e_X1_takeValue_32, e_X1_takeValue_33, e_X1_takeValue_34, e_X1_takeValue_35, e_X1_takeValue_38, e_X1_takeValue_39, e_X1_takeValue_40, e_X1_takeValue_41, e_X1_takeValue_44, e_X1_takeValue_45, e_X1_takeValue_46, e_X1_takeValue_47, e_X1_takeValue_48, e_X1_takeValue_51, zpush_i, zpush_l, zpush_v, Option.bind_some, ↓if_pos, ↓if_neg, Int.reduceAdd, w32_id, en, q1]
theorem r_takeRk (hj : isT j) (hC : CR w L) (hg : gT n L) (hL : hk L ≠ -1) (hT : TO w j D) (hD : WD D) : ∃ w', Cl (d + 5) 13 [(2, 16), (2, j)] 92 w = some ((0, (aVal 2 (D 0 6 - 1) D L).1), 92, w') ∧ CR w' (aVal 2 (D 0 6 - 1) D L).2.1 ∧ TO w' j (aVal 2 (D 0 6 - 1) D L).2.2 ∧ FD j w w' := by
  have zo16 := zo_16
  obtain ⟨t0, tn, t1, u1, t2, u2, t3, u3, t4, u4, t5, u5, t6, u6⟩ := sTall hj
  have hC1 := hC.av hg.ne
  have g1 := hg.tl hL
  have hT1 := hT.av hj
  have hc1 := hC.1
  have hc2 := hC.2.1
  have hc3 := hg.ne
  have hs0 := hD.1.1
  have hs4 := hD.1.2.1
  have F1 : FD j w (adv w) := .av hj
  have e6 := hT1.e6
  have en := r_number (d := d + 3) (lo := 0) (hi := D 0 6 - 1) hC1 g1.ne
  have ea : zup w 16 3 (w 16 3 + 1) = adv w := rfl
  unfold aVal
  by_cases c2 : ¬ (0 ≤ hk L.tail ∧ hk L.tail ≤ D 0 6 - 1)
  · rw [if_pos c2]
    rw [if_neg c2] at en
    refine ⟨adv w, ?_, hC1, hT1, F1⟩
    have ep := c_isThread0 (d := d + 4) (w := adv w) (t := -1) (by omega)
    show Rn (d + 5) 13 0 [(2, 16), (2, j), (9, 0), (9, 0)] [] 92 w = _
    simp (disch := first | assumption | omega | (simp only [zcat_0, zcat_i, zcat_l, zcat_r, zcat_t]; omega) | simp) only [e_X1_takeRank_0, e_X1_takeRank_1, e_X1_takeRank_2, e_X1_takeRank_5, e_X1_takeRank_6, e_X1_takeRank_7, e_X1_takeRank_10, e_X1_takeRank_11, e_X1_takeRank_12, e_X1_takeRank_13, e_X1_takeRank_16, e_X1_takeRank_17, e_X1_takeRank_18, e_X1_takeRank_21, e_X1_takeRank_22, e_X1_takeRank_23, e_X1_takeRank_26, e_X1_takeRank_29, e_X1_takeRank_30, zpush_i, zpush_l, zpush_v, Option.bind_some, ↓if_pos, ↓if_neg, Int.reduceAdd, w32_id, ea, e6, en, ep]
  rw [if_neg c2]
  have c2' : 0 ≤ hk L.tail ∧ hk L.tail ≤ D 0 6 - 1 := Classical.not_not.mp c2
  rw [if_pos c2'] at en
  have hC2 := hC1.av g1.ne
  have g2 := g1.tl (by omega)
  have hT2 := hT1.av hj
  have F2 : FD j w (adv (adv w)) := F1.tr (.av hj)
  have ep := c_isThread1 (d := d + 4) (w := adv (adv w)) (t := hk L.tail) (by omega) (by omega)
  have hd : Cl (d + 5) 13 [(2, 16), (2, j)] 92 w = Rn (d + 5) 13 31 [(2, 16), (2, j), (0, hk L.tail), (9, 0)] [] 92 (adv (adv w)) := by
    show Rn (d + 5) 13 0 [(2, 16), (2, j), (9, 0), (9, 0)] [] 92 w = _
    simp (disch := first | assumption | omega | (simp only [zcat_0, zcat_i, zcat_l, zcat_r, zcat_t]; omega) | simp) only [e_X1_takeRank_0, e_X1_takeRank_1, e_X1_takeRank_2, e_X1_takeRank_5, e_X1_takeRank_6, e_X1_takeRank_7, e_X1_takeRank_10, e_X1_takeRank_11, e_X1_takeRank_12, e_X1_takeRank_13, e_X1_takeRank_16, e_X1_takeRank_17, e_X1_takeRank_18, e_X1_takeRank_21, e_X1_takeRank_22, e_X1_takeRank_23, e_X1_takeRank_26, e_X1_takeRank_29, e_X1_takeRank_30, zpush_i, zpush_l, zpush_v, Option.bind_some, ↓if_pos, ↓if_neg, Int.reduceAdd, w32_id, ea, e6, en, ep]
  rw [hd]
  obtain ⟨w2, ew2⟩ : ∃ w2, adv (adv w) = w2 := ⟨_, rfl⟩
  rw [ew2] at hC2 hT2 F2 ⊢
  clear hd en ep
  have en := r_number (d := d + 3) (lo := 0) (hi := 3) hC2 g2.ne
  by_cases c3 : ¬ (0 ≤ hk L.tail.tail ∧ hk L.tail.tail ≤ 3)
  · rw [if_pos c3]
    rw [if_neg c3] at en
    refine ⟨w2, ?_, hC2, hT2, F2⟩
    simp (disch := first | assumption | omega | (simp only [zcat_0, zcat_i, zcat_l, zcat_r, zcat_t]; omega) | simp) only [e_X1_takeRank_31, e_X1_takeRank_32, e_X1_takeRank_33, e_X1_takeRank_34, e_X1_takeRank_37, e_X1_takeRank_38, e_X1_takeRank_39, e_X1_takeRank_40, e_X1_takeRank_43, e_X1_takeRank_44, zpush_i, zpush_l, zpush_v, Option.bind_some, ↓if_pos, ↓if_neg, Int.reduceAdd, w32_id, en]
  rw [if_neg c3]
  have c3' : 0 ≤ hk L.tail.tail ∧ hk L.tail.tail ≤ 3 := Classical.not_not.mp c3
  rw [if_pos c3'] at en
  have hC3 := hC2.av g2.ne
  have g3 := g2.tl (by omega)
  have hT3 := hT2.av hj
  have F3 : FD j w (adv w2) := F2.tr (.av hj)
  obtain ⟨w4, q1, q2, q3, q4⟩ := r_endA (d := d + 3) hj (hC3.up (a := 2) (i := hk L.tail) (x := hk L.tail.tail) hj (by omega) (by omega)) g3 (hT3.up (a := 2) (i := hk L.tail) (x := hk L.tail.tail) (by omega) (by omega))
  refine ⟨w4, ?_, q2, q3, (F3.tr (.up (by omega) (by omega))).tr q4⟩
  have z01 := aEnd_01 (zup D 2 (hk L.tail) (hk L.tail.tail)) L.tail.tail.tail
  simp (disch := first | assumption | omega | (simp only [zcat_0, zcat_i, zcat_l, zcat_r, zcat_t]; omega) | simp) only [e_X1_takeRank_31, e_X1_takeRank_32, e_X1_takeRank_33, e_X1_takeRank_34, e_X1_takeRank_37, e_X1_takeRank_38, e_X1_takeRank_39, e_X1_takeRank_40, e_X1_takeRank_43, e_X1_takeRank_44, e_X1_takeRank_45, e_X1_takeRank_46, e_X1_takeRank_49, e_X1_takeRank_50, e_X1_takeRank_51, e_X1_takeRank_52, e_X1_takeRank_53, e_X1_takeRank_56, zpush_i, zpush_l, zpush_v, Option.bind_some, ↓if_pos, ↓if_neg, Int.reduceAdd, w32_id, en, q1]
theorem r_ops (hj : isT j) : ∀ (u : Nat) (k : Int) (w : zW) (D : Pg) (L : Tk), k + u = 5 → 0 ≤ k → CR w L → gT n L → TO w j D → WD D → 1 ≤ D 0 6 → D 3 (D 0 6 - 1) + u = 5 → ∃ w', Rn (d + 6) 14 32 [(2, 16), (2, j), (0, k)] [] 92 w = some ((0, (aOps u D L).1), 92, w') ∧ CR w' (aOps u D L).2.1 ∧ TO w' j (aOps u D L).2.2 ∧ FD j w w' := by
  have zo16 := zo_16
  obtain ⟨t0, tn, t1, u1, t2, u2, t3, u3, t4, u4, t5, u5, t6, u6⟩ := sTall hj
  intro u
  induction u with
  | zero =>
    intro k w D L hk k0 hC hg hT hD h1 hl
    obtain ⟨w1, q1, q2⟩ := r_endA (d := d + 4) hj hC hg hT
    have z01 := aEnd_01 D L
    refine ⟨w1, ?_, q2⟩
    rw [e_X1_takeThread_32]
    simp (disch := first | assumption | omega | (simp only [zcat_0, zcat_i, zcat_l, zcat_r, zcat_t]; omega) | simp) only [e_X1_takeThread_33, e_X1_takeThread_34, e_X1_takeThread_62, e_X1_takeThread_63, e_X1_takeThread_66, zpush_i, zpush_l, zpush_v, Option.bind_some, ↓if_pos, ↓if_neg, Int.reduceAdd, w32_id, q1]
    rfl
  | succ u ih =>
    intro k w D L hk' k0 hC hg hT hD h1 hl
    have et := r_token (d := d + 5) hC hg.ne
    rw [aOps]
    by_cases c : hk L = 59
    · rw [if_pos c]
      obtain ⟨w1, q1, q2⟩ := r_endA (d := d + 4) hj hC hg hT
      have z01 := aEnd_01 D L
      refine ⟨w1, ?_, q2⟩
      rw [e_X1_takeThread_32]
      simp (disch := first | assumption | omega | (simp only [zcat_0, zcat_i, zcat_l, zcat_r, zcat_t]; omega) | simp) only [e_X1_takeThread_33, e_X1_takeThread_34, e_X1_takeThread_37, e_X1_takeThread_38, e_X1_takeThread_41, e_X1_takeThread_43, e_X1_takeThread_62, e_X1_takeThread_63, e_X1_takeThread_66, zpush_i, zpush_l, zpush_v, Option.bind_some, ↓if_pos, ↓if_neg, Int.reduceAdd, w32_id, et, q1]
    rw [if_neg c]
    obtain ⟨w1, q1, q2, q3, q4⟩ := r_takeOp (d := d) hj hC hg hT hD h1 (by omega)
    obtain ⟨r1, r2, r3⟩ := aOp_g hg hD h1 (by omega)
    by_cases c0 : (aOp D L).1 = 0
    · rw [if_pos c0]
      refine ⟨w1, ?_, q2, q3, q4⟩
      rw [c0] at q1 ⊢
      rw [e_X1_takeThread_32]
      simp (disch := first | assumption | omega | (simp only [zcat_0, zcat_i, zcat_l, zcat_r, zcat_t]; omega) | simp) only [e_X1_takeThread_33, e_X1_takeThread_34, e_X1_takeThread_37, e_X1_takeThread_38, e_X1_takeThread_41, e_X1_takeThread_43, e_X1_takeThread_46, e_X1_takeThread_47, e_X1_takeThread_48, e_X1_takeThread_51, e_X1_takeThread_54, e_X1_takeThread_55, zpush_i, zpush_l, zpush_v, Option.bind_some, ↓if_pos, ↓if_neg, Int.reduceAdd, w32_id, et, q1]
    rw [if_neg c0]
    have e1 : (aOp D L).1 = 1 := by
      rcases r1.2.2.2 with z | z
      · exact absurd z c0
      · exact z.1
    obtain ⟨w2, s1, s2, s3, s4⟩ := ih (k + 1) w1 _ _ (by omega) (by omega) q2 r1.1 q3 r1.2.2.1 (by rw [r2]; exact h1) (by rw [r2, r3 e1]; omega)
    refine ⟨w2, ?_, s2, s3, q4.tr s4⟩
    rw [e1] at q1
    rw [e_X1_takeThread_32]
    simp (disch := first | assumption | omega | (simp only [zcat_0, zcat_i, zcat_l, zcat_r, zcat_t]; omega) | simp) only [e_X1_takeThread_33, e_X1_takeThread_34, e_X1_takeThread_37, e_X1_takeThread_38, e_X1_takeThread_41, e_X1_takeThread_43, e_X1_takeThread_46, e_X1_takeThread_47, e_X1_takeThread_48, e_X1_takeThread_51, e_X1_takeThread_54, e_X1_takeThread_55, e_X1_takeThread_56, e_X1_takeThread_59, zpush_i, zpush_l, zpush_v, Option.bind_some, ↓if_pos, ↓if_neg, Int.reduceAdd, w32_id, et, q1]
    exact s1
theorem r_takeThr (hj : isT j) (hC : CR w L) (hg : gT n L) (hL : hk L ≠ -1) (hT : TO w j D) (hD : WD D) : ∃ w', Cl (d + 6) 14 [(2, 16), (2, j)] 92 w = some ((0, (aThr D L).1), 92, w') ∧ CR w' (aThr D L).2.1 ∧ TO w' j (aThr D L).2.2 ∧ FD j w w' := by
  have zo16 := zo_16
  obtain ⟨t0, tn, t1, u1, t2, u2, t3, u3, t4, u4, t5, u5, t6, u6⟩ := sTall hj
  have hc1 := hC.1
  have hc2 := hC.2.1
  have hc3 := hg.ne
  have hs0 := hD.1.1
  have e6 := hT.e6
  unfold aThr
  by_cases c : 4 ≤ D 0 6
  · rw [if_pos c]
    refine ⟨w, ?_, hC, hT, .rf⟩
    show Rn (d + 6) 14 0 [(2, 16), (2, j), (9, 0)] [] 92 w = _
    simp (disch := first | assumption | omega | (simp only [zcat_0, zcat_i, zcat_l, zcat_r, zcat_t]; omega) | simp) only [e_X1_takeThread_0, e_X1_takeThread_1, e_X1_takeThread_4, e_X1_takeThread_5, e_X1_takeThread_8, e_X1_takeThread_9, zpush_i, zpush_l, zpush_v, Option.bind_some, ↓if_pos, ↓if_neg, Int.reduceAdd, w32_id, e6]
  rw [if_neg c]
  have hT1 := hT.av hj
  have e61 := hT1.e6
  have ea : zup w 16 3 (w 16 3 + 1) = adv w := rfl
  have e0 : ∀ x, zup D 0 6 x 3 = D 3 := fun x => zup_ne (by omega)
  have hT2 : TO (zup (adv w) j 6 (D 0 6 + 1)) j (zup D 0 6 (D 0 6 + 1)) := by
    have := hT1.up (a := 0) (i := 6) (x := D 0 6 + 1) (by omega) (by omega)
    rw [Int.add_zero] at this
    exact this
  have hC2 : CR (zup (adv w) j 6 (D 0 6 + 1)) L.tail := by
    have := (hC.av hg.ne).up (a := 0) (i := 6) (x := D 0 6 + 1) hj (by omega) (by omega)
    rw [Int.add_zero] at this
    exact this
  have F2 : FD j w (zup (adv w) j 6 (D 0 6 + 1)) := by
    have := (FD.av (w := w) hj).tr (FD.up (j := j) (a := 0) (i := 6) (x := D 0 6 + 1) (by omega) (by omega))
    rw [Int.add_zero] at this
    exact this
  obtain ⟨w1, q1, q2, q3, q4⟩ := r_ops (d := d) hj 5 0 _ _ _ rfl (Int.le_refl _) hC2 (hg.tl hL) hT2 (hD.thr (by omega)) (by rw [zup_self]; omega) (by rw [zup_self, e0, (hD.1.2.2.2.1 (D 0 6 + 1 - 1) (by omega) (by omega)).2.2.2.2 (by omega)]; rfl)
  refine ⟨w1, ?_, q2, q3, F2.tr q4⟩
  show Rn (d + 6) 14 0 [(2, 16), (2, j), (9, 0)] [] 92 w = _
  simp (disch := first | assumption | omega | (simp only [zcat_0, zcat_i, zcat_l, zcat_r, zcat_t]; omega) | simp) only [e_X1_takeThread_0, e_X1_takeThread_1, e_X1_takeThread_4, e_X1_takeThread_5, e_X1_takeThread_8, e_X1_takeThread_9, e_X1_takeThread_10, e_X1_takeThread_11, e_X1_takeThread_12, e_X1_takeThread_15, e_X1_takeThread_16, e_X1_takeThread_17, e_X1_takeThread_20, e_X1_takeThread_21, e_X1_takeThread_22, e_X1_takeThread_25, e_X1_takeThread_26, e_X1_takeThread_27, e_X1_takeThread_30, e_X1_takeThread_31, zpush_i, zpush_l, zpush_v, Option.bind_some, ↓if_pos, ↓if_neg, Int.reduceAdd, w32_id, e6, ea, e61]
  exact q1
theorem r_takeItem (hj : isT j) (hC : CR w L) (hg : gT n L) (hL : hk L ≠ -1) (hT : TO w j D) (hD : WD D) : ∃ w', Cl (d + 7) 11 [(2, 16), (2, j)] 92 w = some ((0, (aItem D L).1), 92, w') ∧ CR w' (aItem D L).2.1 ∧ TO w' j (aItem D L).2.2 ∧ FD j w w' := by
  have zo16 := zo_16
  obtain ⟨t0, tn, t1, u1, t2, u2, t3, u3, t4, u4, t5, u5, t6, u6⟩ := sTall hj
  have et := r_token (d := d + 6) hC hg.ne
  unfold aItem
  have hd : Cl (d + 7) 11 [(2, 16), (2, j)] 92 w = Rn (d + 7) 11 4 [(2, 16), (2, j)] [(0, hk L)] 92 w := by
    show Rn (d + 7) 11 0 [(2, 16), (2, j)] [] 92 w = _
    simp (disch := first | assumption | omega | (simp only [zcat_0, zcat_i, zcat_l, zcat_r, zcat_t]; omega) | simp) only [e_X1_takeItem_0, e_X1_takeItem_1, zpush_i, zpush_l, zpush_v, Option.bind_some, ↓if_pos, ↓if_neg, Int.reduceAdd, w32_id, et]
  rw [hd]
  clear hd
  by_cases c1 : hk L = 118
  · rw [if_pos c1]
    obtain ⟨w1, q1, q2⟩ := r_takeVal (d := d + 1) hj hC hg hL hT hD
    have z01 := (aVal_g hg hL hD (Or.inl ⟨rfl, rfl⟩)).o1
    refine ⟨w1, ?_, q2⟩
    rw [c1, e_X1_takeItem_4_k4]
    simp (disch := first | assumption | omega | (simp only [zcat_0, zcat_i, zcat_l, zcat_r, zcat_t]; omega) | simp) only [e_X1_takeItem_40, e_X1_takeItem_41, e_X1_takeItem_42, e_X1_takeItem_45, zpush_i, zpush_l, zpush_v, Option.bind_some, ↓if_pos, ↓if_neg, Int.reduceAdd, w32_id, q1]
  rw [if_neg c1]
  by_cases c2 : hk L = 116
  · rw [if_pos c2]
    obtain ⟨w1, q1, q2⟩ := r_takeThr (d := d) hj hC hg hL hT hD
    have z01 := (aThr_g hg hL hD).o1
    refine ⟨w1, ?_, q2⟩
    rw [c2, e_X1_takeItem_4_k2]
    simp (disch := first | assumption | omega | (simp only [zcat_0, zcat_i, zcat_l, zcat_r, zcat_t]; omega) | simp) only [e_X1_takeItem_46, e_X1_takeItem_47, e_X1_takeItem_48, e_X1_takeItem_51, zpush_i, zpush_l, zpush_v, Option.bind_some, ↓if_pos, ↓if_neg, Int.reduceAdd, w32_id, q1]
  rw [if_neg c2]
  by_cases c3 : hk L = 114
  · rw [if_pos c3]
    obtain ⟨w1, q1, q2⟩ := r_takeRk (d := d + 1) hj hC hg hL hT hD
    have z01 := (aVal_g hg hL hD (Or.inr ⟨rfl, rfl⟩)).o1
    refine ⟨w1, ?_, q2⟩
    rw [c3, e_X1_takeItem_4_k0]
    simp (disch := first | assumption | omega | (simp only [zcat_0, zcat_i, zcat_l, zcat_r, zcat_t]; omega) | simp) only [e_X1_takeItem_52, e_X1_takeItem_53, e_X1_takeItem_54, e_X1_takeItem_57, zpush_i, zpush_l, zpush_v, Option.bind_some, ↓if_pos, ↓if_neg, Int.reduceAdd, w32_id, q1]
  rw [if_neg c3]
  refine ⟨w, ?_, hC, hT, .rf⟩
  by_cases c4 : hk L = 115
  · rw [c4, e_X1_takeItem_4_k1]
    simp (disch := first | assumption | omega | (simp only [zcat_0, zcat_i, zcat_l, zcat_r, zcat_t]; omega) | simp) only [e_X1_takeItem_58, e_X1_takeItem_59, zpush_i, zpush_l, zpush_v, Option.bind_some, ↓if_pos, ↓if_neg, Int.reduceAdd, w32_id]
  by_cases c5 : hk L = 117
  · rw [c5, e_X1_takeItem_4_k3]
    simp (disch := first | assumption | omega | (simp only [zcat_0, zcat_i, zcat_l, zcat_r, zcat_t]; omega) | simp) only [e_X1_takeItem_58, e_X1_takeItem_59, zpush_i, zpush_l, zpush_v, Option.bind_some, ↓if_pos, ↓if_neg, Int.reduceAdd, w32_id]
  · rw [e_X1_takeItem_4_o (by omega)]
    simp (disch := first | assumption | omega | (simp only [zcat_0, zcat_i, zcat_l, zcat_r, zcat_t]; omega) | simp) only [e_X1_takeItem_58, e_X1_takeItem_59, zpush_i, zpush_l, zpush_v, Option.bind_some, ↓if_pos, ↓if_neg, Int.reduceAdd, w32_id]
end T7
