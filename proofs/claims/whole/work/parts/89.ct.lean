section T6
variable {d : Nat} {w : zW} {j : Int} {L : Tk} {n : Nat} {D : Pg}
/-- nothing but the reader's place and the draft -/
def FD (j : Int) (w w' : zW) : Prop := ∀ a i, (a ≠ 16 ∨ i ≠ 3) → (a < j ∨ j + 6 < a) → w' a i = w a i
theorem FD.rf : FD j w w := fun _ _ _ _ => rfl
theorem FD.tr {w' w'' : zW} (h : FD j w w') (h' : FD j w' w'') : FD j w w'' := fun a i h1 h2 => (h' a i h1 h2).trans (h a i h1 h2)
theorem FD.av (hj : isT j) : FD j w (adv w) := fun a i h1 _ => zup_off _ h1
theorem FD.up {a i x : Int} (h0 : 0 ≤ a) (h6 : a ≤ 6) : FD j w (zup w (j + a) i x) := fun b k _ h2 => by rw [zup_ne (by omega)]
theorem TO.av (h : TO w j D) (hj : isT j) : TO (adv w) j D := fun a h0 h1 i => by
  unfold adv
  rw [zup_ne (by omega)]
  exact h a h0 h1 i
theorem TO.up (h : TO w j D) {a i x : Int} (h0 : 0 ≤ a) (h6 : a ≤ 6) : TO (zup w (j + a) i x) j (zup D a i x) := fun b b0 b1 k => by
  by_cases c : b = a ∧ k = i
  · rw [c.1, c.2, zup_self, zup_self]
  · rw [zup_off _ (by omega), zup_off _ (by omega)]
    exact h b b0 b1 k
theorem CR.up (h : CR w L) (hj : isT j) {a i x : Int} (h0 : 0 ≤ a) (h6 : a ≤ 6) : CR (zup w (j + a) i x) L := h.at (by rw [zup_off _ (by omega)]) (by rw [zup_ne (by omega)]) (by rw [zup_ne (by omega)])
theorem TO.e6 (h : TO w j D) : w j 6 = D 0 6 := by
  have := h 0 (by omega) (by omega) 6
  rw [Int.add_zero] at this
  exact this
theorem r_addOp {c p s : Int} (hj : isT j) (hT : TO w j D) (hD : WD D) (h1 : 1 ≤ D 0 6) (hl : D 3 (D 0 6 - 1) < 5) : ∃ w', Cl (d + 1) 67 [(2, j), (0, D 0 6 - 1), (0, c), (0, p), (0, s)] 92 w = some ((9, 0), 92, w') ∧ TO w' j (addO D c p s) ∧ FD j w w' ∧ (∀ L, CR w L → CR w' L) := by
  obtain ⟨t0, tn, t1, u1, t2, u2, t3, u3, t4, u4, t5, u5, t6, u6⟩ := sTall hj
  have h2 := hD.1.2.1
  have hh := hD.1.2.2.2.1 (D 0 6 - 1) (by omega) (by omega)
  have hT' : TO (zup (zup (zup (zup w (j + 4) (5 * (D 0 6 - 1) + D 3 (D 0 6 - 1)) c) (j + 5) (5 * (D 0 6 - 1) + D 3 (D 0 6 - 1)) p) (j + 6) (5 * (D 0 6 - 1) + D 3 (D 0 6 - 1)) s) (j + 3) (D 0 6 - 1) (D 3 (D 0 6 - 1) + 1)) j (addO D c p s) := (((hT.up (by omega) (by omega)).up (by omega) (by omega)).up (by omega) (by omega)).up (by omega) (by omega)
  refine ⟨_, ?_, hT', (((FD.up (by omega) (by omega)).tr (FD.up (by omega) (by omega))).tr (FD.up (by omega) (by omega))).tr (FD.up (by omega) (by omega)), fun L h => (((h.up hj (by omega) (by omega)).up hj (by omega) (by omega)).up hj (by omega) (by omega)).up hj (by omega) (by omega)⟩
  clear hT'
  have e3 := hT 3 (by omega) (by omega) (D 0 6 - 1)
  obtain ⟨t, et⟩ : ∃ t, D 0 6 - 1 = t := ⟨_, rfl⟩
  rw [et] at e3 hh hl ⊢
  obtain ⟨l, el⟩ : ∃ l, D 3 t = l := ⟨_, rfl⟩
  rw [el] at e3 hh hl ⊢
  have hi := c_isThread1 (d := d) (w := w) (t := t) (by omega) (by omega)
  have ek : t * 5 = 5 * t := by omega
  show Rn (d + 1) 67 0 [(2, j), (0, t), (0, c), (0, p), (0, s), (9, 0)] [] 92 w = _
  simp (disch := first | assumption | omega | (simp only [zcat_0, zcat_i, zcat_l, zcat_r, zcat_t]; omega) | simp) only [e_X6_addOperation_0, e_X6_addOperation_1, e_X6_addOperation_4, e_X6_addOperation_7, e_X6_addOperation_8, e_X6_addOperation_11, e_X6_addOperation_12, e_X6_addOperation_13, e_X6_addOperation_14, e_X6_addOperation_17, e_X6_addOperation_18, e_X6_addOperation_19, e_X6_addOperation_20, e_X6_addOperation_21, e_X6_addOperation_22, e_X6_addOperation_25, e_X6_addOperation_26, e_X6_addOperation_27, e_X6_addOperation_28, e_X6_addOperation_30, e_X6_addOperation_31, e_X6_addOperation_34, e_X6_addOperation_36, e_X6_addOperation_37, e_X6_addOperation_38, e_X6_addOperation_39, e_X6_addOperation_42, e_X6_addOperation_44, e_X6_addOperation_45, e_X6_addOperation_46, e_X6_addOperation_47, e_X6_addOperation_50, e_X6_addOperation_52, e_X6_addOperation_54, e_X6_addOperation_55, e_X6_addOperation_56, e_X6_addOperation_59, e_X6_addOperation_60, e_X6_addOperation_61, e_X6_addOperation_62, e_X6_addOperation_63, e_X6_addOperation_64, e_X6_addOperation_65, zpush_i, zpush_l, zpush_v, Option.bind_some, ↓if_pos, ↓if_neg, Int.reduceAdd, w32_id, hi, e3, ek, zup_off]
theorem r_takeOp (hj : isT j) (hC : CR w L) (hg : gT n L) (hT : TO w j D) (hD : WD D) (h1 : 1 ≤ D 0 6) (hl : D 3 (D 0 6 - 1) < 5) : ∃ w', Cl (d + 5) 15 [(2, 16), (2, j)] 92 w = some ((0, (aOp D L).1), 92, w') ∧ CR w' (aOp D L).2.1 ∧ TO w' j (aOp D L).2.2 ∧ FD j w w' := by
  have zo16 := zo_16
  obtain ⟨t0, tn, t1, u1, t2, u2, t3, u3, t4, u4, t5, u5, t6, u6⟩ := sTall hj
  have et := r_token (d := d + 4) hC hg.ne
  have hh := hg.hk
  have z1 := zix1 (hk L)
  have z2 := zix2 (hk L)
  have e6 := hT.e6
  have hP4 := hD.1.2.1
  have hc1 := hC.1
  have hc2 := hC.2.1
  have hc3 := hg.ne
  unfold aOp
  by_cases c0 : ¬ is9 (hk L)
  · rw [if_pos c0]
    refine ⟨w, ?_, hC, hT, .rf⟩
    have z1' := z1.mpr c0
    show Rn (d + 5) 15 0 [(2, 16), (2, j), (9, 0), (9, 0), (9, 0)] [] 92 w = _
    by_cases c : hk L ≤ 0
    · simp (disch := first | assumption | omega | (simp only [zcat_0, zcat_i, zcat_l, zcat_r, zcat_t]; omega) | simp) only [e_X1_takeOperation_0, e_X1_takeOperation_1, e_X1_takeOperation_4, e_X1_takeOperation_5, e_X1_takeOperation_6, e_X1_takeOperation_9, e_X1_takeOperation_11, e_X1_takeOperation_12, e_X1_takeOperation_13, e_X1_takeOperation_16, e_X1_takeOperation_19, e_X1_takeOperation_20, zpush_i, zpush_l, zpush_v, Option.bind_some, ↓if_pos, ↓if_neg, Int.reduceAdd, w32_id, et]
    · have ei := i2c_id (c := hk L) (by omega) (by omega)
      simp (disch := first | assumption | omega | (simp only [zcat_0, zcat_i, zcat_l, zcat_r, zcat_t]; omega) | simp) only [e_X1_takeOperation_0, e_X1_takeOperation_1, e_X1_takeOperation_4, e_X1_takeOperation_5, e_X1_takeOperation_6, e_X1_takeOperation_9, e_X1_takeOperation_11, e_X1_takeOperation_12, e_X1_takeOperation_13, e_X1_takeOperation_16, e_X1_takeOperation_19, e_X1_takeOperation_20, zpush_i, zpush_l, zpush_v, Option.bind_some, ↓if_pos, ↓if_neg, Int.reduceAdd, w32_id, et, ei]
  rw [if_neg c0]
  have c0' : is9 (hk L) := Classical.not_not.mp c0
  have z1' : ¬ zix (1 : Int).toNat (hk L) < 0 := fun z => z1.mp z c0'
  have ei := i2c_id (c := hk L) (by omega) (by omega)
  have hC1 := hC.av hg.ne
  have g1 := hg.tl (by omega)
  have hT1 := hT.av hj
  have F1 : FD j w (adv w) := .av hj
  have e61 := hT1.e6
  have hd : Cl (d + 5) 15 [(2, 16), (2, j)] 92 w = Rn (d + 5) 15 36 [(2, 16), (2, j), (0, hk L), (0, 3), (0, 0)] [] 92 (adv w) := by
    show Rn (d + 5) 15 0 [(2, 16), (2, j), (9, 0), (9, 0), (9, 0)] [] 92 w = _
    simp (disch := first | assumption | omega | (simp only [zcat_0, zcat_i, zcat_l, zcat_r, zcat_t]; omega) | simp) only [e_X1_takeOperation_0, e_X1_takeOperation_1, e_X1_takeOperation_4, e_X1_takeOperation_5, e_X1_takeOperation_6, e_X1_takeOperation_9, e_X1_takeOperation_11, e_X1_takeOperation_12, e_X1_takeOperation_13, e_X1_takeOperation_16, e_X1_takeOperation_19, e_X1_takeOperation_20, e_X1_takeOperation_21, e_X1_takeOperation_22, e_X1_takeOperation_23, e_X1_takeOperation_26, e_X1_takeOperation_27, e_X1_takeOperation_28, e_X1_takeOperation_31, e_X1_takeOperation_32, e_X1_takeOperation_33, e_X1_takeOperation_34, zpush_i, zpush_l, zpush_v, Option.bind_some, ↓if_pos, ↓if_neg, Int.reduceAdd, w32_id, et, ei]
    rfl
  rw [hd]
  obtain ⟨w1, ew1⟩ : ∃ w1, adv w = w1 := ⟨_, rfl⟩
  rw [ew1] at hC1 hT1 F1 e61 ⊢
  clear hd et e6
  by_cases c1 : hk L = 120
  · rw [if_pos c1]
    have z2' := z2.mpr (by omega)
    obtain ⟨w2, q1, q2, q3, q4⟩ := r_addOp (d := d + 3) (c := 120) (p := 3) (s := 0) hj hT1 hD h1 hl
    refine ⟨w2, ?_, q4 _ hC1, q2, F1.tr q3⟩
    rw [c1] at ei z2' ⊢
    simp (disch := first | assumption | omega | (simp only [zcat_0, zcat_i, zcat_l, zcat_r, zcat_t]; omega) | simp) only [e_X1_takeOperation_36, e_X1_takeOperation_37, e_X1_takeOperation_39, e_X1_takeOperation_42, e_X1_takeOperation_43, e_X1_takeOperation_44, e_X1_takeOperation_45, e_X1_takeOperation_48, e_X1_takeOperation_49, e_X1_takeOperation_50, e_X1_takeOperation_51, e_X1_takeOperation_54, e_X1_takeOperation_55, e_X1_takeOperation_56, e_X1_takeOperation_58, e_X1_takeOperation_59, e_X1_takeOperation_60, e_X1_takeOperation_63, e_X1_takeOperation_66, e_X1_takeOperation_67, e_X1_takeOperation_69, e_X1_takeOperation_72, e_X1_takeOperation_73, e_X1_takeOperation_76, e_X1_takeOperation_77, e_X1_takeOperation_80, e_X1_takeOperation_81, e_X1_takeOperation_82, e_X1_takeOperation_83, e_X1_takeOperation_84, e_X1_takeOperation_86, e_X1_takeOperation_89, e_X1_takeOperation_90, e_X1_takeOperation_93, e_X1_takeOperation_94, e_X1_takeOperation_95, e_X1_takeOperation_97, e_X1_takeOperation_100, e_X1_takeOperation_101, e_X1_takeOperation_104, e_X1_takeOperation_105, e_X1_takeOperation_108, e_X1_takeOperation_110, e_X1_takeOperation_112, e_X1_takeOperation_113, e_X1_takeOperation_116, e_X1_takeOperation_117, e_X1_takeOperation_118, e_X1_takeOperation_119, e_X1_takeOperation_120, e_X1_takeOperation_123, e_X1_takeOperation_124, e_X1_takeOperation_125, e_X1_takeOperation_126, e_X1_takeOperation_127, e_X1_takeOperation_129, e_X1_takeOperation_132, e_X1_takeOperation_133, zpush_i, zpush_l, zpush_v, Option.bind_some, ↓if_pos, ↓if_neg, Int.reduceAdd, w32_id, ei, e61, q1]
  rw [if_neg c1]
  have en := r_number (d := d + 3) (lo := 0) (hi := 2) hC1 g1.ne
  by_cases c2 : ¬ (0 ≤ hk L.tail ∧ hk L.tail ≤ 2)
  · rw [if_pos c2]
    rw [if_neg c2] at en
    refine ⟨w1, ?_, hC1, hT1, F1⟩
    simp (disch := first | assumption | omega | (simp only [zcat_0, zcat_i, zcat_l, zcat_r, zcat_t]; omega) | simp) only [e_X1_takeOperation_36, e_X1_takeOperation_37, e_X1_takeOperation_39, e_X1_takeOperation_42, e_X1_takeOperation_43, e_X1_takeOperation_44, e_X1_takeOperation_45, e_X1_takeOperation_48, e_X1_takeOperation_49, e_X1_takeOperation_50, e_X1_takeOperation_51, e_X1_takeOperation_54, e_X1_takeOperation_55, zpush_i, zpush_l, zpush_v, Option.bind_some, ↓if_pos, ↓if_neg, Int.reduceAdd, w32_id, en]
  rw [if_neg c2]
  have c2' : 0 ≤ hk L.tail ∧ hk L.tail ≤ 2 := Classical.not_not.mp c2
  rw [if_pos c2'] at en
  have hC2 := hC1.av g1.ne
  have g2 := g1.tl (by omega)
  have hT2 := hT1.av hj
  have F2 : FD j w (adv w1) := F1.tr (.av hj)
  have e62 := hT2.e6
  have hd : Rn (d + 5) 15 36 [(2, 16), (2, j), (0, hk L), (0, 3), (0, 0)] [] 92 w1 = Rn (d + 5) 15 56 [(2, 16), (2, j), (0, hk L), (0, hk L.tail), (0, 0)] [] 92 (adv w1) := by
    simp (disch := first | assumption | omega | (simp only [zcat_0, zcat_i, zcat_l, zcat_r, zcat_t]; omega) | simp) only [e_X1_takeOperation_36, e_X1_takeOperation_37, e_X1_takeOperation_39, e_X1_takeOperation_42, e_X1_takeOperation_43, e_X1_takeOperation_44, e_X1_takeOperation_45, e_X1_takeOperation_48, e_X1_takeOperation_49, e_X1_takeOperation_50, e_X1_takeOperation_51, e_X1_takeOperation_54, e_X1_takeOperation_55, zpush_i, zpush_l, zpush_v, Option.bind_some, ↓if_pos, ↓if_neg, Int.reduceAdd, w32_id, en]
  rw [hd]
  obtain ⟨w2, ew2⟩ : ∃ w2, adv w1 = w2 := ⟨_, rfl⟩
  rw [ew2] at hC2 hT2 F2 e62 ⊢
  clear hd en
  by_cases c3 : ¬ is5 (hk L)
  · rw [if_pos c3]
    have z2' := z2.mpr c3
    obtain ⟨w3, q1, q2, q3, q4⟩ := r_addOp (d := d + 3) (c := hk L) (p := hk L.tail) (s := 0) hj hT2 hD h1 hl
    refine ⟨w3, ?_, q4 _ hC2, q2, F2.tr q3⟩
    simp (disch := first | assumption | omega | (simp only [zcat_0, zcat_i, zcat_l, zcat_r, zcat_t]; omega) | simp) only [e_X1_takeOperation_56, e_X1_takeOperation_58, e_X1_takeOperation_59, e_X1_takeOperation_60, e_X1_takeOperation_63, e_X1_takeOperation_66, e_X1_takeOperation_67, e_X1_takeOperation_69, e_X1_takeOperation_72, e_X1_takeOperation_73, e_X1_takeOperation_76, e_X1_takeOperation_77, e_X1_takeOperation_80, e_X1_takeOperation_81, e_X1_takeOperation_82, e_X1_takeOperation_83, e_X1_takeOperation_84, e_X1_takeOperation_86, e_X1_takeOperation_89, e_X1_takeOperation_90, e_X1_takeOperation_93, e_X1_takeOperation_94, e_X1_takeOperation_95, e_X1_takeOperation_97, e_X1_takeOperation_100, e_X1_takeOperation_101, e_X1_takeOperation_104, e_X1_takeOperation_105, e_X1_takeOperation_108, e_X1_takeOperation_110, e_X1_takeOperation_112, e_X1_takeOperation_113, e_X1_takeOperation_116, e_X1_takeOperation_117, e_X1_takeOperation_118, e_X1_takeOperation_119, e_X1_takeOperation_120, e_X1_takeOperation_123, e_X1_takeOperation_124, e_X1_takeOperation_125, e_X1_takeOperation_126, e_X1_takeOperation_127, e_X1_takeOperation_129, e_X1_takeOperation_132, e_X1_takeOperation_133, zpush_i, zpush_l, zpush_v, Option.bind_some, ↓if_pos, ↓if_neg, Int.reduceAdd, w32_id, ei, e62, q1]
  rw [if_neg c3]
  have c3' : is5 (hk L) := Classical.not_not.mp c3
  have z2' : ¬ zix (2 : Int).toNat (hk L) < 0 := fun z => z2.mp z c3'
  have et := r_token (d := d + 4) hC2 g2.ne
  by_cases c4 : hk L = 113 ∧ hk L.tail.tail = hk L.tail
  · rw [if_pos c4]
    refine ⟨w2, ?_, hC2, hT2, F2⟩
    simp (disch := first | assumption | omega | (simp only [zcat_0, zcat_i, zcat_l, zcat_r, zcat_t]; omega) | simp) only [e_X1_takeOperation_56, e_X1_takeOperation_58, e_X1_takeOperation_59, e_X1_takeOperation_60, e_X1_takeOperation_63, e_X1_takeOperation_66, e_X1_takeOperation_67, e_X1_takeOperation_69, e_X1_takeOperation_72, e_X1_takeOperation_73, e_X1_takeOperation_76, e_X1_takeOperation_77, e_X1_takeOperation_80, e_X1_takeOperation_81, zpush_i, zpush_l, zpush_v, Option.bind_some, ↓if_pos, ↓if_neg, Int.reduceAdd, w32_id, ei, et]
  rw [if_neg c4]
  have en := r_number (d := d + 3) (lo := if hk L = 107 then 1 else 0) (hi := if hk L = 113 then 2 else 3) hC2 g2.ne
  have hd : Rn (d + 5) 15 56 [(2, 16), (2, j), (0, hk L), (0, hk L.tail), (0, 0)] [] 92 w2 = Rn (d + 5) 15 105 [(2, 16), (2, j), (0, hk L), (0, hk L.tail), (0, 0)] [(0, if hk L = 113 then 2 else 3), (0, if hk L = 107 then 1 else 0), (2, 16)] 92 w2 := by
    by_cases b1 : hk L = 113
    · rw [if_pos b1, if_neg (by omega)]
      simp (disch := first | assumption | omega | (simp only [zcat_0, zcat_i, zcat_l, zcat_r, zcat_t]; omega) | simp) only [e_X1_takeOperation_56, e_X1_takeOperation_58, e_X1_takeOperation_59, e_X1_takeOperation_60, e_X1_takeOperation_63, e_X1_takeOperation_66, e_X1_takeOperation_67, e_X1_takeOperation_69, e_X1_takeOperation_72, e_X1_takeOperation_73, e_X1_takeOperation_76, e_X1_takeOperation_77, e_X1_takeOperation_80, e_X1_takeOperation_81, e_X1_takeOperation_82, e_X1_takeOperation_83, e_X1_takeOperation_84, e_X1_takeOperation_86, e_X1_takeOperation_89, e_X1_takeOperation_90, e_X1_takeOperation_93, e_X1_takeOperation_94, e_X1_takeOperation_95, e_X1_takeOperation_97, e_X1_takeOperation_100, e_X1_takeOperation_101, e_X1_takeOperation_104, zpush_i, zpush_l, zpush_v, Option.bind_some, ↓if_pos, ↓if_neg, Int.reduceAdd, w32_id, ei, et]
    · rw [if_neg b1]
      by_cases b2 : hk L = 107
      · rw [if_pos b2]
        simp (disch := first | assumption | omega | (simp only [zcat_0, zcat_i, zcat_l, zcat_r, zcat_t]; omega) | simp) only [e_X1_takeOperation_56, e_X1_takeOperation_58, e_X1_takeOperation_59, e_X1_takeOperation_60, e_X1_takeOperation_63, e_X1_takeOperation_66, e_X1_takeOperation_67, e_X1_takeOperation_69, e_X1_takeOperation_72, e_X1_takeOperation_73, e_X1_takeOperation_76, e_X1_takeOperation_77, e_X1_takeOperation_80, e_X1_takeOperation_81, e_X1_takeOperation_82, e_X1_takeOperation_83, e_X1_takeOperation_84, e_X1_takeOperation_86, e_X1_takeOperation_89, e_X1_takeOperation_90, e_X1_takeOperation_93, e_X1_takeOperation_94, e_X1_takeOperation_95, e_X1_takeOperation_97, e_X1_takeOperation_100, e_X1_takeOperation_101, e_X1_takeOperation_104, zpush_i, zpush_l, zpush_v, Option.bind_some, ↓if_pos, ↓if_neg, Int.reduceAdd, w32_id, ei]
      · rw [if_neg b2]
        simp (disch := first | assumption | omega | (simp only [zcat_0, zcat_i, zcat_l, zcat_r, zcat_t]; omega) | simp) only [e_X1_takeOperation_56, e_X1_takeOperation_58, e_X1_takeOperation_59, e_X1_takeOperation_60, e_X1_takeOperation_63, e_X1_takeOperation_66, e_X1_takeOperation_67, e_X1_takeOperation_69, e_X1_takeOperation_72, e_X1_takeOperation_73, e_X1_takeOperation_76, e_X1_takeOperation_77, e_X1_takeOperation_80, e_X1_takeOperation_81, e_X1_takeOperation_82, e_X1_takeOperation_83, e_X1_takeOperation_84, e_X1_takeOperation_86, e_X1_takeOperation_89, e_X1_takeOperation_90, e_X1_takeOperation_93, e_X1_takeOperation_94, e_X1_takeOperation_95, e_X1_takeOperation_97, e_X1_takeOperation_100, e_X1_takeOperation_101, e_X1_takeOperation_104, zpush_i, zpush_l, zpush_v, Option.bind_some, ↓if_pos, ↓if_neg, Int.reduceAdd, w32_id, ei]
  rw [hd]
  clear hd
  by_cases c5 : ¬ ((if hk L = 107 then 1 else 0) ≤ hk L.tail.tail ∧ hk L.tail.tail ≤ (if hk L = 113 then 2 else 3))
  · rw [if_pos c5]
    rw [if_neg c5] at en
    refine ⟨w2, ?_, hC2, hT2, F2⟩
    clear c5
    simp (disch := first | assumption | omega | (simp only [zcat_0, zcat_i, zcat_l, zcat_r, zcat_t]; omega) | simp) only [e_X1_takeOperation_105, e_X1_takeOperation_108, e_X1_takeOperation_110, e_X1_takeOperation_112, e_X1_takeOperation_113, e_X1_takeOperation_116, e_X1_takeOperation_117, zpush_i, zpush_l, zpush_v, Option.bind_some, ↓if_pos, ↓if_neg, Int.reduceAdd, w32_id, en]
  rw [if_neg c5]
  have c5' : (if hk L = 107 then 1 else 0) ≤ hk L.tail.tail ∧ hk L.tail.tail ≤ (if hk L = 113 then 2 else 3) := Classical.not_not.mp c5
  rw [if_pos c5'] at en
  have b0 : 0 ≤ hk L.tail.tail := Int.le_trans (by split <;> omega) c5'.1
  clear c5 c5'
  have hC3 := hC2.av g2.ne
  have hT3 := hT2.av hj
  have F3 : FD j w (adv w2) := F2.tr (.av hj)
  have e63 := hT3.e6
  obtain ⟨w4, q1, q2, q3, q4⟩ := r_addOp (d := d + 3) (c := hk L) (p := hk L.tail) (s := hk L.tail.tail) hj hT3 hD h1 hl
  refine ⟨w4, ?_, q4 _ hC3, q2, F3.tr q3⟩
  simp (disch := first | assumption | omega | (simp only [zcat_0, zcat_i, zcat_l, zcat_r, zcat_t]; omega) | simp) only [e_X1_takeOperation_105, e_X1_takeOperation_108, e_X1_takeOperation_110, e_X1_takeOperation_112, e_X1_takeOperation_113, e_X1_takeOperation_116, e_X1_takeOperation_117, e_X1_takeOperation_118, e_X1_takeOperation_119, e_X1_takeOperation_120, e_X1_takeOperation_123, e_X1_takeOperation_124, e_X1_takeOperation_125, e_X1_takeOperation_126, e_X1_takeOperation_127, e_X1_takeOperation_129, e_X1_takeOperation_132, e_X1_takeOperation_133, zpush_i, zpush_l, zpush_v, Option.bind_some, ↓if_pos, ↓if_neg, Int.reduceAdd, w32_id, en, e63, q1]
end T6
