section Q5
variable {d : Nat} {w : zW} {j x p t : Int} {S : Sc} {P : Pg} {Q : Sg}
def qTh (P : Pg) (S : Sc) (t x : Int) : Int := if ¬ (0 ≤ t ∧ t < P 0 6) then -1 else if x = 0 then S.1 (9 + t) else if x = 1 then howC (S.1 (13 + t)) else if x = 2 then (if S.1 (13 + t) = 0 ∨ S.1 (13 + t) = 7 then -9 else whC (S.1 (13 + t))) else if x = 3 then P 2 t else if x = 4 then sLd P S t else if x = 5 then S.1 (17 + t) else -1
theorem r_lentRank (hj : isT j) (hC : CS w 19 S) (hT : TO w j P) (hW : WS0 P S) (hP : WP P) (h0 : 0 ≤ t) (h4 : t < 4) : ∃ w', Cl (d + 2) 25 [(2, 19), (2, j), (0, t)] 92 w = some ((0, sLd P S t), 92, w') ∧ (∀ a, a ≠ 28 → w' a = w a) := by
  have zo19 := zo_19; have zo28 := zo_28; have zl28 := zl_28
  obtain ⟨t0, tn, t1, u1, t2, u2, t3, u3, t4, u4, t5, u5, t6, u6⟩ := sTall hj
  obtain ⟨w1, q1, q2, q3⟩ := r_lend (d := d) (k := 19) (by omega) hj hC hT hW hP
  have hi := c_isThread1 (d := d + 1) (w := w1) h0 h4
  have e : w1 28 t = sLd P S t := q2 t h0 h4
  refine ⟨w1, ?_, fun a ha => q3 a (by omega)⟩
  show Rn (d + 2) 25 0 [(2, 19), (2, j), (0, t)] [] 92 w = _
  simp (disch := first | assumption | omega | (simp only [zcat_0, zcat_i, zcat_l, zcat_r, zcat_t]; omega) | simp) only [e_X2_lentRank_0, e_X2_lentRank_1, e_X2_lentRank_2, e_X2_lentRank_5, e_X2_lentRank_6, e_X2_lentRank_9, e_X2_lentRank_12, e_X2_lentRank_13, e_X2_lentRank_16, e_X2_lentRank_17, e_X2_lentRank_18, e_X2_lentRank_21, e_X2_lentRank_22, zpush_i, zpush_l, zpush_v, Option.bind_some, ↓if_pos, ↓if_neg, Int.reduceAdd, w32_id, q1, hi, e]
theorem r_thread (h2 : w 0 2 = j) (hj : isT j) (hC : CS w 19 S) (hT : TO w j P) (hW : WS0 P S) (hP : WP P) : ∃ w', Cl (d + 3) 77 [(2, 0), (0, t), (0, x)] 92 w = some ((0, qTh P S t x), 92, w') ∧ (∀ a, a ≠ 28 → w' a = w a) := by
  have zo0 := zo_0; have zo19 := zo_19; have zo23 := zo_23; have zl23 := zl_23; have zo24 := zo_24; have zl24 := zl_24; have zo25 := zo_25; have zl25 := zl_25; have zo26 := zo_26; have zl26 := zl_26
  obtain ⟨t0, tn, t1, u1, t2, u2, t3, u3, t4, u4, t5, u5, t6, u6⟩ := sTall hj
  have hP4 := hP.2.1
  have hti := r_isTold (d := d + 1) (t := t) h2 hj hT hP
  unfold qTh
  by_cases c : ¬ (0 ≤ t ∧ t < P 0 6)
  · rw [if_pos c]
    rw [if_neg c] at hti
    refine ⟨w, ?_, fun _ _ => rfl⟩
    show Rn (d + 3) 77 0 [(2, 0), (0, t), (0, x)] [] 92 w = _
    simp (disch := first | assumption | omega | (simp only [zcat_0, zcat_i, zcat_l, zcat_r, zcat_t]; omega) | simp) only [e_X7_thread_0, e_X7_thread_1, e_X7_thread_2, e_X7_thread_5, e_X7_thread_8, e_X7_thread_9, zpush_i, zpush_l, zpush_v, Option.bind_some, ↓if_pos, ↓if_neg, Int.reduceAdd, w32_id, hti]
  rw [if_neg c]
  have cc : 0 ≤ t ∧ t < P 0 6 := by omega
  rw [if_pos cc] at hti
  have hd : Cl (d + 3) 77 [(2, 0), (0, t), (0, x)] 92 w = Rn (d + 3) 77 11 [(2, 0), (0, t), (0, x)] [(0, x)] 92 w := by
    show Rn (d + 3) 77 0 [(2, 0), (0, t), (0, x)] [] 92 w = _
    simp (disch := first | assumption | omega | (simp only [zcat_0, zcat_i, zcat_l, zcat_r, zcat_t]; omega) | simp) only [e_X7_thread_0, e_X7_thread_1, e_X7_thread_2, e_X7_thread_5, e_X7_thread_8, e_X7_thread_9, e_X7_thread_10, zpush_i, zpush_l, zpush_v, Option.bind_some, ↓if_pos, ↓if_neg, Int.reduceAdd, w32_id, hti]
  obtain ⟨b1, b2, b3, b4⟩ := hC.2.1 t cc.1 (by omega)
  have b1' : w 23 t = S.1 (9 + t) := b1
  have b2' : w 24 t = howC (S.1 (13 + t)) := b2
  have b3' : w 25 t = whC (S.1 (13 + t)) := b3
  have b4' : w 26 t = S.1 (17 + t) := b4
  obtain ⟨f1, f2, f3, f4, f5, f6⟩ := hW.2.1 t cc.1 (by omega)
  by_cases x0 : x = 0
  · subst x0
    rw [if_pos rfl]
    refine ⟨w, hd.trans ?_, fun _ _ => rfl⟩
    simp (disch := first | assumption | omega | (simp only [zcat_0, zcat_i, zcat_l, zcat_r, zcat_t]; omega) | simp) only [e_X7_thread_11_k0, e_X7_thread_11_k1, e_X7_thread_11_k2, e_X7_thread_11_k3, e_X7_thread_11_k4, e_X7_thread_11_k5, e_X7_thread_11_o, e_X7_thread_48, e_X7_thread_49, e_X7_thread_52, e_X7_thread_55, e_X7_thread_56, e_X7_thread_57, zpush_i, zpush_l, zpush_v, Option.bind_some, ↓if_pos, ↓if_neg, Int.reduceAdd, w32_id, b1']
  rw [if_neg x0]
  by_cases x1 : x = 1
  · subst x1
    rw [if_pos rfl]
    refine ⟨w, hd.trans ?_, fun _ _ => rfl⟩
    simp (disch := first | assumption | omega | (simp only [zcat_0, zcat_i, zcat_l, zcat_r, zcat_t]; omega) | simp) only [e_X7_thread_11_k1, e_X7_thread_58, e_X7_thread_59, e_X7_thread_62, e_X7_thread_65, e_X7_thread_66, e_X7_thread_67, zpush_i, zpush_l, zpush_v, Option.bind_some, ↓if_pos, ↓if_neg, Int.reduceAdd, w32_id, b2']
  rw [if_neg x1]
  by_cases x2 : x = 2
  · subst x2
    rw [if_pos rfl]
    refine ⟨w, hd.trans ?_, fun _ _ => rfl⟩
    by_cases z : S.1 (13 + t) = 0 ∨ S.1 (13 + t) = 7
    · rw [if_pos z]
      have e : w 25 t = 3 := by
        rw [b3']
        rcases z with z | z <;> rw [z] <;> rfl
      simp (disch := first | assumption | omega | (simp only [zcat_0, zcat_i, zcat_l, zcat_r, zcat_t]; omega) | simp) only [e_X7_thread_11_k2, e_X7_thread_68, e_X7_thread_69, e_X7_thread_72, e_X7_thread_75, e_X7_thread_76, e_X7_thread_77, e_X7_thread_78, e_X7_thread_81, e_X7_thread_83, e_X7_thread_86, e_X7_thread_87, e_X7_thread_90, e_X7_thread_93, e_X7_thread_94, e_X7_thread_95, zpush_i, zpush_l, zpush_v, Option.bind_some, ↓if_pos, ↓if_neg, Int.reduceAdd, w32_id, e]
    · rw [if_neg z]
      have e : whC (S.1 (13 + t)) ≠ 3 := by
        unfold whC
        split
        · omega
        · split
          · omega
          · split <;> omega
      simp (disch := first | assumption | omega | (simp only [zcat_0, zcat_i, zcat_l, zcat_r, zcat_t]; omega) | simp) only [e_X7_thread_11_k2, e_X7_thread_68, e_X7_thread_69, e_X7_thread_72, e_X7_thread_75, e_X7_thread_76, e_X7_thread_77, e_X7_thread_78, e_X7_thread_81, e_X7_thread_83, e_X7_thread_86, e_X7_thread_87, e_X7_thread_90, e_X7_thread_93, e_X7_thread_94, e_X7_thread_95, zpush_i, zpush_l, zpush_v, Option.bind_some, ↓if_pos, ↓if_neg, Int.reduceAdd, w32_id, b3']
  rw [if_neg x2]
  by_cases x3 : x = 3
  · subst x3
    rw [if_pos rfl]
    refine ⟨w, hd.trans ?_, fun _ _ => rfl⟩
    have e := hT 2 (by omega) (by omega) t
    simp (disch := first | assumption | omega | (simp only [zcat_0, zcat_i, zcat_l, zcat_r, zcat_t]; omega) | simp) only [e_X7_thread_11_k3, e_X7_thread_96, e_X7_thread_97, e_X7_thread_100, e_X7_thread_103, e_X7_thread_104, e_X7_thread_105, zpush_i, zpush_l, zpush_v, Option.bind_some, ↓if_pos, ↓if_neg, Int.reduceAdd, w32_id, h2, e]
  rw [if_neg x3]
  by_cases x4 : x = 4
  · subst x4
    rw [if_pos rfl]
    obtain ⟨w1, q1, q2⟩ := r_lentRank (d := d) hj hC hT hW hP cc.1 (show t < 4 by omega)
    refine ⟨w1, hd.trans ?_, q2⟩
    simp (disch := first | assumption | omega | (simp only [zcat_0, zcat_i, zcat_l, zcat_r, zcat_t]; omega) | simp) only [e_X7_thread_11_k4, e_X7_thread_106, e_X7_thread_107, e_X7_thread_110, e_X7_thread_111, e_X7_thread_114, e_X7_thread_115, e_X7_thread_118, zpush_i, zpush_l, zpush_v, Option.bind_some, ↓if_pos, ↓if_neg, Int.reduceAdd, w32_id, h2, q1]
  rw [if_neg x4]
  by_cases x5 : x = 5
  · subst x5
    rw [if_pos rfl]
    refine ⟨w, hd.trans ?_, fun _ _ => rfl⟩
    simp (disch := first | assumption | omega | (simp only [zcat_0, zcat_i, zcat_l, zcat_r, zcat_t]; omega) | simp) only [e_X7_thread_11_k5, e_X7_thread_119, e_X7_thread_120, e_X7_thread_123, e_X7_thread_126, e_X7_thread_127, e_X7_thread_128, zpush_i, zpush_l, zpush_v, Option.bind_some, ↓if_pos, ↓if_neg, Int.reduceAdd, w32_id, b4']
  rw [if_neg x5]
  refine ⟨w, hd.trans ?_, fun _ _ => rfl⟩
  rw [e_X7_thread_11_o (by omega)]
  simp (disch := first | assumption | omega | (simp only [zcat_0, zcat_i, zcat_l, zcat_r, zcat_t]; omega) | simp) only [e_X7_thread_129, e_X7_thread_130, zpush_i, zpush_l, zpush_v, Option.bind_some, ↓if_pos, ↓if_neg, Int.reduceAdd, w32_id]
theorem m_thread (hR : RS w (P 0 6) S) (hO : PO w P) (hW : WS0 P S) (hP : WP P) : ∃ w', Cl (d + 3) 124 [(2, 67), (0, t), (0, x)] 92 w = some ((0, qTh P S t x), 92, w') ∧ (∀ a, a ≠ 73 → w' a = w a) := by
  have zo67 := zo_67; have zo69 := zo_69; have zl69 := zl_69; have zo72 := zo_72; have zl72 := zl_72; have zo73 := zo_73; have zl73 := zl_73
  have hP4 := hP.2.1
  have hti := m_isThr (d := d + 1) (t := t) hO hP
  unfold qTh
  by_cases c : ¬ (0 ≤ t ∧ t < P 0 6)
  · rw [if_pos c]
    rw [if_neg c] at hti
    refine ⟨w, ?_, fun _ _ => rfl⟩
    show Rn (d + 3) 124 0 [(2, 67), (0, t), (0, x), (9, 0)] [] 92 w = _
    simp (disch := first | assumption | omega | (simp only [zcat_0, zcat_i, zcat_l, zcat_r, zcat_t]; omega) | simp) only [e_X8_thread_0, e_X8_thread_1, e_X8_thread_2, e_X8_thread_5, e_X8_thread_8, e_X8_thread_9, zpush_i, zpush_l, zpush_v, Option.bind_some, ↓if_pos, ↓if_neg, Int.reduceAdd, w32_id, hti]
  rw [if_neg c]
  have cc : 0 ≤ t ∧ t < P 0 6 := by omega
  rw [if_pos cc] at hti
  obtain ⟨b2, b4⟩ := hR.2.1 t cc.1 (by omega)
  rw [if_pos cc.2] at b2
  have b1 := hR.1 (9 + t) (by omega) (by omega)
  have b3 := (hO.2.2 t cc.1 cc.2).1
  obtain ⟨f1, f2, f3, f4, f5, f6⟩ := hW.2.1 t cc.1 (by omega)
  have hd : Cl (d + 3) 124 [(2, 67), (0, t), (0, x)] 92 w = Rn (d + 3) 124 21 [(2, 67), (0, t), (0, x), (0, S.1 (13 + t))] [(0, x)] 92 w := by
    show Rn (d + 3) 124 0 [(2, 67), (0, t), (0, x), (9, 0)] [] 92 w = _
    simp (disch := first | assumption | omega | (simp only [zcat_0, zcat_i, zcat_l, zcat_r, zcat_t]; omega) | simp) only [e_X8_thread_0, e_X8_thread_1, e_X8_thread_2, e_X8_thread_5, e_X8_thread_8, e_X8_thread_9, e_X8_thread_10, e_X8_thread_11, e_X8_thread_14, e_X8_thread_16, e_X8_thread_17, e_X8_thread_18, e_X8_thread_19, e_X8_thread_20, zpush_i, zpush_l, zpush_v, Option.bind_some, ↓if_pos, ↓if_neg, Int.reduceAdd, w32_id, hti, b2]
  by_cases x0 : x = 0
  · subst x0
    rw [if_pos rfl]
    refine ⟨w, hd.trans ?_, fun _ _ => rfl⟩
    simp (disch := first | assumption | omega | (simp only [zcat_0, zcat_i, zcat_l, zcat_r, zcat_t]; omega) | simp) only [e_X8_thread_21_k0, e_X8_thread_21_k1, e_X8_thread_21_k2, e_X8_thread_21_k3, e_X8_thread_21_k4, e_X8_thread_21_k5, e_X8_thread_21_o, e_X8_thread_60, e_X8_thread_61, e_X8_thread_64, e_X8_thread_66, e_X8_thread_67, e_X8_thread_68, e_X8_thread_69, zpush_i, zpush_l, zpush_v, Option.bind_some, ↓if_pos, ↓if_neg, Int.reduceAdd, w32_id, b1]
  rw [if_neg x0]
  by_cases x1 : x = 1
  · subst x1
    rw [if_pos rfl]
    refine ⟨w, hd.trans ?_, fun _ _ => rfl⟩
    have hh : S.1 (13 + t) = 0 ∨ S.1 (13 + t) = 7 ∨ 1 ≤ S.1 (13 + t) ∧ S.1 (13 + t) < 4 ∨ 4 ≤ S.1 (13 + t) ∧ S.1 (13 + t) < 7 := by omega
    generalize S.1 (13 + t) = y at *
    rcases hh with rfl | rfl | z | z
    · simp (disch := first | assumption | omega | (simp only [zcat_0, zcat_i, zcat_l, zcat_r, zcat_t]; omega) | simp) only [e_X8_thread_21_k1, e_X8_thread_70, e_X8_thread_71, e_X8_thread_74, e_X8_thread_75, e_X8_thread_78, e_X8_thread_79, e_X8_thread_81, e_X8_thread_84, e_X8_thread_85, e_X8_thread_88, e_X8_thread_89, e_X8_thread_90, e_X8_thread_93, e_X8_thread_94, e_X8_thread_97, e_X8_thread_98, zpush_i, zpush_l, zpush_v, Option.bind_some, ↓if_pos, ↓if_neg, Int.reduceAdd, w32_id]
      rfl
    · simp (disch := first | assumption | omega | (simp only [zcat_0, zcat_i, zcat_l, zcat_r, zcat_t]; omega) | simp) only [e_X8_thread_21_k1, e_X8_thread_70, e_X8_thread_71, e_X8_thread_74, e_X8_thread_75, e_X8_thread_78, e_X8_thread_79, e_X8_thread_81, e_X8_thread_84, e_X8_thread_85, e_X8_thread_88, e_X8_thread_89, e_X8_thread_90, e_X8_thread_93, e_X8_thread_94, e_X8_thread_97, e_X8_thread_98, zpush_i, zpush_l, zpush_v, Option.bind_some, ↓if_pos, ↓if_neg, Int.reduceAdd, w32_id]
      rfl
    · have e : howC y = 1 := by unfold howC; simp (disch := omega) only [if_pos, if_neg]
      rw [e]
      simp (disch := first | assumption | omega | (simp only [zcat_0, zcat_i, zcat_l, zcat_r, zcat_t]; omega) | simp) only [e_X8_thread_21_k1, e_X8_thread_70, e_X8_thread_71, e_X8_thread_74, e_X8_thread_75, e_X8_thread_78, e_X8_thread_79, e_X8_thread_81, e_X8_thread_84, e_X8_thread_85, e_X8_thread_88, e_X8_thread_89, e_X8_thread_90, e_X8_thread_93, e_X8_thread_94, e_X8_thread_97, e_X8_thread_98, zpush_i, zpush_l, zpush_v, Option.bind_some, ↓if_pos, ↓if_neg, Int.reduceAdd, w32_id]
    · have e : howC y = 2 := by unfold howC; simp (disch := omega) only [if_pos, if_neg]
      rw [e]
      simp (disch := first | assumption | omega | (simp only [zcat_0, zcat_i, zcat_l, zcat_r, zcat_t]; omega) | simp) only [e_X8_thread_21_k1, e_X8_thread_70, e_X8_thread_71, e_X8_thread_74, e_X8_thread_75, e_X8_thread_78, e_X8_thread_79, e_X8_thread_81, e_X8_thread_84, e_X8_thread_85, e_X8_thread_88, e_X8_thread_89, e_X8_thread_90, e_X8_thread_93, e_X8_thread_94, e_X8_thread_97, e_X8_thread_98, zpush_i, zpush_l, zpush_v, Option.bind_some, ↓if_pos, ↓if_neg, Int.reduceAdd, w32_id]
  rw [if_neg x1]
  by_cases x2 : x = 2
  · subst x2
    rw [if_pos rfl]
    refine ⟨w, hd.trans ?_, fun _ _ => rfl⟩
    have hh : S.1 (13 + t) = 0 ∨ S.1 (13 + t) = 7 ∨ 1 ≤ S.1 (13 + t) ∧ S.1 (13 + t) < 4 ∨ 4 ≤ S.1 (13 + t) ∧ S.1 (13 + t) < 7 := by omega
    generalize S.1 (13 + t) = y at *
    rcases hh with rfl | rfl | z | z
    · rw [if_pos (Or.inl rfl)]
      simp (disch := first | assumption | omega | (simp only [zcat_0, zcat_i, zcat_l, zcat_r, zcat_t]; omega) | simp) only [e_X8_thread_21_k2, e_X8_thread_99, e_X8_thread_100, e_X8_thread_103, e_X8_thread_104, e_X8_thread_106, e_X8_thread_109, e_X8_thread_111, e_X8_thread_114, e_X8_thread_115, e_X8_thread_116, e_X8_thread_119, e_X8_thread_120, e_X8_thread_121, e_X8_thread_122, e_X8_thread_125, e_X8_thread_126, e_X8_thread_127, e_X8_thread_128, zpush_i, zpush_l, zpush_v, Option.bind_some, ↓if_pos, ↓if_neg, Int.reduceAdd, w32_id]
    · rw [if_pos (Or.inr rfl)]
      simp (disch := first | assumption | omega | (simp only [zcat_0, zcat_i, zcat_l, zcat_r, zcat_t]; omega) | simp) only [e_X8_thread_21_k2, e_X8_thread_99, e_X8_thread_100, e_X8_thread_103, e_X8_thread_104, e_X8_thread_106, e_X8_thread_109, e_X8_thread_111, e_X8_thread_114, e_X8_thread_115, e_X8_thread_116, e_X8_thread_119, e_X8_thread_120, e_X8_thread_121, e_X8_thread_122, e_X8_thread_125, e_X8_thread_126, e_X8_thread_127, e_X8_thread_128, zpush_i, zpush_l, zpush_v, Option.bind_some, ↓if_pos, ↓if_neg, Int.reduceAdd, w32_id]
    · have e : whC y = y - 1 := by unfold whC; simp (disch := omega) only [if_pos, if_neg]
      rw [if_neg (by omega), e]
      simp (disch := first | assumption | omega | (simp only [zcat_0, zcat_i, zcat_l, zcat_r, zcat_t]; omega) | simp) only [e_X8_thread_21_k2, e_X8_thread_99, e_X8_thread_100, e_X8_thread_103, e_X8_thread_104, e_X8_thread_106, e_X8_thread_109, e_X8_thread_111, e_X8_thread_114, e_X8_thread_115, e_X8_thread_116, e_X8_thread_119, e_X8_thread_120, e_X8_thread_121, e_X8_thread_122, e_X8_thread_125, e_X8_thread_126, e_X8_thread_127, e_X8_thread_128, zpush_i, zpush_l, zpush_v, Option.bind_some, ↓if_pos, ↓if_neg, Int.reduceAdd, w32_id]
    · have e : whC y = y - 4 := by unfold whC; simp (disch := omega) only [if_pos, if_neg]
      rw [if_neg (by omega), e]
      simp (disch := first | assumption | omega | (simp only [zcat_0, zcat_i, zcat_l, zcat_r, zcat_t]; omega) | simp) only [e_X8_thread_21_k2, e_X8_thread_99, e_X8_thread_100, e_X8_thread_103, e_X8_thread_104, e_X8_thread_106, e_X8_thread_109, e_X8_thread_111, e_X8_thread_114, e_X8_thread_115, e_X8_thread_116, e_X8_thread_119, e_X8_thread_120, e_X8_thread_121, e_X8_thread_122, e_X8_thread_125, e_X8_thread_126, e_X8_thread_127, e_X8_thread_128, zpush_i, zpush_l, zpush_v, Option.bind_some, ↓if_pos, ↓if_neg, Int.reduceAdd, w32_id]
  rw [if_neg x2]
  by_cases x3 : x = 3
  · subst x3
    rw [if_pos rfl]
    refine ⟨w, hd.trans ?_, fun _ _ => rfl⟩
    simp (disch := first | assumption | omega | (simp only [zcat_0, zcat_i, zcat_l, zcat_r, zcat_t]; omega) | simp) only [e_X8_thread_21_k3, e_X8_thread_129, e_X8_thread_130, e_X8_thread_133, e_X8_thread_134, e_X8_thread_135, zpush_i, zpush_l, zpush_v, Option.bind_some, ↓if_pos, ↓if_neg, Int.reduceAdd, w32_id, b3]
  rw [if_neg x3]
  by_cases x4 : x = 4
  · subst x4
    rw [if_pos rfl]
    obtain ⟨w1, q1, q2, q3⟩ := m_lay (d := d + 1) hP hW hR hO
    have e := q2 t cc.1 cc.2
    refine ⟨w1, hd.trans ?_, q3⟩
    simp (disch := first | assumption | omega | (simp only [zcat_0, zcat_i, zcat_l, zcat_r, zcat_t]; omega) | simp) only [e_X8_thread_21_k4, e_X8_thread_136, e_X8_thread_137, e_X8_thread_140, e_X8_thread_141, e_X8_thread_144, e_X8_thread_145, e_X8_thread_146, zpush_i, zpush_l, zpush_v, Option.bind_some, ↓if_pos, ↓if_neg, Int.reduceAdd, w32_id, q1, e]
  rw [if_neg x4]
  by_cases x5 : x = 5
  · subst x5
    rw [if_pos rfl]
    refine ⟨w, hd.trans ?_, fun _ _ => rfl⟩
    simp (disch := first | assumption | omega | (simp only [zcat_0, zcat_i, zcat_l, zcat_r, zcat_t]; omega) | simp) only [e_X8_thread_21_k5, e_X8_thread_147, e_X8_thread_148, e_X8_thread_151, e_X8_thread_153, e_X8_thread_154, e_X8_thread_155, e_X8_thread_156, zpush_i, zpush_l, zpush_v, Option.bind_some, ↓if_pos, ↓if_neg, Int.reduceAdd, w32_id, b4]
  rw [if_neg x5]
  refine ⟨w, hd.trans ?_, fun _ _ => rfl⟩
  rw [e_X8_thread_21_o (by omega)]
  simp (disch := first | assumption | omega | (simp only [zcat_0, zcat_i, zcat_l, zcat_r, zcat_t]; omega) | simp) only [e_X8_thread_157, e_X8_thread_158, zpush_i, zpush_l, zpush_v, Option.bind_some, ↓if_pos, ↓if_neg, Int.reduceAdd, w32_id]
end Q5
