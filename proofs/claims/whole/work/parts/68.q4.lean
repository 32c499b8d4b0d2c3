section Q4
variable {d : Nat} {w : zW} {j x p t : Int} {S : Sc} {P : Pg} {Q : Sg}
theorem cH_n (hP : WP P) (hW : WS0 P S) {v : Int} (hv : v ≠ 7) : ∀ t : Nat, t ≤ 4 → P 0 6 ≤ t → cH S v t = cH S v (P 0 6).toNat
  | 0, _, h => by rw [show (P 0 6).toNat = 0 by omega]
  | t + 1, h4, h => by
    by_cases e : P 0 6 = t + 1
    · rw [e]; rfl
    · rw [← cH_n hP hW hv t (by omega) (by omega), cH]
      have := how7 (t := (t : Int)) hW hP (by omega) (by omega) (by omega)
      rw [if_neg (by omega), Int.add_zero]
theorem m_pl_l {v : Int} (hP : WP P) (hR : RS w (P 0 6) S) (hO : PO w P) (hp : 0 ≤ p ∧ p < 3) (hv : x = 3 ∧ v = 1 + p ∨ x = 4 ∧ v = 4 + p) : ∀ (u t : Nat), (t : Int) + u = P 0 6 → Rn d 123 90 [(2, 67), (0, p), (0, x), (0, cH S v t), (0, (t : Int))] [] 92 w = some ((0, cH S v (P 0 6).toNat), 92, w) := by
  have zo67 := zo_67; have zo72 := zo_72; have zl72 := zl_72
  have hP4 := hP.2.1
  have e1 := hO.1
  intro u
  induction u with
  | zero =>
    intro t ht
    rw [show t = (P 0 6).toNat by omega, show (((P 0 6).toNat : Nat) : Int) = P 0 6 by omega]
    simp (disch := first | assumption | omega | (simp only [zcat_0, zcat_i, zcat_l, zcat_r, zcat_t]; omega) | simp) only [e_X8_place_90, e_X8_place_92, e_X8_place_93, e_X8_place_96, e_X8_place_138, e_X8_place_139, zpush_i, zpush_l, zpush_v, Option.bind_some, ↓if_pos, ↓if_neg, Int.reduceAdd, w32_id, e1]
  | succ u ih =>
    intro t ht
    have hh := (hR.2.1 t (by omega) (by omega)).1
    rw [if_pos (by omega)] at hh
    have hb := cH_in S v t
    rw [← ih (t + 1) (by omega), show ((t + 1 : Nat) : Int) = (t : Int) + 1 by omega, e_X8_place_90, cH]
    rcases hv with ⟨rfl, rfl⟩ | ⟨rfl, rfl⟩
    · by_cases c : S.1 (13 + (t : Int)) = 1 + p
      · rw [if_pos c]
        simp (disch := first | assumption | omega | (simp only [zcat_0, zcat_i, zcat_l, zcat_r, zcat_t]; omega) | simp) only [e_X8_place_92, e_X8_place_93, e_X8_place_96, e_X8_place_99, e_X8_place_100, e_X8_place_101, e_X8_place_104, e_X8_place_106, e_X8_place_108, e_X8_place_109, e_X8_place_110, e_X8_place_111, e_X8_place_112, e_X8_place_115, e_X8_place_116, e_X8_place_119, e_X8_place_120, e_X8_place_121, e_X8_place_122, e_X8_place_125, e_X8_place_126, e_X8_place_129, e_X8_place_130, e_X8_place_131, e_X8_place_132, e_X8_place_135, zpush_i, zpush_l, zpush_v, Option.bind_some, ↓if_pos, ↓if_neg, Int.reduceAdd, w32_id, e1, hh]
      · rw [if_neg c]
        simp (disch := first | assumption | omega | (simp only [zcat_0, zcat_i, zcat_l, zcat_r, zcat_t]; omega) | simp) only [e_X8_place_92, e_X8_place_93, e_X8_place_96, e_X8_place_99, e_X8_place_100, e_X8_place_101, e_X8_place_104, e_X8_place_106, e_X8_place_108, e_X8_place_109, e_X8_place_110, e_X8_place_111, e_X8_place_112, e_X8_place_115, e_X8_place_116, e_X8_place_119, e_X8_place_120, e_X8_place_121, e_X8_place_122, e_X8_place_125, e_X8_place_126, e_X8_place_129, e_X8_place_130, e_X8_place_131, e_X8_place_132, e_X8_place_135, zpush_i, zpush_l, zpush_v, Option.bind_some, ↓if_pos, ↓if_neg, Int.reduceAdd, w32_id, e1, hh]
    · by_cases c : S.1 (13 + (t : Int)) = 4 + p
      · rw [if_pos c]
        simp (disch := first | assumption | omega | (simp only [zcat_0, zcat_i, zcat_l, zcat_r, zcat_t]; omega) | simp) only [e_X8_place_92, e_X8_place_93, e_X8_place_96, e_X8_place_99, e_X8_place_100, e_X8_place_101, e_X8_place_104, e_X8_place_106, e_X8_place_108, e_X8_place_109, e_X8_place_110, e_X8_place_111, e_X8_place_112, e_X8_place_115, e_X8_place_116, e_X8_place_119, e_X8_place_120, e_X8_place_121, e_X8_place_122, e_X8_place_125, e_X8_place_126, e_X8_place_129, e_X8_place_130, e_X8_place_131, e_X8_place_132, e_X8_place_135, zpush_i, zpush_l, zpush_v, Option.bind_some, ↓if_pos, ↓if_neg, Int.reduceAdd, w32_id, e1, hh]
      · rw [if_neg c]
        simp (disch := first | assumption | omega | (simp only [zcat_0, zcat_i, zcat_l, zcat_r, zcat_t]; omega) | simp) only [e_X8_place_92, e_X8_place_93, e_X8_place_96, e_X8_place_99, e_X8_place_100, e_X8_place_101, e_X8_place_104, e_X8_place_106, e_X8_place_108, e_X8_place_109, e_X8_place_110, e_X8_place_111, e_X8_place_112, e_X8_place_115, e_X8_place_116, e_X8_place_119, e_X8_place_120, e_X8_place_121, e_X8_place_122, e_X8_place_125, e_X8_place_126, e_X8_place_129, e_X8_place_130, e_X8_place_131, e_X8_place_132, e_X8_place_135, zpush_i, zpush_l, zpush_v, Option.bind_some, ↓if_pos, ↓if_neg, Int.reduceAdd, w32_id, e1, hh]
theorem m_place (hR : RS w (P 0 6) S) (hO : PO w P) (hW : WS0 P S) (hP : WP P) : Cl (d + 3) 123 [(2, 67), (0, p), (0, x)] 92 w = some ((0, qPl S p x), 92, w) := by
  have zo67 := zo_67; have zo72 := zo_72; have zl72 := zl_72
  have hin : Cl (d + 2) 95 [(1, x), (1, 0), (1, 4)] 92 w = some ((0, if 0 ≤ x ∧ x ≤ 4 then 1 else 0), 92, w) := m_in
  have hip := m_isPl (d := d + 1) (w := w) (p := p)
  have hP1 := hP.1
  have hP4 := hP.2.1
  unfold qPl
  show Rn (d + 3) 123 0 [(2, 67), (0, p), (0, x), (9, 0), (9, 0)] [] 92 w = _
  by_cases c : ¬ (0 ≤ p ∧ p < 3)
  · rw [if_pos c]
    rw [if_neg c] at hip
    simp (disch := first | assumption | omega | (simp only [zcat_0, zcat_i, zcat_l, zcat_r, zcat_t]; omega) | simp) only [e_X8_place_0, e_X8_place_1, e_X8_place_4, e_X8_place_7, e_X8_place_8, e_X8_place_9, e_X8_place_10, e_X8_place_13, e_X8_place_16, e_X8_place_19, e_X8_place_20, zpush_i, zpush_l, zpush_v, Option.bind_some, ↓if_pos, ↓if_neg, Int.reduceAdd, w32_id, hip]
  rw [if_neg c]
  have pp : 0 ≤ p ∧ p < 3 := by omega
  rw [if_pos pp] at hip
  have e1 := hR.1 p (by omega) (by omega)
  have e2 := hR.1 (3 + p) (by omega) (by omega)
  have e3 := hR.1 (6 + p) (by omega) (by omega)
  have kz : 0 + p = p := by omega
  obtain ⟨p1, p2, p3, p4, p5⟩ := hW.1 p pp.1 pp.2
  by_cases cx : 0 ≤ x ∧ x ≤ 4
  · rw [if_pos cx] at hin
    by_cases x0 : x = 0
    · rw [if_pos x0]
      simp (disch := first | assumption | omega | (simp only [zcat_0, zcat_i, zcat_l, zcat_r, zcat_t]; omega) | simp) only [e_X8_place_0, e_X8_place_1, e_X8_place_4, e_X8_place_7, e_X8_place_8, e_X8_place_9, e_X8_place_10, e_X8_place_13, e_X8_place_16, e_X8_place_19, e_X8_place_20, e_X8_place_21, e_X8_place_22, e_X8_place_23, e_X8_place_26, e_X8_place_27, e_X8_place_30, e_X8_place_31, e_X8_place_34, e_X8_place_35, e_X8_place_36, e_X8_place_37, e_X8_place_38, e_X8_place_41, e_X8_place_42, e_X8_place_43, e_X8_place_46, e_X8_place_47, e_X8_place_50, e_X8_place_52, e_X8_place_53, e_X8_place_54, e_X8_place_55, e_X8_place_58, e_X8_place_59, e_X8_place_62, e_X8_place_63, e_X8_place_64, e_X8_place_65, e_X8_place_66, e_X8_place_69, e_X8_place_71, e_X8_place_74, e_X8_place_75, e_X8_place_78, e_X8_place_79, e_X8_place_80, e_X8_place_81, e_X8_place_82, e_X8_place_83, e_X8_place_84, zpush_i, zpush_l, zpush_v, Option.bind_some, ↓if_pos, ↓if_neg, Int.reduceAdd, w32_id, hip, hin, kz, e1]
    rw [if_neg x0]
    by_cases x1 : x = 1
    · rw [if_pos x1]
      by_cases z : S.1 (3 + p) = 0
      · rw [if_pos z]
        rw [z] at e2
        simp (disch := first | assumption | omega | (simp only [zcat_0, zcat_i, zcat_l, zcat_r, zcat_t]; omega) | simp) only [e_X8_place_0, e_X8_place_1, e_X8_place_4, e_X8_place_7, e_X8_place_8, e_X8_place_9, e_X8_place_10, e_X8_place_13, e_X8_place_16, e_X8_place_19, e_X8_place_20, e_X8_place_21, e_X8_place_22, e_X8_place_23, e_X8_place_26, e_X8_place_27, e_X8_place_30, e_X8_place_31, e_X8_place_34, e_X8_place_35, e_X8_place_36, e_X8_place_37, e_X8_place_38, e_X8_place_41, e_X8_place_42, e_X8_place_43, e_X8_place_46, e_X8_place_47, e_X8_place_50, e_X8_place_52, e_X8_place_53, e_X8_place_54, e_X8_place_55, e_X8_place_58, e_X8_place_59, e_X8_place_62, e_X8_place_63, e_X8_place_64, e_X8_place_65, e_X8_place_66, e_X8_place_69, e_X8_place_71, e_X8_place_74, e_X8_place_75, e_X8_place_78, e_X8_place_79, e_X8_place_80, e_X8_place_81, e_X8_place_82, e_X8_place_83, e_X8_place_84, zpush_i, zpush_l, zpush_v, Option.bind_some, ↓if_pos, ↓if_neg, Int.reduceAdd, w32_id, hip, hin, e2]
      · rw [if_neg z]
        simp (disch := first | assumption | omega | (simp only [zcat_0, zcat_i, zcat_l, zcat_r, zcat_t]; omega) | simp) only [e_X8_place_0, e_X8_place_1, e_X8_place_4, e_X8_place_7, e_X8_place_8, e_X8_place_9, e_X8_place_10, e_X8_place_13, e_X8_place_16, e_X8_place_19, e_X8_place_20, e_X8_place_21, e_X8_place_22, e_X8_place_23, e_X8_place_26, e_X8_place_27, e_X8_place_30, e_X8_place_31, e_X8_place_34, e_X8_place_35, e_X8_place_36, e_X8_place_37, e_X8_place_38, e_X8_place_41, e_X8_place_42, e_X8_place_43, e_X8_place_46, e_X8_place_47, e_X8_place_50, e_X8_place_52, e_X8_place_53, e_X8_place_54, e_X8_place_55, e_X8_place_58, e_X8_place_59, e_X8_place_62, e_X8_place_63, e_X8_place_64, e_X8_place_65, e_X8_place_66, e_X8_place_69, e_X8_place_71, e_X8_place_74, e_X8_place_75, e_X8_place_78, e_X8_place_79, e_X8_place_80, e_X8_place_81, e_X8_place_82, e_X8_place_83, e_X8_place_84, zpush_i, zpush_l, zpush_v, Option.bind_some, ↓if_pos, ↓if_neg, Int.reduceAdd, w32_id, hip, hin, e2]
    rw [if_neg x1]
    by_cases x2 : x = 2
    · rw [if_pos x2]
      simp (disch := first | assumption | omega | (simp only [zcat_0, zcat_i, zcat_l, zcat_r, zcat_t]; omega) | simp) only [e_X8_place_0, e_X8_place_1, e_X8_place_4, e_X8_place_7, e_X8_place_8, e_X8_place_9, e_X8_place_10, e_X8_place_13, e_X8_place_16, e_X8_place_19, e_X8_place_20, e_X8_place_21, e_X8_place_22, e_X8_place_23, e_X8_place_26, e_X8_place_27, e_X8_place_30, e_X8_place_31, e_X8_place_34, e_X8_place_35, e_X8_place_36, e_X8_place_37, e_X8_place_38, e_X8_place_41, e_X8_place_42, e_X8_place_43, e_X8_place_46, e_X8_place_47, e_X8_place_50, e_X8_place_52, e_X8_place_53, e_X8_place_54, e_X8_place_55, e_X8_place_58, e_X8_place_59, e_X8_place_62, e_X8_place_63, e_X8_place_64, e_X8_place_65, e_X8_place_66, e_X8_place_69, e_X8_place_71, e_X8_place_74, e_X8_place_75, e_X8_place_78, e_X8_place_79, e_X8_place_80, e_X8_place_81, e_X8_place_82, e_X8_place_83, e_X8_place_84, zpush_i, zpush_l, zpush_v, Option.bind_some, ↓if_pos, ↓if_neg, Int.reduceAdd, w32_id, hip, hin, e3]
    rw [if_neg x2]
    have hd : Rn (d + 3) 123 0 [(2, 67), (0, p), (0, x), (9, 0), (9, 0)] [] 92 w = Rn (d + 3) 123 90 [(2, 67), (0, p), (0, x), (0, 0), (0, 0)] [] 92 w := by
      simp (disch := first | assumption | omega | (simp only [zcat_0, zcat_i, zcat_l, zcat_r, zcat_t]; omega) | simp) only [e_X8_place_0, e_X8_place_1, e_X8_place_4, e_X8_place_7, e_X8_place_8, e_X8_place_9, e_X8_place_10, e_X8_place_13, e_X8_place_16, e_X8_place_19, e_X8_place_20, e_X8_place_21, e_X8_place_22, e_X8_place_23, e_X8_place_85, e_X8_place_86, e_X8_place_87, e_X8_place_88, zpush_i, zpush_l, zpush_v, Option.bind_some, ↓if_pos, ↓if_neg, Int.reduceAdd, w32_id, hip, hin]
    rw [hd]
    by_cases x3 : x = 3
    · rw [if_pos x3, cH_n hP hW (by omega) 4 (by omega) (by omega)]
      exact m_pl_l (v := 1 + p) hP hR hO pp (Or.inl ⟨x3, rfl⟩) (P 0 6).toNat 0 (by omega)
    rw [if_neg x3, if_pos (by omega), cH_n hP hW (by omega) 4 (by omega) (by omega)]
    exact m_pl_l (v := 4 + p) hP hR hO pp (Or.inr ⟨by omega, rfl⟩) (P 0 6).toNat 0 (by omega)
  · rw [if_neg cx] at hin
    rw [if_neg (by omega), if_neg (by omega), if_neg (by omega), if_neg (by omega), if_neg (by omega)]
    simp (disch := first | assumption | omega | (simp only [zcat_0, zcat_i, zcat_l, zcat_r, zcat_t]; omega) | simp) only [e_X8_place_0, e_X8_place_1, e_X8_place_4, e_X8_place_7, e_X8_place_8, e_X8_place_9, e_X8_place_10, e_X8_place_13, e_X8_place_16, e_X8_place_19, e_X8_place_20, zpush_i, zpush_l, zpush_v, Option.bind_some, ↓if_pos, ↓if_neg, Int.reduceAdd, w32_id, hip, hin]
theorem r_isTold (h2 : w 0 2 = j) (hj : isT j) (hT : TO w j P) (hP : WP P) : Cl (d + 1) 91 [(2, 0), (0, t)] 92 w = some ((0, if 0 ≤ t ∧ t < P 0 6 then 1 else 0), 92, w) := by
  have zo0 := zo_0
  obtain ⟨t0, tn, t1, u1, t2, u2, t3, u3, t4, u4, t5, u5, t6, u6⟩ := sTall hj
  have hP4 := hP.2.1
  have e6 : w j 6 = P 0 6 := by
    have := hT 0 (by omega) (by omega) 6
    rw [Int.add_zero] at this
    exact this
  show Rn (d + 1) 91 0 [(2, 0), (0, t)] [] 92 w = _
  by_cases c : 0 ≤ t ∧ t < 4
  · have hi := c_isThread1 (d := d) (w := w) c.1 c.2
    by_cases c2 : t < P 0 6
    · rw [if_pos ⟨c.1, c2⟩]
      simp (disch := first | assumption | omega | (simp only [zcat_0, zcat_i, zcat_l, zcat_r, zcat_t]; omega) | simp) only [e_X7_isTold_0, e_X7_isTold_1, e_X7_isTold_4, e_X7_isTold_7, e_X7_isTold_8, e_X7_isTold_9, e_X7_isTold_12, e_X7_isTold_15, e_X7_isTold_18, e_X7_isTold_19, e_X7_isTold_22, e_X7_isTold_23, zpush_i, zpush_l, zpush_v, Option.bind_some, ↓if_pos, ↓if_neg, Int.reduceAdd, w32_id, hi, h2, e6]
    · rw [if_neg (fun z => c2 z.2)]
      simp (disch := first | assumption | omega | (simp only [zcat_0, zcat_i, zcat_l, zcat_r, zcat_t]; omega) | simp) only [e_X7_isTold_0, e_X7_isTold_1, e_X7_isTold_4, e_X7_isTold_7, e_X7_isTold_8, e_X7_isTold_9, e_X7_isTold_12, e_X7_isTold_15, e_X7_isTold_18, e_X7_isTold_19, e_X7_isTold_22, e_X7_isTold_23, zpush_i, zpush_l, zpush_v, Option.bind_some, ↓if_pos, ↓if_neg, Int.reduceAdd, w32_id, hi, h2, e6]
  · have hi := c_isThread0 (d := d) (w := w) c
    rw [if_neg (by omega)]
    simp (disch := first | assumption | omega | (simp only [zcat_0, zcat_i, zcat_l, zcat_r, zcat_t]; omega) | simp) only [e_X7_isTold_0, e_X7_isTold_1, e_X7_isTold_4, e_X7_isTold_7, e_X7_isTold_8, e_X7_isTold_9, e_X7_isTold_12, e_X7_isTold_15, e_X7_isTold_18, e_X7_isTold_19, e_X7_isTold_22, e_X7_isTold_23, zpush_i, zpush_l, zpush_v, Option.bind_some, ↓if_pos, ↓if_neg, Int.reduceAdd, w32_id, hi]
theorem m_isThr (hO : PO w P) (hP : WP P) : Cl (d + 1) 97 [(2, 67), (0, t)] 92 w = some ((0, if 0 ≤ t ∧ t < P 0 6 then 1 else 0), 92, w) := by
  have zo67 := zo_67
  have hP1 := hP.1
  have hP4 := hP.2.1
  have e1 := hO.1
  have h : Cl d 95 [(1, t), (1, 0), (1, P 0 6 - 1)] 92 w = some ((0, if 0 ≤ t ∧ t < P 0 6 then 1 else 0), 92, w) := by
    rw [m_in]
    by_cases c : 0 ≤ t ∧ t < P 0 6
    · rw [if_pos c, if_pos (by omega)]
    · rw [if_neg c, if_neg (by omega)]
  have hb : (if 0 ≤ t ∧ t < P 0 6 then (1 : Int) else 0) = 0 ∨ (if 0 ≤ t ∧ t < P 0 6 then (1 : Int) else 0) = 1 := by split <;> simp
  generalize (if 0 ≤ t ∧ t < P 0 6 then (1 : Int) else 0) = b at *
  show Rn (d + 1) 97 0 [(2, 67), (0, t)] [] 92 w = _
  simp (disch := first | assumption | omega | (simp only [zcat_0, zcat_i, zcat_l, zcat_r, zcat_t]; omega) | simp) only [e_X8_isThread_0, e_X8_isThread_1, e_X8_isThread_2, e_X8_isThread_3, e_X8_isThread_4, e_X8_isThread_7, e_X8_isThread_8, e_X8_isThread_9, e_X8_isThread_10, e_X8_isThread_13, zpush_i, zpush_l, zpush_v, Option.bind_some, ↓if_pos, ↓if_neg, Int.reduceAdd, w32_id, e1, h]
end Q4
