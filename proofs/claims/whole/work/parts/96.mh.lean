section T13
variable {d : Nat} {w : zW} {L : Tk} {n : Nat} {D : Pg} {T : List Int}
theorem m_th_l (hl : T.length ≤ 120) (hn : n ≤ 120) (hx : ∀ x, x ∈ T → 0 ≤ x ∧ x ≤ 255) {v : zV} : ∀ (u : Nat) (k : Int) (w : zW) (D : Pg) (L : Tk), L.length ≤ u → 0 ≤ k → k + L.length ≤ 121 → MX0 w T → MH w T L → gT n L → PN w D → WD D → ((aRead u k D L).1 < 0 → ∃ w', Rn (d + 6) 122 36 [(2, 67), (0, k), v] [] 92 w = some ((0, (aRead u k D L).1), 92, w') ∧ FM w w') ∧ (0 ≤ (aRead u k D L).1 → ∃ w', Rn (d + 6) 122 36 [(2, 67), (0, k), v] [] 92 w = Rn (d + 6) 122 68 [(2, 67), (0, (aRead u k D L).1), v] [] 92 w' ∧ FM w w' ∧ PN w' (aRead u k D L).2.2) := by
  have zo67 := zo_67
  intro u
  induction u with
  | zero =>
    intro k w D L hl k0 hk' hX hH hg hN hD
    have := hg.ne
    omega
  | succ u ih =>
    intro k w D L hlu k0 hk' hX hH hg hN hD
    obtain ⟨p0, r1, r2, r3, r4, r5⟩ := id hH
    have hz := r5.1
    have hne := hg.ne
    rw [aRead]
    by_cases c : hk L = -1
    · rw [if_pos c]
      have c' := hz.mpr c
      refine ⟨fun z => absurd (show k < 0 from z) (by omega), fun _ => ⟨w, ?_, .rf, hN⟩⟩
      rw [e_X8_threads_36 (by omega)]
      simp (disch := first | assumption | omega | (simp only [zcat_0, zcat_i, zcat_l, zcat_r, zcat_t]; omega) | simp) only [e_X8_threads_37, e_X8_threads_40, zpush_i, zpush_l, zpush_v, Option.bind_some, ↓if_pos, ↓if_neg, Int.reduceAdd, w32_id]
    rw [if_neg c]
    have c' : ¬ w 67 12 < 0 := fun z => c (hz.mp z)
    obtain ⟨w1, q1, q2⟩ := m_takesItem (d := d) hl hx hX hH c hg hN hD
    have s1 := aItem_g hg hD
    by_cases c0 : (aItem D L).1 = 0
    · rw [if_pos c0]
      have hr := s1.1.hk
      have e14 := q2.2.1 c0
      refine ⟨fun _ => ⟨w1, ?_, q2.2.2⟩, fun z => absurd (show (0 : Int) ≤ -10 - hs (aItem D L).2.1 from z) (by omega)⟩
      rw [c0] at q1
      obtain ⟨y, ey⟩ : ∃ y, hs (aItem D L).2.1 = y := ⟨_, rfl⟩
      rw [ey] at e14 hr ⊢
      rw [e_X8_threads_36 (by omega)]
      simp (disch := first | assumption | omega | (simp only [zcat_0, zcat_i, zcat_l, zcat_r, zcat_t]; omega) | simp) only [e_X8_threads_37, e_X8_threads_40, e_X8_threads_43, e_X8_threads_44, e_X8_threads_47, e_X8_threads_50, e_X8_threads_52, e_X8_threads_53, e_X8_threads_56, e_X8_threads_57, zpush_i, zpush_l, zpush_v, Option.bind_some, ↓if_pos, ↓if_neg, Int.reduceAdd, w32_id, q1, e14]
    rw [if_neg c0]
    have e1 : (aItem D L).1 = 1 ∧ (aItem D L).2.1.length < L.length := by
      rcases s1.2.2.2 with z | z
      · exact absurd z c0
      · exact z
    have hl2 := e1.2
    obtain ⟨b1, b2⟩ := q2.1 e1.1
    obtain ⟨w2, y1, y2, y3⟩ := m_next (d := d + 4) hl hx (hX.fm q2.2.2) b1
    have F := q2.2.2.tr y3.fl.fm
    obtain ⟨v1, v2⟩ := ih (k + 1) w2 _ _ (by omega) (by omega) (by omega) ((hX.fm q2.2.2).fn y3) y2 s1.1 (b2.fl y3.fl) s1.2.2.1
    rw [e1.1] at q1
    have hd : Rn (d + 6) 122 36 [(2, 67), (0, k), v] [] 92 w = Rn (d + 6) 122 36 [(2, 67), (0, k + 1), v] [] 92 w2 := by
      rw [e_X8_threads_36 (by omega)]
      simp (disch := first | assumption | omega | (simp only [zcat_0, zcat_i, zcat_l, zcat_r, zcat_t]; omega) | simp) only [e_X8_threads_37, e_X8_threads_40, e_X8_threads_43, e_X8_threads_44, e_X8_threads_47, e_X8_threads_50, e_X8_threads_52, e_X8_threads_53, e_X8_threads_56, e_X8_threads_57, e_X8_threads_58, e_X8_threads_61, e_X8_threads_62, e_X8_threads_65, zpush_i, zpush_l, zpush_v, Option.bind_some, ↓if_pos, ↓if_neg, Int.reduceAdd, w32_id, q1, y1]
    rw [hd]
    refine ⟨fun z => ?_, fun z => ?_⟩
    · obtain ⟨w3, g1, g2⟩ := v1 z
      exact ⟨w3, g1, F.tr g2⟩
    · obtain ⟨w3, g1, g2, g3⟩ := v2 z
      exact ⟨w3, g1, F.tr g2, g3⟩
theorem aRead_wd : ∀ (u : Nat) (k : Int) (D : Pg) (L : Tk), gT n L → WD D → WD (aRead u k D L).2.2
  | 0, _, _, _, _, hD => hD
  | u + 1, k, D, L, hg, hD => by
    rw [aRead]
    have h := aItem_g hg hD
    split
    · exact hD
    split
    · exact h.2.2.1
    · exact aRead_wd u _ _ _ h.1 h.2.2.1
theorem aText_wd (T : List Int) (D : Pg) : WD (aText T D).2.2 := aRead_wd 121 0 (emp D) _ (tk_g 0) (WD_emp D)
theorem m_cp {v : Int} : ∀ (u i : Nat) (w : zW), i + u = 60 → ∃ w', Rn d 122 145 [(2, 67), (0, v), (0, (i : Int))] [] 92 w = Rn d 122 169 [(2, 67), (0, v), (0, 60)] [] 92 w' ∧ (∀ x, (i : Int) ≤ x → x < 60 → w' 71 x = w 78 x) ∧ (∀ a x : Int, (a ≠ 71 ∨ x < i) → w' a x = w a x) := by
  have zo67 := zo_67; have zo71 := zo_71; have zl71 := zl_71; have zo78 := zo_78; have zl78 := zl_78
  intro u
  induction u with
  | zero =>
    intro i w hi
    refine ⟨w, ?_, fun x h0 h1 => by omega, fun _ _ _ => rfl⟩
    rw [show (i : Int) = 60 by omega, e_X8_threads_145]
    simp (disch := first | assumption | omega | (simp only [zcat_0, zcat_i, zcat_l, zcat_r, zcat_t]; omega) | simp) only [e_X8_threads_146, e_X8_threads_148, zpush_i, zpush_l, zpush_v, Option.bind_some, ↓if_pos, ↓if_neg, Int.reduceAdd, w32_id]
  | succ u ih =>
    intro i w hi
    obtain ⟨w1, q1, q2, q3⟩ := ih (i + 1) (zup w 71 i (w 78 i)) (by omega)
    rw [show ((i + 1 : Nat) : Int) = (i : Int) + 1 by omega] at q1 q2 q3
    refine ⟨w1, ?_, fun x h0 h1 => ?_, fun a x h => ?_⟩
    · rw [e_X8_threads_145]
      simp (disch := first | assumption | omega | (simp only [zcat_0, zcat_i, zcat_l, zcat_r, zcat_t]; omega) | simp) only [e_X8_threads_146, e_X8_threads_148, e_X8_threads_151, e_X8_threads_152, e_X8_threads_155, e_X8_threads_156, e_X8_threads_157, e_X8_threads_160, e_X8_threads_161, e_X8_threads_162, e_X8_threads_163, e_X8_threads_166, zpush_i, zpush_l, zpush_v, Option.bind_some, ↓if_pos, ↓if_neg, Int.reduceAdd, w32_id]
      exact q1
    · by_cases c : x = i
      · rw [q3 71 x (by omega), c, zup_self]
      · rw [q2 x (by omega) h1, zup_ne (by omega)]
    · rw [q3 a x (by omega), zup_off _ (by omega)]
/-- what the reference is after a text was told -/
def MTo (w : zW) (P : Pg) : Prop := PO w P ∧ RS w (P 0 6) (sBg P) ∧ w 67 6 = 0 ∧ w 67 9 = 0 ∧ w 67 22 = 0 ∧ w 67 39 = 0 ∧ w 91 0 = 0 ∧ w 91 1 = 0
theorem m_tell {v : Int} (hN : PN w D) (hD : WD D) : ∃ w', Rn (d + 6) 122 68 [(2, 67), (0, v), (9, 0)] [] 92 w = some ((0, v), 92, w') ∧ MTo w' D ∧ (∀ a i, (a < 67 ∨ 91 < a) → w' a i = w a i) := by
  have zo67 := zo_67; have zo68 := zo_68; have zl68 := zl_68; have zo69 := zo_69; have zl69 := zl_69; have zo70 := zo_70; have zl70 := zl_70; have zo71 := zo_71; have zl71 := zl_71; have zo75 := zo_75; have zl75 := zl_75; have zo76 := zo_76; have zl76 := zl_76; have zo77 := zo_77; have zl77 := zl_77; have zo78 := zo_78; have zl78 := zl_78; have zo91 := zo_91; have zl91 := zl_91
  have hs0 := hD.1.1
  have hs4 := hD.1.2.1
  obtain ⟨n1, n2, n3⟩ := hN
  obtain ⟨w1, e1⟩ : ∃ w1, zup (zup w 67 9 0) 67 1 (D 0 6) = w1 := ⟨_, rfl⟩
  have F1 : ∀ a, a ≠ 67 → w1 a = w a := fun a ha => by rw [← e1, zup_ne ha, zup_ne ha]
  obtain ⟨w2, e2⟩ : ∃ w2, zup (zup (zup w1 68 0 (w 75 0)) 68 1 (w 75 1)) 68 2 (w 75 2) = w2 := ⟨_, rfl⟩
  have F2 : ∀ a, a ≠ 68 → w2 a = w1 a := fun a ha => by rw [← e2, zup_ne ha, zup_ne ha, zup_ne ha]
  obtain ⟨w3, e3⟩ : ∃ w3, zup (zup (zup (zup (zup (zup (zup (zup w2 69 0 (w 76 0)) 70 0 (w 77 0)) 69 1 (w 76 1)) 70 1 (w 77 1)) 69 2 (w 76 2)) 70 2 (w 77 2)) 69 3 (w 76 3)) 70 3 (w 77 3) = w3 := ⟨_, rfl⟩
  have F3 : ∀ a, a ≠ 69 → a ≠ 70 → w3 a = w2 a := fun a ha hb => by rw [← e3, zup_ne hb, zup_ne ha, zup_ne hb, zup_ne ha, zup_ne hb, zup_ne ha, zup_ne hb, zup_ne ha]
  have f69 : ∀ t, 0 ≤ t → t < 4 → w3 69 t = w 76 t := fun t h0 h4 => by
    rw [← e3]
    rcases (by omega : t = 0 ∨ t = 1 ∨ t = 2 ∨ t = 3) with rfl | rfl | rfl | rfl <;> simp [zup]
  have f70 : ∀ t, 0 ≤ t → t < 4 → w3 70 t = w 77 t := fun t h0 h4 => by
    rw [← e3]
    rcases (by omega : t = 0 ∨ t = 1 ∨ t = 2 ∨ t = 3) with rfl | rfl | rfl | rfl <;> simp [zup]
  have f68 : ∀ p, 0 ≤ p → p < 3 → w2 68 p = w 75 p := fun t h0 h4 => by
    rw [← e2]
    rcases (by omega : t = 0 ∨ t = 1 ∨ t = 2) with rfl | rfl | rfl <;> simp [zup]
  have h1 : Rn (d + 6) 122 68 [(2, 67), (0, v), (9, 0)] [] 92 w = Rn (d + 6) 122 83 [(2, 67), (0, v), (0, 0)] [] 92 w1 := by
    rw [← e1]
    simp (disch := first | assumption | omega | (simp only [zcat_0, zcat_i, zcat_l, zcat_r, zcat_t]; omega) | simp) only [e_X8_threads_68, e_X8_threads_69, e_X8_threads_70, e_X8_threads_73, e_X8_threads_74, e_X8_threads_75, e_X8_threads_78, e_X8_threads_81, e_X8_threads_82, zpush_i, zpush_l, zpush_v, Option.bind_some, ↓if_pos, ↓if_neg, Int.reduceAdd, w32_id, n1, zup_off]
  have g75 : w1 75 = w 75 := F1 75 (by omega)
  have h2 : Rn (d + 6) 122 83 [(2, 67), (0, v), (0, 0)] [] 92 w1 = Rn (d + 6) 122 108 [(2, 67), (0, v), (0, 0)] [] 92 w2 := by
    rw [← e2]
    simp (disch := first | assumption | omega | (simp only [zcat_0, zcat_i, zcat_l, zcat_r, zcat_t]; omega) | simp) only [e_X8_threads_83, e_X8_threads_84, e_X8_threads_85, e_X8_threads_88, e_X8_threads_89, e_X8_threads_92, e_X8_threads_93, e_X8_threads_94, e_X8_threads_97, e_X8_threads_98, e_X8_threads_99, e_X8_threads_100, e_X8_threads_103, e_X8_threads_106, e_X8_threads_107, zpush_i, zpush_l, zpush_v, Option.bind_some, ↓if_pos, ↓if_neg, Int.reduceAdd, w32_id, zup_off, g75]
  have g76 : w2 76 = w 76 := by rw [F2 76 (by omega), F1 76 (by omega)]
  have g77 : w2 77 = w 77 := by rw [F2 77 (by omega), F1 77 (by omega)]
  have h3 : Rn (d + 6) 122 108 [(2, 67), (0, v), (0, 0)] [] 92 w2 = Rn (d + 6) 122 145 [(2, 67), (0, v), (0, 0)] [] 92 w3 := by
    rw [← e3]
    simp (disch := first | assumption | omega | (simp only [zcat_0, zcat_i, zcat_l, zcat_r, zcat_t]; omega) | simp) only [e_X8_threads_108, e_X8_threads_109, e_X8_threads_110, e_X8_threads_113, e_X8_threads_114, e_X8_threads_117, e_X8_threads_118, e_X8_threads_119, e_X8_threads_122, e_X8_threads_123, e_X8_threads_124, e_X8_threads_125, e_X8_threads_126, e_X8_threads_129, e_X8_threads_130, e_X8_threads_131, e_X8_threads_134, e_X8_threads_135, e_X8_threads_136, e_X8_threads_137, e_X8_threads_140, e_X8_threads_143, e_X8_threads_144, zpush_i, zpush_l, zpush_v, Option.bind_some, ↓if_pos, ↓if_neg, Int.reduceAdd, w32_id, zup_off, g76, g77]
  obtain ⟨w4, q1, q2, q3⟩ := m_cp (d := d + 6) (v := v) 60 0 w3 rfl
  have g78 : w3 78 = w 78 := by rw [F3 78 (by omega) (by omega), F2 78 (by omega), F1 78 (by omega)]
  rw [g78] at q2
  have F4 : ∀ a, a ≠ 71 → w4 a = w3 a := fun a ha => by funext x; exact q3 a x (Or.inl ha)
  have o1 : w4 67 1 = D 0 6 := by rw [F4 67 (by omega), F3 67 (by omega) (by omega), F2 67 (by omega), ← e1, zup_self]
  have o9 : w4 67 9 = 0 := by rw [F4 67 (by omega), F3 67 (by omega) (by omega), F2 67 (by omega), ← e1, zup_off _ (by omega), zup_self]
  have o2 : ∀ p, 0 ≤ p → p < 3 → w4 68 p = D 1 p := fun p p0 p3 => by rw [F4 68 (by omega), F3 68 (by omega) (by omega), f68 p p0 p3, n2 p p0 p3]
  have o3 : ∀ t, 0 ≤ t → t < D 0 6 → w4 69 t = D 2 t ∧ w4 70 t = D 3 t := fun t t0 t4 => by
    rw [F4 69 (by omega), F4 70 (by omega), f69 t t0 (by omega), f70 t t0 (by omega)]
    exact ⟨(n3 t t0 t4).1, (n3 t t0 t4).2.1⟩
  have O4 : PO w4 D := ⟨o1, o2, fun t t0 t4 => ⟨(o3 t t0 t4).1, (o3 t t0 t4).2, fun i i0 il => by
    have h5 := (hD.1.2.2.2.1 t t0 (by omega)).2.2.2.1
    rw [q2 _ (by omega) (by omega), q2 _ (by omega) (by omega), q2 _ (by omega) (by omega)]
    exact (n3 t t0 t4).2.2 i i0 il⟩⟩
  obtain ⟨w5, s1, s2, s3, s4⟩ := m_begin (d := d + 5) hD.1 (⟨o1, o2, fun t t0 t4 => (o3 t t0 t4).2⟩ : PB w4 D)
  obtain ⟨w6, e6⟩ : ∃ w6, zup (zup (zup (zup w5 67 22 0) 67 39 0) 91 0 0) 91 1 0 = w6 := ⟨_, rfl⟩
  have F6 : ∀ a, a ≠ 67 → a ≠ 91 → w6 a = w5 a := fun a ha hb => by rw [← e6, zup_ne hb, zup_ne hb, zup_ne ha, zup_ne ha]
  have F6' : ∀ i, i ≠ 22 → i ≠ 39 → w6 67 i = w5 67 i := fun i ha hb => by rw [← e6, zup_ne (by omega), zup_ne (by omega), zup_off _ (Or.inr hb), zup_off _ (Or.inr ha)]
  have F5 : ∀ a, a ≠ 72 → a ≠ 67 → w5 a = w4 a := fun a ha hb => by funext x; exact s4 a x ha (Or.inl hb)
  refine ⟨w6, ?_, ⟨?_, s2.at (F6 72 (by omega) (by omega)), by rw [F6' 6 (by omega) (by omega), s3], by rw [F6' 9 (by omega) (by omega), s4 67 9 (by omega) (by omega), o9], ?_, ?_, ?_, ?_⟩, fun a i ha => ?_⟩
  · refine (h1.trans (h2.trans (h3.trans q1))).trans ?_
    rw [← e6]
    simp (disch := first | assumption | omega | (simp only [zcat_0, zcat_i, zcat_l, zcat_r, zcat_t]; omega) | simp) only [e_X8_threads_169, e_X8_threads_170, e_X8_threads_173, e_X8_threads_174, e_X8_threads_175, e_X8_threads_178, e_X8_threads_179, e_X8_threads_180, e_X8_threads_183, e_X8_threads_184, e_X8_threads_187, e_X8_threads_188, e_X8_threads_189, e_X8_threads_190, e_X8_threads_191, e_X8_threads_194, e_X8_threads_195, e_X8_threads_196, e_X8_threads_197, e_X8_threads_198, zpush_i, zpush_l, zpush_v, Option.bind_some, ↓if_pos, ↓if_neg, Int.reduceAdd, w32_id, s1]
  · unfold PO
    rw [F6' 1 (by omega) (by omega), s4 67 1 (by omega) (by omega), F6 68 (by omega) (by omega), F6 69 (by omega) (by omega), F6 70 (by omega) (by omega), F6 71 (by omega) (by omega), F5 68 (by omega) (by omega), F5 69 (by omega) (by omega), F5 70 (by omega) (by omega), F5 71 (by omega) (by omega)]
    exact O4
  · rw [← e6, zup_ne (by omega), zup_ne (by omega), zup_off _ (by omega), zup_self]
  · rw [← e6, zup_ne (by omega), zup_ne (by omega), zup_self]
  · rw [← e6, zup_off _ (by omega), zup_self]
  · rw [← e6, zup_self]
  · rw [F6 a (by omega) (by omega), F5 a (by omega) (by omega), F4 a (by omega), F3 a (by omega) (by omega), F2 a (by omega), F1 a (by omega)]
theorem m_threads (D : Pg) (hl : T.length ≤ 120) (hx : ∀ x, x ∈ T → 0 ≤ x ∧ x ≤ 255) (hX : MX0 w T) : ((aText T D).1 < 0 → ∃ w', Cl (d + 6) 122 [(2, 67)] 92 w = some ((0, (aText T D).1), 92, w') ∧ FM w w') ∧ (0 ≤ (aText T D).1 → ∃ w', Cl (d + 6) 122 [(2, 67)] 92 w = some ((0, (aText T D).1), 92, w') ∧ MTo w' (aText T D).2.2 ∧ (∀ a i, (a < 67 ∨ 91 < a) → w' a i = w a i)) := by
  have zo67 := zo_67; have zo75 := zo_75; have zl75 := zl_75
  obtain ⟨w1, e1⟩ : ∃ w1, zup (zup (zup (zup (zup w 67 10 0) 67 15 0) 75 0 0) 75 1 0) 75 2 0 = w1 := ⟨_, rfl⟩
  have M1 : FM w w1 := fun a i h1 h2 => by rw [← e1, zup_ne (by omega), zup_ne (by omega), zup_ne (by omega), zup_off _ (by omega), zup_off _ (by omega)]
  have E0 := WD_emp D
  have N1 : PN w1 (emp D) := by
    have z0 : emp D 0 6 = 0 := zup_self ..
    refine ⟨by rw [z0, ← e1, zup_ne (by omega), zup_ne (by omega), zup_ne (by omega), zup_self], fun p p0 p3 => ?_, fun t t0 t4 => by omega⟩
    rw [← e1]
    unfold emp
    rcases (by omega : p = 0 ∨ p = 1 ∨ p = 2) with rfl | rfl | rfl <;> simp [zup]
  have hB : MB w1 T (tk (aT0 T) T.length 0) := ⟨0, by rw [← e1, zup_ne (by omega), zup_ne (by omega), zup_ne (by omega), zup_off _ (by omega), zup_self]; rfl, by omega, rfl⟩
  obtain ⟨w2, y1, y2, y3⟩ := m_next (d := d + 4) hl hx (hX.fm M1) hB
  have hlen := tk_len (a := aT0 T) (n := T.length) (i := 0) (by omega)
  obtain ⟨v1, v2⟩ := m_th_l (d := d) (v := (9, 0)) hl hl hx 121 0 w2 (emp D) _ (by omega) (by omega) (by omega) ((hX.fm M1).fn y3) y2 (tk_g 0) (N1.fl y3.fl) E0
  have hd : Cl (d + 6) 122 [(2, 67)] 92 w = Rn (d + 6) 122 36 [(2, 67), (0, 0), (9, 0)] [] 92 w2 := by
    show Rn (d + 6) 122 0 [(2, 67), (9, 0), (9, 0)] [] 92 w = _
    rw [← e1] at y1
    simp (disch := first | assumption | omega | (simp only [zcat_0, zcat_i, zcat_l, zcat_r, zcat_t]; omega) | simp) only [e_X8_threads_0, e_X8_threads_1, e_X8_threads_2, e_X8_threads_5, e_X8_threads_6, e_X8_threads_7, e_X8_threads_10, e_X8_threads_11, e_X8_threads_12, e_X8_threads_13, e_X8_threads_14, e_X8_threads_17, e_X8_threads_18, e_X8_threads_21, e_X8_threads_22, e_X8_threads_23, e_X8_threads_24, e_X8_threads_27, e_X8_threads_30, e_X8_threads_31, e_X8_threads_32, e_X8_threads_33, zpush_i, zpush_l, zpush_v, Option.bind_some, ↓if_pos, ↓if_neg, Int.reduceAdd, w32_id, y1]
  have F := M1.tr y3.fl.fm
  rw [hd]
  refine ⟨fun z => ?_, fun z => ?_⟩
  · obtain ⟨w3, g1, g2⟩ := v1 z
    exact ⟨w3, g1, F.tr g2⟩
  · obtain ⟨w3, g1, g2, g3⟩ := v2 z
    obtain ⟨w4, s1, s2, s3⟩ := m_tell (d := d) (v := (aText T D).1) g3 (aText_wd T D)
    exact ⟨w4, g1.trans s1, s2, fun a i ha => by rw [s3 a i ha, (F.tr g2) a i (by omega) (by omega)]⟩
end T13
