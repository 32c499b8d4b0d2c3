section T11
variable {d : Nat} {w : zW} {L : Tk} {n : Nat} {D : Pg} {T : List Int} {lo hi : Int}
/-- how a part of the reference's reading ends -/
def MEn (T : List Int) (w w' : zW) (r : Ps) : Prop := (r.1 = 1 → MB w' T r.2.1 ∧ PN w' r.2.2) ∧ (r.1 = 0 → w' 67 14 = hs r.2.1) ∧ FM w w'
theorem MEn.no {w' : zW} (e : w' 67 14 = hs L) (hF : FM w w') : MEn T w w' (0, L, D) := ⟨fun z => absurd (show (0 : Int) = 1 from z) (by decide), fun _ => e, hF⟩
theorem MEn.yes {w' : zW} (h : MB w' T L) (hP : PN w' D) (hF : FM w w') : MEn T w w' (1, L, D) := ⟨fun _ => ⟨h, hP⟩, fun z => absurd (show (1 : Int) = 0 from z) (by decide), hF⟩
theorem m_takesOp (hl : T.length ≤ 120) (hx : ∀ x, x ∈ T → 0 ≤ x ∧ x ≤ 255) (hX : MX0 w T) (hH : MH w T L) (hg : gT n L) (h9 : is9 (hk L)) (hN : PN w D) (hD : WD D) (h1 : 1 ≤ D 0 6) (hl5 : D 3 (D 0 6 - 1) < 5) : ∃ w', Cl (d + 3) 119 [(2, 67), (0, D 0 6 - 1)] 92 w = some ((0, (aOp D L).1), 92, w') ∧ MEn T w w' (aOp D L) := by
  have zo67 := zo_67; have zo77 := zo_77; have zl77 := zl_77; have zo78 := zo_78; have zl78 := zl_78
  have hP4 := hD.1.2.1
  obtain ⟨t, et⟩ : ∃ t, D 0 6 - 1 = t := ⟨_, rfl⟩
  have hh := hD.1.2.2.2.1 t (by omega) (by omega)
  rw [et] at hl5 ⊢
  obtain ⟨l, el⟩ : ∃ l, D 3 t = l := ⟨_, rfl⟩
  have e77 := (hN.2.2 t (by omega) (by omega)).2.1
  rw [el] at hl5 hh e77
  obtain ⟨k, ek⟩ : ∃ k, 5 * t + l = k := ⟨_, rfl⟩
  obtain ⟨c, hc⟩ : ∃ c, hk L = c := ⟨_, rfl⟩
  obtain ⟨p0, r1, r2, r3, r4, r5⟩ := id hH
  have e12 : w 67 12 = c := by
    rw [← hc]
    exact r5.ini (by omega)
  have g1 := hg.tl (by omega)
  have hB1 := hH.mb (by omega)
  obtain ⟨wa, ea⟩ : ∃ wa, zup (zup (zup w 78 (3 * k) c) 78 (3 * k + 1) 0) 78 (3 * k + 2) 0 = wa := ⟨_, rfl⟩
  have Fa : ∀ b, b ≠ 78 → wa b = w b := fun b hb => by rw [← ea, zup_ne hb, zup_ne hb, zup_ne hb]
  have Fa' : ∀ x, (x < 3 * k ∨ 3 * k + 2 < x) → wa 78 x = w 78 x := fun x hx => by rw [← ea, zup_off _ (by omega), zup_off _ (by omega), zup_off _ (by omega)]
  have Ma : FM w wa := fun b i _ hb => by rw [Fa b (by omega)]
  have ac : wa 78 (3 * k) = c := by rw [← ea, zup_off _ (by omega), zup_off _ (by omega), zup_self]
  have hBa : MB wa T L.tail := hB1.at (by rw [Fa 67 (by omega)])
  have hXa : MX0 wa T := hX.fm Ma
  have a77 : wa 77 t = l := by rw [Fa 77 (by omega), e77]
  have hd : Cl (d + 3) 119 [(2, 67), (0, t)] 92 w = Rn (d + 3) 119 43 [(2, 67), (0, t), (0, 3 * k), (0, c), (9, 0)] [] 92 wa := by
    show Rn (d + 3) 119 0 [(2, 67), (0, t), (9, 0), (9, 0), (9, 0)] [] 92 w = _
    rw [← ea]
    simp (disch := first | assumption | omega | (simp only [zcat_0, zcat_i, zcat_l, zcat_r, zcat_t]; omega) | simp) only [e_X8_takesOp_0, e_X8_takesOp_1, e_X8_takesOp_2, e_X8_takesOp_3, e_X8_takesOp_4, e_X8_takesOp_5, e_X8_takesOp_8, e_X8_takesOp_9, e_X8_takesOp_10, e_X8_takesOp_11, e_X8_takesOp_12, e_X8_takesOp_13, e_X8_takesOp_14, e_X8_takesOp_17, e_X8_takesOp_18, e_X8_takesOp_19, e_X8_takesOp_22, e_X8_takesOp_23, e_X8_takesOp_24, e_X8_takesOp_25, e_X8_takesOp_26, e_X8_takesOp_29, e_X8_takesOp_30, e_X8_takesOp_31, e_X8_takesOp_32, e_X8_takesOp_33, e_X8_takesOp_34, e_X8_takesOp_35, e_X8_takesOp_38, e_X8_takesOp_39, e_X8_takesOp_40, e_X8_takesOp_41, e_X8_takesOp_42, zpush_i, zpush_l, zpush_v, Option.bind_some, ↓if_pos, ↓if_neg, Int.reduceAdd, w32_id, e77, e12, ek]
  rw [hd]
  clear hd
  unfold aOp
  rw [hc] at h9 ⊢
  rw [if_neg (fun z => z h9)]
  by_cases c1 : c = 120
  · rw [if_pos c1]
    refine ⟨zup wa 77 t (l + 1), ?_, .yes (hBa.at (by rw [zup_ne (by omega)])) ?_ (Ma.tr (fun b i _ hb => by rw [zup_ne (by omega)]))⟩
    · subst c1
      simp (disch := first | assumption | omega | (simp only [zcat_0, zcat_i, zcat_l, zcat_r, zcat_t]; omega) | simp) only [e_X8_takesOp_43, e_X8_takesOp_44, e_X8_takesOp_46, e_X8_takesOp_72, e_X8_takesOp_73, e_X8_takesOp_75, e_X8_takesOp_78, e_X8_takesOp_79, e_X8_takesOp_81, e_X8_takesOp_84, e_X8_takesOp_85, e_X8_takesOp_87, e_X8_takesOp_90, e_X8_takesOp_91, e_X8_takesOp_93, e_X8_takesOp_96, e_X8_takesOp_97, e_X8_takesOp_99, e_X8_takesOp_102, e_X8_takesOp_103, e_X8_takesOp_106, e_X8_takesOp_107, e_X8_takesOp_109, e_X8_takesOp_111, e_X8_takesOp_183, e_X8_takesOp_184, e_X8_takesOp_187, e_X8_takesOp_188, e_X8_takesOp_189, e_X8_takesOp_190, e_X8_takesOp_191, e_X8_takesOp_192, e_X8_takesOp_193, e_X8_takesOp_194, zpush_i, zpush_l, zpush_v, Option.bind_some, ↓if_pos, ↓if_neg, Int.reduceAdd, w32_id, a77]
    · rw [← c1]
      exact hN.addO hD h1 et el ek (by omega) (fun x hx => by rw [zup_ne (by omega), Fa' x hx]) (fun u hu => by rw [zup_off _ (Or.inr hu), Fa 77 (by omega)]) (zup_self ..) (by rw [zup_ne (by omega), ac]) (fun z => absurd c1 z) (fun z => by omega) (by rw [zup_ne (by omega), Fa 75 (by omega)]) (by rw [zup_ne (by omega), Fa 76 (by omega)]) (by rw [zup_ne (by omega), Fa 67 (by omega)])
  rw [if_neg c1]
  obtain ⟨w1, q1, q2, q3, q4, q5⟩ := m_number (d := d) (lo := 0) (hi := 2) (by omega) (by omega) hl hx hXa hBa
  by_cases c2 : ¬ (0 ≤ hk L.tail ∧ hk L.tail ≤ 2)
  · rw [if_pos c2]
    rw [if_neg c2] at q1
    refine ⟨w1, ?_, .no (q3 c2) (Ma.tr q5.fm)⟩
    simp (disch := first | assumption | omega | (simp only [zcat_0, zcat_i, zcat_l, zcat_r, zcat_t]; omega) | simp) only [e_X8_takesOp_43, e_X8_takesOp_44, e_X8_takesOp_46, e_X8_takesOp_49, e_X8_takesOp_50, e_X8_takesOp_51, e_X8_takesOp_52, e_X8_takesOp_55, e_X8_takesOp_58, e_X8_takesOp_59, zpush_i, zpush_l, zpush_v, Option.bind_some, ↓if_pos, ↓if_neg, Int.reduceAdd, w32_id, q1]
  rw [if_neg c2]
  have c2' : 0 ≤ hk L.tail ∧ hk L.tail ≤ 2 := Classical.not_not.mp c2
  rw [if_pos c2'] at q1
  have g2 := g1.tl (by omega)
  have e13 := q4 c2'
  obtain ⟨wb, eb⟩ : ∃ wb, zup w1 78 (3 * k + 1) (hk L.tail) = wb := ⟨_, rfl⟩
  have hd : Rn (d + 3) 119 43 [(2, 67), (0, t), (0, 3 * k), (0, c), (9, 0)] [] 92 wa = Rn (d + 3) 119 72 [(2, 67), (0, t), (0, 3 * k), (0, c), (9, 0)] [] 92 wb := by
    rw [← eb]
    simp (disch := first | assumption | omega | (simp only [zcat_0, zcat_i, zcat_l, zcat_r, zcat_t]; omega) | simp) only [e_X8_takesOp_43, e_X8_takesOp_44, e_X8_takesOp_46, e_X8_takesOp_49, e_X8_takesOp_50, e_X8_takesOp_51, e_X8_takesOp_52, e_X8_takesOp_55, e_X8_takesOp_58, e_X8_takesOp_59, e_X8_takesOp_60, e_X8_takesOp_61, e_X8_takesOp_64, e_X8_takesOp_65, e_X8_takesOp_66, e_X8_takesOp_67, e_X8_takesOp_68, e_X8_takesOp_71, zpush_i, zpush_l, zpush_v, Option.bind_some, ↓if_pos, ↓if_neg, Int.reduceAdd, w32_id, q1, e13]
  rw [hd]
  clear hd
  have w1o : ∀ b, b ≠ 67 → w1 b = wa b := fun b hb => by funext i; exact q5 b i (Or.inl hb)
  have Fb : ∀ b, b ≠ 78 → wb b = w1 b := fun b hb => by rw [← eb, zup_ne hb]
  have Fb' : ∀ x, (x < 3 * k ∨ 3 * k + 2 < x) → wb 78 x = w 78 x := fun x hx => by rw [← eb, zup_off _ (by omega), w1o 78 (by omega), Fa' x hx]
  have bc : wb 78 (3 * k) = c := by rw [← eb, zup_off _ (by omega), w1o 78 (by omega), ac]
  have bp : wb 78 (3 * k + 1) = hk L.tail := by rw [← eb, zup_self]
  have b77 : wb 77 t = l := by rw [Fb 77 (by omega), w1o 77 (by omega), a77]
  have Mb : FM w wb := (Ma.tr q5.fm).tr (fun b i _ hb => by rw [Fb b (by omega)])
  have hBb : MB wb T L.tail.tail := (q2.mb (by omega)).at (by rw [Fb 67 (by omega)])
  have hXb := hX.fm Mb
  have f75 : wb 75 = w 75 := by rw [Fb 75 (by omega), w1o 75 (by omega), Fa 75 (by omega)]
  have f76 : wb 76 = w 76 := by rw [Fb 76 (by omega), w1o 76 (by omega), Fa 76 (by omega)]
  have f77 : wb 77 = w 77 := by rw [Fb 77 (by omega), w1o 77 (by omega), Fa 77 (by omega)]
  have f15 : wb 67 15 = w 67 15 := by rw [Fb 67 (by omega), q5 67 15 (by omega), Fa 67 (by omega)]
  by_cases c3 : ¬ is5 c
  · rw [if_pos c3]
    refine ⟨zup wb 77 t (l + 1), ?_, .yes (hBb.at (by rw [zup_ne (by omega)])) ?_ (Mb.tr (fun b i _ hb => by rw [zup_ne (by omega)]))⟩
    · simp (disch := first | assumption | omega | (simp only [zcat_0, zcat_i, zcat_l, zcat_r, zcat_t]; omega) | simp) only [e_X8_takesOp_72, e_X8_takesOp_73, e_X8_takesOp_75, e_X8_takesOp_78, e_X8_takesOp_79, e_X8_takesOp_81, e_X8_takesOp_84, e_X8_takesOp_85, e_X8_takesOp_87, e_X8_takesOp_90, e_X8_takesOp_91, e_X8_takesOp_93, e_X8_takesOp_96, e_X8_takesOp_97, e_X8_takesOp_99, e_X8_takesOp_102, e_X8_takesOp_103, e_X8_takesOp_106, e_X8_takesOp_107, e_X8_takesOp_109, e_X8_takesOp_111, e_X8_takesOp_183, e_X8_takesOp_184, e_X8_takesOp_187, e_X8_takesOp_188, e_X8_takesOp_189, e_X8_takesOp_190, e_X8_takesOp_191, e_X8_takesOp_192, e_X8_takesOp_193, e_X8_takesOp_194, zpush_i, zpush_l, zpush_v, Option.bind_some, ↓if_pos, ↓if_neg, Int.reduceAdd, w32_id, b77]
    · exact hN.addO hD h1 et el ek (by omega) (fun x hx => by rw [zup_ne (by omega), Fb' x hx]) (fun u hu => by rw [zup_off _ (Or.inr hu), f77]) (zup_self ..) (by rw [zup_ne (by omega), bc]) (fun z => by rw [zup_ne (by omega), bp]) (fun z => absurd z c3) (by rw [zup_ne (by omega), f75]) (by rw [zup_ne (by omega), f76]) (by rw [zup_ne (by omega), f15])
  rw [if_neg c3]
  have c3' : is5 c := Classical.not_not.mp c3
  have hd : Rn (d + 3) 119 72 [(2, 67), (0, t), (0, 3 * k), (0, c), (9, 0)] [] 92 wb = Rn (d + 3) 119 137 [(2, 67), (0, t), (0, 3 * k), (0, c), (0, 1)] [(0, if c = 113 then 2 else 3), (0, if c = 107 then 1 else 0), (2, 67)] 92 wb := by
    rcases c3' with rfl | rfl | rfl | rfl | rfl <;> simp (disch := first | assumption | omega | (simp only [zcat_0, zcat_i, zcat_l, zcat_r, zcat_t]; omega) | simp) only [e_X8_takesOp_72, e_X8_takesOp_73, e_X8_takesOp_75, e_X8_takesOp_78, e_X8_takesOp_79, e_X8_takesOp_81, e_X8_takesOp_84, e_X8_takesOp_85, e_X8_takesOp_87, e_X8_takesOp_90, e_X8_takesOp_91, e_X8_takesOp_93, e_X8_takesOp_96, e_X8_takesOp_97, e_X8_takesOp_99, e_X8_takesOp_102, e_X8_takesOp_103, e_X8_takesOp_106, e_X8_takesOp_107, e_X8_takesOp_109, e_X8_takesOp_111, e_X8_takesOp_114, e_X8_takesOp_115, e_X8_takesOp_116, e_X8_takesOp_118, e_X8_takesOp_121, e_X8_takesOp_122, e_X8_takesOp_125, e_X8_takesOp_126, e_X8_takesOp_127, e_X8_takesOp_129, e_X8_takesOp_132, e_X8_takesOp_133, e_X8_takesOp_136, zpush_i, zpush_l, zpush_v, Option.bind_some, ↓if_pos, ↓if_neg, Int.reduceAdd, w32_id] <;> rfl
  rw [hd]
  clear hd
  obtain ⟨lo', elo⟩ : ∃ x : Int, (if c = 107 then 1 else 0) = x := ⟨_, rfl⟩
  obtain ⟨hi', ehi⟩ : ∃ x : Int, (if c = 113 then 2 else 3) = x := ⟨_, rfl⟩
  have lo0 : 0 ≤ lo' := by
    rw [← elo]
    split <;> omega
  have hi9 : hi' ≤ 3 := by
    rw [← ehi]
    split <;> omega
  rw [elo, ehi]
  obtain ⟨w2, s1, s2, s3, s4, s5⟩ := m_number (d := d) (lo := lo') (hi := hi') lo0 (by omega) hl hx hXb hBb
  obtain ⟨p2, y1, y2, y3, y4, y5⟩ := id s2
  have w2o : ∀ b, b ≠ 67 → w2 b = wb b := fun b hb => by funext i; exact s5 b i (Or.inl hb)
  by_cases c5 : ¬ (lo' ≤ hk L.tail.tail ∧ hk L.tail.tail ≤ hi')
  · rw [if_neg c5] at s1
    have hfin : Rn (d + 3) 119 137 [(2, 67), (0, t), (0, 3 * k), (0, c), (0, 1)] [(0, hi'), (0, lo'), (2, 67)] 92 wb = some ((0, 0), 92, w2) := by
      have s1' := s1
      clear c5 s3 s4 s1
      simp (disch := first | assumption | omega | (simp only [zcat_0, zcat_i, zcat_l, zcat_r, zcat_t]; omega) | simp) only [e_X8_takesOp_137, e_X8_takesOp_140, e_X8_takesOp_143, e_X8_takesOp_144, zpush_i, zpush_l, zpush_v, Option.bind_some, ↓if_pos, ↓if_neg, Int.reduceAdd, w32_id, s1']
    by_cases c4 : c = 113 ∧ hk L.tail.tail = hk L.tail
    · rw [if_pos c4]
      exact ⟨w2, hfin, .no (s3 c5) (Mb.tr s5.fm)⟩
    · rw [if_neg c4, if_pos c5]
      exact ⟨w2, hfin, .no (s3 c5) (Mb.tr s5.fm)⟩
  have c5' : lo' ≤ hk L.tail.tail ∧ hk L.tail.tail ≤ hi' := Classical.not_not.mp c5
  rw [if_pos c5'] at s1
  have e13 := s4 c5'
  have b0 : 0 ≤ hk L.tail.tail := by omega
  have p78 : w2 78 (3 * k + 1) = hk L.tail := by rw [w2o 78 (by omega), bp]
  have hf := m_faults (d := d + 2) (w := w2)
  rw [if_neg c5]
  clear c5 c5' s3 s4
  by_cases c4 : c = 113 ∧ hk L.tail.tail = hk L.tail
  · rw [if_pos c4]
    refine ⟨zup w2 67 14 (w2 67 11), ?_, .no (by rw [zup_self, y4]) ((Mb.tr s5.fm).tr FL.up.fm)⟩
    have c41 := c4.1
    have c42 := c4.2
    rw [c42] at e13
    simp (disch := first | assumption | omega | (simp only [zcat_0, zcat_i, zcat_l, zcat_r, zcat_t]; omega) | simp) only [e_X8_takesOp_137, e_X8_takesOp_140, e_X8_takesOp_143, e_X8_takesOp_144, e_X8_takesOp_145, e_X8_takesOp_146, e_X8_takesOp_148, e_X8_takesOp_151, e_X8_takesOp_152, e_X8_takesOp_155, e_X8_takesOp_156, e_X8_takesOp_159, e_X8_takesOp_160, e_X8_takesOp_161, e_X8_takesOp_162, e_X8_takesOp_163, e_X8_takesOp_166, e_X8_takesOp_167, e_X8_takesOp_170, zpush_i, zpush_l, zpush_v, Option.bind_some, ↓if_pos, ↓if_neg, Int.reduceAdd, w32_id, s1, e13, p78, hf]
  rw [if_neg c4]
  have hd : Rn (d + 3) 119 137 [(2, 67), (0, t), (0, 3 * k), (0, c), (0, 1)] [(0, hi'), (0, lo'), (2, 67)] 92 wb = Rn (d + 3) 119 171 [(2, 67), (0, t), (0, 3 * k), (0, c), (0, 1)] [] 92 w2 := by
    by_cases c41 : c = 113
    · have c42 : hk L.tail.tail ≠ hk L.tail := fun z => c4 ⟨c41, z⟩
      simp (disch := first | assumption | omega | (simp only [zcat_0, zcat_i, zcat_l, zcat_r, zcat_t]; omega) | simp) only [e_X8_takesOp_137, e_X8_takesOp_140, e_X8_takesOp_143, e_X8_takesOp_144, e_X8_takesOp_145, e_X8_takesOp_146, e_X8_takesOp_148, e_X8_takesOp_151, e_X8_takesOp_152, e_X8_takesOp_155, e_X8_takesOp_156, e_X8_takesOp_159, e_X8_takesOp_160, e_X8_takesOp_161, e_X8_takesOp_162, e_X8_takesOp_163, zpush_i, zpush_l, zpush_v, Option.bind_some, ↓if_pos, ↓if_neg, Int.reduceAdd, w32_id, s1, e13, p78]
    · simp (disch := first | assumption | omega | (simp only [zcat_0, zcat_i, zcat_l, zcat_r, zcat_t]; omega) | simp) only [e_X8_takesOp_137, e_X8_takesOp_140, e_X8_takesOp_143, e_X8_takesOp_144, e_X8_takesOp_145, e_X8_takesOp_146, e_X8_takesOp_148, zpush_i, zpush_l, zpush_v, Option.bind_some, ↓if_pos, ↓if_neg, Int.reduceAdd, w32_id, s1]
  rw [hd]
  clear hd
  have d77 : w2 77 t = l := by rw [w2o 77 (by omega), b77]
  refine ⟨zup (zup w2 78 (3 * k + 2) (hk L.tail.tail)) 77 t (l + 1), ?_, .yes ((s2.mb (by omega)).at (by rw [zup_ne (by omega), zup_ne (by omega)])) ?_ ((Mb.tr s5.fm).tr (fun b i _ hb => by rw [zup_ne (by omega), zup_ne (by omega)]))⟩
  · simp (disch := first | assumption | omega | (simp only [zcat_0, zcat_i, zcat_l, zcat_r, zcat_t]; omega) | simp) only [e_X8_takesOp_171, e_X8_takesOp_172, e_X8_takesOp_175, e_X8_takesOp_176, e_X8_takesOp_177, e_X8_takesOp_178, e_X8_takesOp_179, e_X8_takesOp_182, e_X8_takesOp_183, e_X8_takesOp_184, e_X8_takesOp_187, e_X8_takesOp_188, e_X8_takesOp_189, e_X8_takesOp_190, e_X8_takesOp_191, e_X8_takesOp_192, e_X8_takesOp_193, e_X8_takesOp_194, zpush_i, zpush_l, zpush_v, Option.bind_some, ↓if_pos, ↓if_neg, Int.reduceAdd, w32_id, e13, d77, zup_off]
  · exact hN.addO hD h1 et el ek (by omega) (fun x hx => by rw [zup_ne (by omega), zup_off _ (by omega), w2o 78 (by omega), Fb' x hx]) (fun u hu => by rw [zup_off _ (Or.inr hu), zup_ne (by omega), w2o 77 (by omega), f77]) (zup_self ..) (by rw [zup_ne (by omega), zup_off _ (by omega), w2o 78 (by omega), bc]) (fun z => by rw [zup_ne (by omega), zup_off _ (by omega), w2o 78 (by omega), bp]) (fun z => by rw [zup_ne (by omega), zup_self]) (by rw [zup_ne (by omega), zup_ne (by omega), w2o 75 (by omega), f75]) (by rw [zup_ne (by omega), zup_ne (by omega), w2o 76 (by omega), f76]) (by rw [zup_ne (by omega), zup_ne (by omega), s5 67 15 (by omega), f15])
end T11
