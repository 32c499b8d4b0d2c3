section Q7
variable {d : Nat} {w : zW} {x p t : Int} {S : Sc} {P : Pg}
theorem m_b0 : ∀ (u i : Nat) (w' : zW), i + u = 25 → (∀ a, a ≠ 72 → w' a = w a) → (∀ a : Int, 0 ≤ a → a < (i : Int) → w' 72 a = 0) → ∃ w'', Rn d 100 2 [(2, 67), (0, (i : Int))] [] 92 w' = Rn d 100 23 [(2, 67), (0, 0)] [] 92 w'' ∧ (∀ a, a ≠ 72 → w'' a = w a) ∧ (∀ a : Int, 0 ≤ a → a < 25 → w'' 72 a = 0) := by
  have zo67 := zo_67; have zo72 := zo_72; have zl72 := zl_72
  intro u
  induction u with
  | zero =>
    intro i w' hi h1 h2
    have ei : (i : Int) = 25 := by omega
    refine ⟨w', ?_, h1, fun a a0 a1 => h2 a a0 (by omega)⟩
    rw [ei]
    simp (disch := first | assumption | omega | (simp only [zcat_0, zcat_i, zcat_l, zcat_r, zcat_t]; omega) | simp) only [e_X8_begin_2, e_X8_begin_3, e_X8_begin_5, e_X8_begin_21, e_X8_begin_22, zpush_i, zpush_l, zpush_v, Option.bind_some, ↓if_pos, ↓if_neg, Int.reduceAdd, w32_id]
  | succ u ih =>
    intro i w' hi h1 h2
    obtain ⟨w2, g1, g2, g3⟩ := ih (i + 1) (zup w' 72 i 0) (by omega) (fun a ha => by rw [zup_ne ha]; exact h1 a ha) (fun a a0 a1 => by
      by_cases c : a = i
      · subst c; rw [zup_self]
      · rw [zup_off _ (Or.inr c)]; exact h2 a a0 (by omega))
    refine ⟨w2, ?_, g2, g3⟩
    rw [← g1, show ((i + 1 : Nat) : Int) = (i : Int) + 1 by omega, e_X8_begin_2]
    simp (disch := first | assumption | omega | (simp only [zcat_0, zcat_i, zcat_l, zcat_r, zcat_t]; omega) | simp) only [e_X8_begin_3, e_X8_begin_5, e_X8_begin_8, e_X8_begin_9, e_X8_begin_12, e_X8_begin_13, e_X8_begin_14, e_X8_begin_15, e_X8_begin_18, zpush_i, zpush_l, zpush_v, Option.bind_some, ↓if_pos, ↓if_neg, Int.reduceAdd, w32_id]
/-- what the beginning reads of the program -/
def PB (w : zW) (P : Pg) : Prop := w 67 1 = P 0 6 ∧ (∀ p, 0 ≤ p → p < 3 → w 68 p = P 1 p) ∧ ∀ t, 0 ≤ t → t < P 0 6 → w 70 t = P 3 t
theorem m_b1 {p : Int} (hp : 0 ≤ p ∧ p < 3) (hB : PB w P) : Rn d 100 23 [(2, 67), (0, p)] [] 92 w = Rn d 100 23 [(2, 67), (0, p + 1)] [] 92 (zup w 72 p (P 1 p)) := by
  have zo67 := zo_67; have zo68 := zo_68; have zl68 := zl_68; have zo72 := zo_72; have zl72 := zl_72
  have e := hB.2.1 p hp.1 hp.2
  have kz : 0 + p = p := by omega
  rw [e_X8_begin_23]
  simp (disch := first | assumption | omega | (simp only [zcat_0, zcat_i, zcat_l, zcat_r, zcat_t]; omega) | simp) only [e_X8_begin_24, e_X8_begin_25, e_X8_begin_28, e_X8_begin_29, e_X8_begin_32, e_X8_begin_33, e_X8_begin_34, e_X8_begin_35, e_X8_begin_36, e_X8_begin_39, e_X8_begin_40, e_X8_begin_41, e_X8_begin_42, e_X8_begin_45, zpush_i, zpush_l, zpush_v, Option.bind_some, ↓if_pos, ↓if_neg, Int.reduceAdd, w32_id, kz, e]
theorem m_b2 (hP : WP P) : ∀ (u i : Nat) (w : zW), (i : Int) + u = P 0 6 → PB w P → ∃ w', Rn d 100 50 [(2, 67), (0, (i : Int))] [] 92 w = some ((9, 0), 92, w') ∧ (∀ a j, a ≠ 72 → (a ≠ 67 ∨ j ≠ 6) → w' a j = w a j) ∧ w' 67 6 = 0 ∧ (∀ j : Int, j < 13 + (i : Int) ∨ 13 + P 0 6 ≤ j → w' 72 j = w 72 j) ∧ (∀ t : Int, (i : Int) ≤ t → t < P 0 6 → w' 72 (13 + t) = if 0 < P 3 t then 0 else 7) := by
  have zo67 := zo_67; have zo70 := zo_70; have zl70 := zl_70; have zo72 := zo_72; have zl72 := zl_72
  have hP4 := hP.2.1
  intro u
  induction u with
  | zero =>
    intro i w hi hB
    have e1 := hB.1
    refine ⟨zup w 67 6 0, ?_, fun a j h1 h2 => zup_off _ h2, zup_self .., fun j _ => zup_off _ (Or.inl (by omega)), fun t h1 h2 => by omega⟩
    rw [show (i : Int) = P 0 6 by omega]
    simp (disch := first | assumption | omega | (simp only [zcat_0, zcat_i, zcat_l, zcat_r, zcat_t]; omega) | simp) only [e_X8_begin_50, e_X8_begin_51, e_X8_begin_52, e_X8_begin_55, e_X8_begin_88, e_X8_begin_89, e_X8_begin_90, e_X8_begin_93, zpush_i, zpush_l, zpush_v, Option.bind_some, ↓if_pos, ↓if_neg, Int.reduceAdd, w32_id, e1]
  | succ u ih =>
    intro i w hi hB
    have e1 := hB.1
    have e2 := hB.2.2 i (by omega) (by omega)
    have hl := hP.2.2.2.1 i (by omega) (by omega)
    obtain ⟨w', g1, g2, g3, g4, g5⟩ := ih (i + 1) (zup w 72 (13 + i) (if 0 < P 3 i then 0 else 7)) (by omega) (by
      unfold PB
      rw [zup_ne (by omega), zup_ne (by omega), zup_ne (by omega)]
      exact hB)
    refine ⟨w', ?_, fun a j h1 h2 => by rw [g2 a j h1 h2, zup_ne h1], g3, fun j hj => by rw [g4 j (by omega), zup_off _ (Or.inr (by omega))], fun t h1 h2 => ?_⟩
    · rw [← g1, show ((i + 1 : Nat) : Int) = (i : Int) + 1 by omega, e_X8_begin_50]
      by_cases c : P 3 i = 0
      · rw [c] at e2
        rw [if_neg (by omega)]
        simp (disch := first | assumption | omega | (simp only [zcat_0, zcat_i, zcat_l, zcat_r, zcat_t]; omega) | simp) only [e_X8_begin_51, e_X8_begin_52, e_X8_begin_55, e_X8_begin_58, e_X8_begin_59, e_X8_begin_62, e_X8_begin_64, e_X8_begin_65, e_X8_begin_66, e_X8_begin_67, e_X8_begin_70, e_X8_begin_71, e_X8_begin_72, e_X8_begin_75, e_X8_begin_77, e_X8_begin_80, e_X8_begin_81, e_X8_begin_82, e_X8_begin_85, zpush_i, zpush_l, zpush_v, Option.bind_some, ↓if_pos, ↓if_neg, Int.reduceAdd, w32_id, e1, e2]
      · rw [if_pos (by omega)]
        simp (disch := first | assumption | omega | (simp only [zcat_0, zcat_i, zcat_l, zcat_r, zcat_t]; omega) | simp) only [e_X8_begin_51, e_X8_begin_52, e_X8_begin_55, e_X8_begin_58, e_X8_begin_59, e_X8_begin_62, e_X8_begin_64, e_X8_begin_65, e_X8_begin_66, e_X8_begin_67, e_X8_begin_70, e_X8_begin_71, e_X8_begin_72, e_X8_begin_75, e_X8_begin_77, e_X8_begin_80, e_X8_begin_81, e_X8_begin_82, e_X8_begin_85, zpush_i, zpush_l, zpush_v, Option.bind_some, ↓if_pos, ↓if_neg, Int.reduceAdd, w32_id, e1, e2]
    · by_cases c : t = i
      · subst c
        rw [g4 _ (by omega), zup_self]
      · exact g5 t (by omega) h2
theorem m_begin (hP : WP P) (hB : PB w P) : ∃ w', Cl d 100 [(2, 67)] 92 w = some ((9, 0), 92, w') ∧ RS w' (P 0 6) (sBg P) ∧ w' 67 6 = 0 ∧ (∀ a j, a ≠ 72 → (a ≠ 67 ∨ j ≠ 6) → w' a j = w a j) := by
  have zo67 := zo_67; have zo72 := zo_72; have zl72 := zl_72
  have hP1 := hP.1
  have hP4 := hP.2.1
  obtain ⟨w1, q1, q2, q3⟩ := m_b0 (d := d) (w := w) 25 0 w (by omega) (fun _ _ => rfl) (fun a a0 a1 => by omega)
  have q1' : Rn d 100 2 [(2, 67), (0, 0)] [] 92 w = _ := q1
  have bb : ∀ {v : zW}, (∀ a, a ≠ 72 → v a = w a) → PB v P := fun h => by
    unfold PB
    rw [h 67 (by omega), h 68 (by omega), h 70 (by omega)]
    exact hB
  have s0 := m_b1 (d := d) (w := w1) (P := P) (p := 0) (by omega) (bb q2)
  obtain ⟨w2, e2⟩ : ∃ w2, zup w1 72 0 (P 1 0) = w2 := ⟨_, rfl⟩
  rw [e2] at s0
  have o2 : ∀ a, a ≠ 72 → w2 a = w a := fun a ha => by rw [← e2, zup_ne ha, q2 a ha]
  have s1 := m_b1 (d := d) (w := w2) (P := P) (p := 1) (by omega) (bb o2)
  obtain ⟨w3, e3⟩ : ∃ w3, zup w2 72 1 (P 1 1) = w3 := ⟨_, rfl⟩
  rw [e3] at s1
  have o3 : ∀ a, a ≠ 72 → w3 a = w a := fun a ha => by rw [← e3, zup_ne ha, o2 a ha]
  have s2 := m_b1 (d := d) (w := w3) (P := P) (p := 2) (by omega) (bb o3)
  obtain ⟨w4, e4⟩ : ∃ w4, zup w3 72 2 (P 1 2) = w4 := ⟨_, rfl⟩
  rw [e4] at s2
  have o4 : ∀ a, a ≠ 72 → w4 a = w a := fun a ha => by rw [← e4, zup_ne ha, o3 a ha]
  obtain ⟨w5, g1, g2, g3, g4, g5⟩ := m_b2 (d := d) hP (P 0 6).toNat 0 w4 (by omega) (bb o4)
  have v4 : ∀ a : Int, 3 ≤ a → a < 25 → w4 72 a = 0 := fun a h0 h1 => by
    rw [← e4, zup_off _ (Or.inr (by omega)), ← e3, zup_off _ (Or.inr (by omega)), ← e2, zup_off _ (Or.inr (by omega))]
    exact q3 a (by omega) h1
  have v3 : ∀ a : Int, 0 ≤ a → a < 3 → w4 72 a = P 1 a := fun a h0 h1 => by
    have : a = 0 ∨ a = 1 ∨ a = 2 := by omega
    rcases this with rfl | rfl | rfl
    · rw [← e4, zup_off _ (Or.inr (by omega)), ← e3, zup_off _ (Or.inr (by omega)), ← e2, zup_self]
    · rw [← e4, zup_off _ (Or.inr (by omega)), ← e3, zup_self]
    · rw [← e4, zup_self]
  refine ⟨w5, ?_, ⟨fun i i0 i1 => ?_, fun t t0 t4 => ⟨?_, ?_⟩, fun i hi => ?_⟩, g3, fun a j h1 h2 => by rw [g2 a j h1 h2, o4 a h1]⟩
  · show Rn d 100 0 [(2, 67), (9, 0)] [] 92 w = _
    have ea : Rn d 100 0 [(2, 67), (9, 0)] [] 92 w = Rn d 100 2 [(2, 67), (0, 0)] [] 92 w := by
      simp (disch := first | assumption | omega | (simp only [zcat_0, zcat_i, zcat_l, zcat_r, zcat_t]; omega) | simp) only [e_X8_begin_0, e_X8_begin_1, zpush_i, zpush_l, zpush_v, Option.bind_some, ↓if_pos, ↓if_neg, Int.reduceAdd, w32_id]
    have eb : Rn d 100 23 [(2, 67), (0, 3)] [] 92 w4 = Rn d 100 50 [(2, 67), (0, 0)] [] 92 w4 := by
      simp (disch := first | assumption | omega | (simp only [zcat_0, zcat_i, zcat_l, zcat_r, zcat_t]; omega) | simp) only [e_X8_begin_23, e_X8_begin_24, e_X8_begin_25, e_X8_begin_48, e_X8_begin_49, zpush_i, zpush_l, zpush_v, Option.bind_some, ↓if_pos, ↓if_neg, Int.reduceAdd, w32_id]
    rw [ea, q1']
    exact (s0.trans (s1.trans s2)).trans (eb.trans g1)
  · rw [g4 i (by omega)]
    by_cases c : i < 3
    · rw [sBg_a c]; exact v3 i i0 c
    · rw [sBg_z (by omega) (by omega)]; exact v4 i (by omega) (by omega)
  · by_cases c : t < P 0 6
    · rw [if_pos c, sBg_h t0 t4]
      exact g5 t (by omega) c
    · rw [if_neg c, g4 _ (by omega)]
      exact v4 _ (by omega) (by omega)
  · rw [g4 _ (by omega), sBg_z (p := 17 + t) (by omega) (by omega)]
    exact v4 _ (by omega) (by omega)
  · rw [g4 _ (by omega), v4 _ (by omega) (by omega)]
    rfl
end Q7
