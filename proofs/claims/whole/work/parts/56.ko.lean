section N2
variable {d : Nat} {w : zW} {j : Int} {S : Sc} {P : Pg} {L : BL} {a : Int → Int}
theorem r_x0 : ∀ (u i : Nat) (w' : zW), i + u = 8192 → (∀ b, b ≠ 44 → w' b = w b) → (∀ b : Int, 0 ≤ b → b < (i : Int) → w' 44 b = 0) → ∃ w'', Rn d 47 2 [(2, 41), (0, (i : Int))] [] 92 w' = Rn d 47 22 [(2, 41), (0, 8192)] [] 92 w'' ∧ (∀ b, b ≠ 44 → w'' b = w b) ∧ (∀ b : Int, 0 ≤ b → b < 8192 → w'' 44 b = 0) := by
  have zo41 := zo_41; have zo44 := zo_44; have zl44 := zl_44
  intro u
  induction u with
  | zero =>
    intro i w' hi h1 h2
    have ei : (i : Int) = 8192 := by omega
    refine ⟨w', ?_, h1, fun a a0 a1 => h2 a a0 (by omega)⟩
    rw [ei]
    simp (disch := first | assumption | omega | (simp only [zcat_0, zcat_i, zcat_l, zcat_r, zcat_t]; omega) | simp) only [e_X3_empty_2, e_X3_empty_3, e_X3_empty_6, zpush_i, zpush_l, zpush_v, Option.bind_some, ↓if_pos, ↓if_neg, Int.reduceAdd, w32_id]
  | succ u ih =>
    intro i w' hi h1 h2
    obtain ⟨w2, g1, g2, g3⟩ := ih (i + 1) (zup w' 44 i 0) (by omega) (fun a ha => by rw [zup_ne ha]; exact h1 a ha) (fun a a0 a1 => by
      by_cases c : a = i
      · subst c; rw [zup_self]
      · rw [zup_off _ (Or.inr c)]; exact h2 a a0 (by omega))
    refine ⟨w2, ?_, g2, g3⟩
    rw [← g1, show ((i + 1 : Nat) : Int) = (i : Int) + 1 by omega, e_X3_empty_2]
    simp (disch := first | assumption | omega | (simp only [zcat_0, zcat_i, zcat_l, zcat_r, zcat_t]; omega) | simp) only [e_X3_empty_3, e_X3_empty_6, e_X3_empty_9, e_X3_empty_10, e_X3_empty_13, e_X3_empty_14, e_X3_empty_15, e_X3_empty_16, e_X3_empty_19, zpush_i, zpush_l, zpush_v, Option.bind_some, ↓if_pos, ↓if_neg, Int.reduceAdd, w32_id]
theorem r_sempty : ∃ w', Cl d 47 [(2, 41)] 92 w = some ((9, 0), 92, w') ∧ CL w' [] ∧ CW w' a00 ∧ FK w w' ∧ w' 41 7 = w 41 7 ∧ w' 55 10 = w 55 10 := by
  have zo41 := zo_41; have zo65 := zo_65; have zl65 := zl_65; have zo66 := zo_66; have zl66 := zl_66
  obtain ⟨w1, q1, q2, q3⟩ := r_x0 (d := d) (w := w) 8192 0 w (by omega) (fun _ _ => rfl) (fun a a0 a1 => by omega)
  have q1' : Rn d 47 2 [(2, 41), (0, 0)] [] 92 w = _ := q1
  obtain ⟨w2, e2⟩ : ∃ w2, zup (zup (zup (zup (zup (zup w1 65 0 0) 66 0 0) 65 1 0) 66 1 0) 65 2 0) 66 2 0 = w2 := ⟨_, rfl⟩
  have hb : Rn d 47 22 [(2, 41), (0, 8192)] [] 92 w1 = Rn d 47 49 [(2, 41), (0, 3)] [] 92 w2 := by
    rw [← e2]
    simp (disch := first | assumption | omega | (simp only [zcat_0, zcat_i, zcat_l, zcat_r, zcat_t]; omega) | simp) only [e_X3_empty_22, e_X3_empty_23, e_X3_empty_24, e_X3_empty_25, e_X3_empty_26, e_X3_empty_29, e_X3_empty_30, e_X3_empty_33, e_X3_empty_34, e_X3_empty_35, e_X3_empty_36, e_X3_empty_37, e_X3_empty_40, e_X3_empty_41, e_X3_empty_42, e_X3_empty_43, e_X3_empty_46, zpush_i, zpush_l, zpush_v, Option.bind_some, ↓if_pos, ↓if_neg, Int.reduceAdd, w32_id]
  obtain ⟨w3, e3⟩ : ∃ w3, zup (zup (zup (zup (zup (zup (zup w2 41 8 0) 41 9 0) 41 10 0) 41 11 0) 41 12 (-1)) 41 13 (-1)) 41 14 0 = w3 := ⟨_, rfl⟩
  have hc : Rn d 47 49 [(2, 41), (0, 3)] [] 92 w2 = some ((9, 0), 92, w3) := by
    rw [← e3]
    simp (disch := first | assumption | omega | (simp only [zcat_0, zcat_i, zcat_l, zcat_r, zcat_t]; omega) | simp) only [e_X3_empty_49, e_X3_empty_50, e_X3_empty_51, e_X3_empty_54, e_X3_empty_55, e_X3_empty_56, e_X3_empty_59, e_X3_empty_60, e_X3_empty_61, e_X3_empty_64, e_X3_empty_65, e_X3_empty_66, e_X3_empty_69, e_X3_empty_70, e_X3_empty_71, e_X3_empty_74, e_X3_empty_75, e_X3_empty_76, e_X3_empty_79, e_X3_empty_80, e_X3_empty_81, e_X3_empty_84, zpush_i, zpush_l, zpush_v, Option.bind_some, ↓if_pos, ↓if_neg, Int.reduceAdd, w32_id]
  have o3 : ∀ b i, b ≠ 41 ∨ i < 8 ∨ 14 < i → w3 b i = w2 b i := fun b i h => by
    rw [← e3, zup_off _ (by omega), zup_off _ (by omega), zup_off _ (by omega), zup_off _ (by omega), zup_off _ (by omega), zup_off _ (by omega), zup_off _ (by omega)]
  have o2 : ∀ b i, b ≠ 65 → b ≠ 66 → w2 b i = w1 b i := fun b i h h' => by
    rw [← e2, zup_off _ (by omega), zup_off _ (by omega), zup_off _ (by omega), zup_off _ (by omega), zup_off _ (by omega), zup_off _ (by omega)]
  refine ⟨w3, ?_, ⟨?_, ?_, fun i hi => absurd hi (Nat.not_lt_zero _), ?_⟩, ⟨?_, ?_, ?_, ?_, ?_, fun p h0 h3 => ?_⟩, fun b i h => ?_, ?_, ?_⟩
  · show Rn d 47 0 [(2, 41), (9, 0)] [] 92 w = _
    rw [← hc, ← hb, ← q1']
    simp (disch := first | assumption | omega | (simp only [zcat_0, zcat_i, zcat_l, zcat_r, zcat_t]; omega) | simp) only [e_X3_empty_0, e_X3_empty_1, zpush_i, zpush_l, zpush_v, Option.bind_some, ↓if_pos, ↓if_neg, Int.reduceAdd, w32_id]
  · rw [← e3]; simp (disch := omega) only [zup_off, zup_self]; rfl
  · rw [← e3]; simp (disch := omega) only [zup_off, zup_self]; rfl
  · refine HT.nil (fun b b0 b1 => ?_)
    rw [o3 44 b (by omega), o2 44 b (by omega) (by omega)]
    exact q3 b b0 b1
  · rw [← e3]; simp (disch := omega) only [zup_off, zup_self]; rfl
  · rw [← e3]; simp (disch := omega) only [zup_off, zup_self]; rfl
  · rw [← e3]; simp (disch := omega) only [zup_off, zup_self]; rfl
  · rw [← e3]; simp (disch := omega) only [zup_off, zup_self]; rfl
  · rw [← e3]; simp (disch := omega) only [zup_off, zup_self]; rfl
  · rw [o3 65 p (by omega), o3 66 p (by omega), ← e2]
    have : p = 0 ∨ p = 1 ∨ p = 2 := by omega
    rcases this with rfl | rfl | rfl
    · simp (disch := omega) only [zup_off, zup_self]; exact ⟨rfl, rfl⟩
    · simp (disch := omega) only [zup_off, zup_self]; exact ⟨rfl, rfl⟩
    · simp (disch := omega) only [zup_off, zup_self]; exact ⟨rfl, rfl⟩
  · rw [o3 b i (by omega), o2 b i (by omega) (by omega), q2 b (by omega)]
  · rw [o3 41 7 (by omega), o2 41 7 (by omega) (by omega), q2 41 (by omega)]
  · rw [o3 55 10 (by omega), o2 55 10 (by omega) (by omega), q2 55 (by omega)]
/-- the search stands for what can come of S -/
def KS (w : zW) (P : Pg) (S : Sc) : Prop := w 41 7 = 0 ∧ CL w (aF P S) ∧ ((aF P S).length ≤ 3000 → CW w (aWs (aF P S) (aF P S).length))
theorem CL.at {w' : zW} (h : CL w L) (e : ∀ b, b ≠ 41 → w' b = w b) (e8 : w' 41 8 = w 41 8) (e9 : w' 41 9 = w 41 9) : CL w' L := by
  unfold CL
  rw [e8, e9, e 42 (by omega), e 43 (by omega), e 44 (by omega)]
  exact h
theorem r_knows (hj : isT j) (hP : WP P) (hW : WS P S) (hT : TO w j P) (hC : CS w 19 S) (hK : KS w P S ∨ w 41 7 = 1) (hf : w32 (w 55 10) = w 55 10) : ∃ w', Cl (d + 6) 46 [(2, 41), (2, j), (2, 19)] 92 w = some ((0, if 3000 < (aF P S).length then 0 else 1), 92, w') ∧ KS w' P S ∧ FK w w' ∧ w32 (w' 55 10) = w' 55 10 := by
  have zo41 := zo_41; have zo19 := zo_19
  obtain ⟨t0, tn, t1, u1, t2, u2, t3, u3, t4, u4, t5, u5, t6, u6⟩ := sTall hj
  rcases hK with hK | hK
  · obtain ⟨k1, k2, k3⟩ := id hK
    have c2 := k2.2.1
    refine ⟨w, ?_, hK, FK.rf, hf⟩
    show Rn (d + 6) 46 0 [(2, 41), (2, j), (2, 19), (9, 0), (9, 0)] [] 92 w = _
    by_cases c : 3000 < (aF P S).length
    · rw [if_pos c] at c2 ⊢
      simp (disch := first | assumption | omega | (simp only [zcat_0, zcat_i, zcat_l, zcat_r, zcat_t]; omega) | simp) only [e_X3_knows_0, e_X3_knows_1, e_X3_knows_4, e_X3_knows_7, e_X3_knows_8, e_X3_knows_11, e_X3_knows_14, e_X3_knows_15, e_X3_knows_18, e_X3_knows_19, zpush_i, zpush_l, zpush_v, Option.bind_some, ↓if_pos, ↓if_neg, Int.reduceAdd, w32_id, k1, c2]
    · rw [if_neg c] at c2 ⊢
      simp (disch := first | assumption | omega | (simp only [zcat_0, zcat_i, zcat_l, zcat_r, zcat_t]; omega) | simp) only [e_X3_knows_0, e_X3_knows_1, e_X3_knows_4, e_X3_knows_7, e_X3_knows_8, e_X3_knows_11, e_X3_knows_14, e_X3_knows_15, e_X3_knows_18, e_X3_knows_19, zpush_i, zpush_l, zpush_v, Option.bind_some, ↓if_pos, ↓if_neg, Int.reduceAdd, w32_id, k1, c2]
  · obtain ⟨w1, q1, q2, q3, q4, q5, q6⟩ := r_sempty (d := d + 5) (w := w)
    have C1 : CS w1 19 S := by
      have e : ∀ b, b < 41 → w1 b = w b := fun b hb => by
        funext i
        exact q4 b i (by omega)
      unfold CS
      rw [e (19 + 1) (by omega), e (19 + 2) (by omega), e (19 + 3) (by omega), e (19 + 4) (by omega), e (19 + 5) (by omega), e (19 + 6) (by omega), e (19 + 7) (by omega), e (19 + 8) (by omega), e 19 (by omega)]
      exact hC
    have hpk := r_packed (d := d + 5) (k := 19) (by omega) hP hW.1 C1
    obtain ⟨w2, r1, r2, r3⟩ := r_add (d := d + 3) (c := 0) (e := (S, -9, -9, 0)) q2 (by simp) rfl
    rw [aF_1] at r2
    have r1' : Cl (d + 5) 48 [(2, 41), (1, packC S), (0, 0)] 92 w1 = some ((9, 0), 92, w2) := r1
    have f2 : w2 55 10 = w 55 10 := by rw [r3 55 10 (by omega) (by omega) (by omega) (by omega), q6]
    obtain ⟨w3, v', v'', i', u1, u2, u3, u4, u5, u6⟩ := r_ki (d := d + 1) (k := 19) hj (by omega) hP 3001 0 w2 [(S, -9, -9, 0)] (9, 0) (by omega) (by simp) (LG.one hW) ((hT.kk hj q4).kk hj r3.kk) r2 (q3.fa r3) (by rw [f2]; exact hf)
    have u1' : Rn (d + 6) 46 35 [(2, 41), (2, j), (2, 19), (0, 0), (9, 0)] [] 92 w2 = _ := u1
    have u2' : CL w3 (aF P S) := u2
    have c2 := u2'.2.1
    have e8 : (zup w3 41 7 0) 41 8 = w3 41 8 := zup_off _ (by omega)
    refine ⟨zup w3 41 7 0, ?_, ⟨zup_self .., u2'.at (fun b hb => zup_ne hb) e8 (zup_off _ (by omega)), fun z => ?_⟩, fun b i h => ?_, ?_⟩
    · show Rn (d + 6) 46 0 [(2, 41), (2, j), (2, 19), (9, 0), (9, 0)] [] 92 w = _
      have a1 : Rn (d + 6) 46 0 [(2, 41), (2, j), (2, 19), (9, 0), (9, 0)] [] 92 w = Rn (d + 6) 46 35 [(2, 41), (2, j), (2, 19), (0, 0), (9, 0)] [] 92 w2 := by
        simp (disch := first | assumption | omega | (simp only [zcat_0, zcat_i, zcat_l, zcat_r, zcat_t]; omega) | simp) only [e_X3_knows_0, e_X3_knows_1, e_X3_knows_4, e_X3_knows_7, e_X3_knows_8, e_X3_knows_11, e_X3_knows_14, e_X3_knows_15, e_X3_knows_18, e_X3_knows_19, e_X3_knows_20, e_X3_knows_21, e_X3_knows_24, e_X3_knows_25, e_X3_knows_26, e_X3_knows_29, e_X3_knows_30, e_X3_knows_33, e_X3_knows_34, zpush_i, zpush_l, zpush_v, Option.bind_some, ↓if_pos, ↓if_neg, Int.reduceAdd, w32_id, hK, q1, hpk, r1']
      rw [a1, u1']
      by_cases c : 3000 < (aF P S).length
      · rw [if_pos c] at c2 ⊢
        simp (disch := first | assumption | omega | (simp only [zcat_0, zcat_i, zcat_l, zcat_r, zcat_t]; omega) | simp) only [e_X3_knows_149, e_X3_knows_150, e_X3_knows_151, e_X3_knows_154, e_X3_knows_155, e_X3_knows_158, e_X3_knows_161, e_X3_knows_162, e_X3_knows_165, e_X3_knows_166, zpush_i, zpush_l, zpush_v, Option.bind_some, ↓if_pos, ↓if_neg, Int.reduceAdd, w32_id, e8, c2]
      · rw [if_neg c] at c2 ⊢
        simp (disch := first | assumption | omega | (simp only [zcat_0, zcat_i, zcat_l, zcat_r, zcat_t]; omega) | simp) only [e_X3_knows_149, e_X3_knows_150, e_X3_knows_151, e_X3_knows_154, e_X3_knows_155, e_X3_knows_158, e_X3_knows_161, e_X3_knows_162, e_X3_knows_165, e_X3_knows_166, zpush_i, zpush_l, zpush_v, Option.bind_some, ↓if_pos, ↓if_neg, Int.reduceAdd, w32_id, e8, c2]
    · have h3 := u4 z
      rw [h3] at u3
      have u3' : CW w3 (aWs (aF P S) (aF P S).length) := u3
      obtain ⟨c0, c1, c2, c3, c4, c5⟩ := u3'
      refine ⟨?_, ?_, ?_, ?_, ?_, fun p h0 h3 => ?_⟩
      · rw [zup_off _ (by omega)]; exact c0
      · rw [zup_off _ (by omega)]; exact c1
      · rw [zup_off _ (by omega)]; exact c2
      · rw [zup_off _ (by omega)]; exact c3
      · rw [zup_off _ (by omega)]; exact c4
      · rw [zup_off _ (by omega), zup_off _ (by omega)]; exact c5 p h0 h3
    · rw [zup_off _ (by omega), u6 b i h, r3.kk b i h, q4 b i h]
    · rw [zup_off _ (by omega)]; exact u5
end N2
