section T14
variable {d : Nat} {w : zW} {j : Int} {H : Hs} {D P : Pg} {T : List Int}
theorem r_threads0 (h3 : w 0 3 = j) (hj : isT j) (hT : TO w j D) (hX : CX0 w T) (hl : T.length ≤ 120) (hx : ∀ x, x ∈ T → 0 ≤ x ∧ x ≤ 255) (hr : (aText T D).1 < 0) : ∃ w', Cl (d + 9) 75 [(2, 0)] 92 w = some ((0, (aText T D).1), 92, w') ∧ (∀ a i, (a < 16 ∨ 18 < a) → (a < j ∨ j + 6 < a) → w' a i = w a i) := by
  have zo0 := zo_0; have zo16 := zo_16; have zo1 := zo_1; have zl1 := zl_1
  obtain ⟨t0, tn, t1, u1, t2, u2, t3, u3, t4, u4, t5, u5, t6, u6⟩ := sTall hj
  obtain ⟨w1, q1, q2, q3, q4, q5⟩ := r_read (d := d) hj hT hX hl hx
  have e1 := hX.1
  refine ⟨w1, ?_, q4⟩
  show Rn (d + 9) 75 0 [(2, 0), (9, 0), (9, 0)] [] 92 w = _
  simp (disch := first | assumption | omega | (simp only [zcat_0, zcat_i, zcat_l, zcat_r, zcat_t]; omega) | simp) only [e_X7_threads_0, e_X7_threads_1, e_X7_threads_4, e_X7_threads_5, e_X7_threads_8, e_X7_threads_9, e_X7_threads_12, e_X7_threads_13, e_X7_threads_16, e_X7_threads_19, e_X7_threads_20, e_X7_threads_21, e_X7_threads_24, e_X7_threads_25, zpush_i, zpush_l, zpush_v, Option.bind_some, ↓if_pos, ↓if_neg, Int.reduceAdd, w32_id, e1, h3, q1]
theorem r_threads1 (h2 : w 0 2 = 11 - j) (h3 : w 0 3 = j) (hj : isT j) (hT : TO w j D) (hX : CX0 w T) (hl : T.length ≤ 120) (hx : ∀ x, x ∈ T → 0 ≤ x ∧ x ≤ 255) (hH : CPa w H) (hr : 0 ≤ (aText T D).1) : ∃ w', Cl (d + 9) 75 [(2, 0)] 92 w = some ((0, (aText T D).1), 92, w') ∧ w' 0 2 = j ∧ w' 0 3 = 11 - j ∧ w' 0 1 = 0 ∧ TO w' j (aText T D).2.2 ∧ CS w' 19 (sBg (aText T D).2.2) ∧ w' 19 10 = 0 ∧ CPa w' [] ∧ w' 37 0 = 0 ∧ w' 37 1 = 0 ∧ w' 38 2 = 0 ∧ w' 41 7 = 1 ∧ (∀ a i, 41 < a → w' a i = w a i) := by
  have zo0 := zo_0; have zo16 := zo_16; have zo1 := zo_1; have zl1 := zl_1; have zo19 := zo_19; have zo29 := zo_29; have zo34 := zo_34; have zo38 := zo_38; have zo41 := zo_41
  obtain ⟨t0, tn, t1, u1, t2, u2, t3, u3, t4, u4, t5, u5, t6, u6⟩ := sTall hj
  obtain ⟨w1, q1, q2, q3, q4, q5⟩ := r_read (d := d) hj hT hX hl hx
  have e1 := hX.1
  have f2 : w1 0 2 = 11 - j := by rw [q4 0 2 (by omega) (by omega), h2]
  have f3 : w1 0 3 = j := by rw [q4 0 3 (by omega) (by omega), h3]
  obtain ⟨w2, e2⟩ : ∃ w2, zup (zup (zup w1 0 2 j) 0 3 (11 - j)) 0 1 0 = w2 := ⟨_, rfl⟩
  have F2 : ∀ a, a ≠ 0 → w2 a = w1 a := fun a ha => by rw [← e2, zup_ne ha, zup_ne ha, zup_ne ha]
  have g2 : w2 0 2 = j := by rw [← e2, zup_off _ (by omega), zup_off _ (by omega), zup_self]
  have hT2 : TO w2 j (aText T D).2.2 := fun a h0 h1 i => by
    rw [F2 (j + a) (by omega)]
    exact q2 a h0 h1 i
  obtain ⟨w3, s1, s2, s3, s4⟩ := r_begin (d := d + 8) (k := 19) (by omega) hj hT2
  have hp := r_pempty (d := d + 8) (w := w3)
  have hH3 : CPa w3 H := hH.at (fun a a0 a1 => by
    rw [s3 a (by omega), F2 a (by omega)]
    funext i
    exact q4 a i (by omega) (by omega))
  have hs := r_shempty (d := d + 8) (w := zup w3 29 2 0)
  obtain ⟨w4, e4⟩ : ∃ w4, zup (zup (zup (zup (zup w3 29 2 0) 37 0 0) 37 1 0) 38 2 0) 41 7 1 = w4 := ⟨_, rfl⟩
  have F4 : ∀ a, a ≠ 29 → a ≠ 37 → a ≠ 38 → a ≠ 41 → w4 a = w3 a := fun a a1 a2 a3 a4 => by rw [← e4, zup_ne a4, zup_ne a3, zup_ne a2, zup_ne a2, zup_ne a1]
  refine ⟨w4, ?_, ?_, ?_, ?_, ?_, ?_, ?_, ?_, ?_, ?_, ?_, ?_, fun a i ha => ?_⟩
  · show Rn (d + 9) 75 0 [(2, 0), (9, 0), (9, 0)] [] 92 w = _
    rw [← e4]
    rw [← e2] at s1 g2
    simp (disch := first | assumption | omega | (simp only [zcat_0, zcat_i, zcat_l, zcat_r, zcat_t]; omega) | simp) only [e_X7_threads_0, e_X7_threads_1, e_X7_threads_4, e_X7_threads_5, e_X7_threads_8, e_X7_threads_9, e_X7_threads_12, e_X7_threads_13, e_X7_threads_16, e_X7_threads_19, e_X7_threads_20, e_X7_threads_21, e_X7_threads_24, e_X7_threads_25, e_X7_threads_26, e_X7_threads_27, e_X7_threads_30, e_X7_threads_31, e_X7_threads_32, e_X7_threads_33, e_X7_threads_36, e_X7_threads_39, e_X7_threads_40, e_X7_threads_41, e_X7_threads_44, e_X7_threads_45, e_X7_threads_46, e_X7_threads_49, e_X7_threads_50, e_X7_threads_53, e_X7_threads_54, e_X7_threads_57, e_X7_threads_60, e_X7_threads_61, e_X7_threads_64, e_X7_threads_67, e_X7_threads_68, e_X7_threads_71, e_X7_threads_74, e_X7_threads_75, e_X7_threads_78, e_X7_threads_79, e_X7_threads_82, e_X7_threads_83, e_X7_threads_86, e_X7_threads_87, e_X7_threads_90, e_X7_threads_91, zpush_i, zpush_l, zpush_v, Option.bind_some, ↓if_pos, ↓if_neg, Int.reduceAdd, w32_id, e1, h3, q1, f2, f3, zup_off, zup_self, s1, hp, hs]
  · rw [F4 0 (by omega) (by omega) (by omega) (by omega), s3 0 (by omega), g2]
  · rw [F4 0 (by omega) (by omega) (by omega) (by omega), s3 0 (by omega), ← e2, zup_off _ (by omega), zup_self]
  · rw [F4 0 (by omega) (by omega) (by omega) (by omega), s3 0 (by omega), ← e2, zup_self]
  · intro a h0 h1 i
    rw [F4 (j + a) (by omega) (by omega) (by omega) (by omega), s3 (j + a) (by omega)]
    exact hT2 a h0 h1 i
  · unfold CS
    rw [F4 (19 + 1) (by omega) (by omega) (by omega) (by omega), F4 (19 + 2) (by omega) (by omega) (by omega) (by omega), F4 (19 + 3) (by omega) (by omega) (by omega) (by omega), F4 (19 + 4) (by omega) (by omega) (by omega) (by omega), F4 (19 + 5) (by omega) (by omega) (by omega) (by omega), F4 (19 + 6) (by omega) (by omega) (by omega) (by omega), F4 (19 + 7) (by omega) (by omega) (by omega) (by omega), F4 (19 + 8) (by omega) (by omega) (by omega) (by omega), F4 19 (by omega) (by omega) (by omega) (by omega)]
    exact s2
  · rw [F4 19 (by omega) (by omega) (by omega) (by omega), s4]
  · exact hH3.nil.at (fun a a0 a1 => by rw [← e4, zup_ne (by omega), zup_ne (by omega), zup_ne (by omega), zup_ne (by omega)])
  · rw [← e4, zup_ne (by omega), zup_ne (by omega), zup_off _ (by omega), zup_self]
  · rw [← e4, zup_ne (by omega), zup_ne (by omega), zup_self]
  · rw [← e4, zup_ne (by omega), zup_self]
  · rw [← e4, zup_self]
  · rw [F4 a (by omega) (by omega) (by omega) (by omega), s3 a (by omega), F2 a (by omega), q4 a i (by omega) (by omega)]
end T14
