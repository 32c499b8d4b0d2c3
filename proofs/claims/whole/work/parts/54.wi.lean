section W3
variable {d : Nat} {w : zW} {k j t p q n : Int} {S : Sc} {P : Pg} {a : Int → Int} {i : Int}
theorem FW.z14 {x : Int} : FW w (zup w 41 14 x) := fun b j _ _ h3 => zup_off _ (by omega)
theorem r_ws4 (hW : WS0 P S) (hC : CS w 45 S) (hx : w32 (w 41 14) = w 41 14) : ∃ w', Rn d 53 24 [(2, 41), (0, i), (0, 0)] [] 92 w = some ((9, 0), 92, w') ∧ w' 41 14 = z_or (z_or (z_or (z_or (w 41 14) (sB S 0)) (sB S 1)) (sB S 2)) (sB S 3) ∧ (∀ b j, b ≠ 41 ∨ j ≠ 14 → w' b j = w b j) := by
  have zo41 := zo_41
  have s0 := r_ws1 (d := d) (i := i) (t := 0) hW hC (by omega) (by omega) hx
  obtain ⟨w1, e1⟩ : ∃ w1, zup w 41 14 (z_or (w 41 14) (sB S 0)) = w1 := ⟨_, rfl⟩
  have v1 : w1 41 14 = z_or (w 41 14) (sB S 0) := by rw [← e1, zup_self]
  have o1 : ∀ b j, b ≠ 41 ∨ j ≠ 14 → w1 b j = w b j := fun b j h => by rw [← e1, zup_off _ h]
  have C1 : CS w1 45 S := by rw [← e1]; exact FW.z14.cs (k := 45) (by omega) hC
  rw [e1] at s0
  have s1 := r_ws1 (d := d) (i := i) (t := 1) hW C1 (by omega) (by omega) (by rw [v1]; exact z_or_w _ _)
  obtain ⟨w2, e2⟩ : ∃ w2, zup w1 41 14 (z_or (w1 41 14) (sB S 1)) = w2 := ⟨_, rfl⟩
  have v2 : w2 41 14 = z_or (w1 41 14) (sB S 1) := by rw [← e2, zup_self]
  have o2 : ∀ b j, b ≠ 41 ∨ j ≠ 14 → w2 b j = w b j := fun b j h => by rw [← e2, zup_off _ h, o1 b j h]
  have C2 : CS w2 45 S := by rw [← e2]; exact FW.z14.cs (k := 45) (by omega) C1
  rw [e2] at s1
  have s2 := r_ws1 (d := d) (i := i) (t := 2) hW C2 (by omega) (by omega) (by rw [v2]; exact z_or_w _ _)
  obtain ⟨w3, e3⟩ : ∃ w3, zup w2 41 14 (z_or (w2 41 14) (sB S 2)) = w3 := ⟨_, rfl⟩
  have v3 : w3 41 14 = z_or (w2 41 14) (sB S 2) := by rw [← e3, zup_self]
  have o3 : ∀ b j, b ≠ 41 ∨ j ≠ 14 → w3 b j = w b j := fun b j h => by rw [← e3, zup_off _ h, o2 b j h]
  have C3 : CS w3 45 S := by rw [← e3]; exact FW.z14.cs (k := 45) (by omega) C2
  rw [e3] at s2
  have s3 := r_ws1 (d := d) (i := i) (t := 3) hW C3 (by omega) (by omega) (by rw [v3]; exact z_or_w _ _)
  refine ⟨zup w3 41 14 (z_or (w3 41 14) (sB S 3)), ((s0.trans (s1.trans s2)).trans s3).trans ?_, ?_, fun b j h => by rw [zup_off _ h, o3 b j h]⟩
  · simp (disch := first | assumption | omega | (simp only [zcat_0, zcat_i, zcat_l, zcat_r, zcat_t]; omega) | simp) only [e_X3_weighStuck_24, e_X3_weighStuck_25, e_X3_weighStuck_26, e_X3_weighStuck_60, zpush_i, zpush_l, zpush_v, Option.bind_some, ↓if_pos, ↓if_neg, Int.reduceAdd, w32_id]
  · rw [zup_self, v3, v2, v1]
theorem r_wStuck (hW : WS0 P S) (hC : CS w 45 S) (hA : CW w a) (h0 : 0 ≤ a 1 ∧ a 1 < 100000) (h4 : w32 (a 4) = a 4) : ∃ w', Cl d 53 [(2, 41), (0, i)] 92 w = some ((9, 0), 92, w') ∧ CW w' (aWk S i a) ∧ FW w w' := by
  have zo41 := zo_41
  obtain ⟨c0, c1, c2, c3, c4, c5⟩ := hA
  have F1 : FW w (zup (zup w 41 13 (if a 1 = 0 then i else a 3)) 41 11 (a 1 + 1)) := fun b j h1 h2 h3 => by rw [zup_off _ (by omega), zup_off _ (by omega)]
  have ea : Cl d 53 [(2, 41), (0, i)] 92 w = Rn d 53 24 [(2, 41), (0, i), (0, 0)] [] 92 (zup (zup w 41 13 (if a 1 = 0 then i else a 3)) 41 11 (a 1 + 1)) := by
    show Rn d 53 0 [(2, 41), (0, i), (9, 0)] [] 92 w = _
    by_cases h : a 1 = 0
    · rw [if_pos h]
      simp (disch := first | assumption | omega | (simp only [zcat_0, zcat_i, zcat_l, zcat_r, zcat_t]; omega) | simp) only [e_X3_weighStuck_0, e_X3_weighStuck_1, e_X3_weighStuck_4, e_X3_weighStuck_7, e_X3_weighStuck_8, e_X3_weighStuck_9, e_X3_weighStuck_12, e_X3_weighStuck_13, e_X3_weighStuck_14, e_X3_weighStuck_17, e_X3_weighStuck_18, e_X3_weighStuck_19, e_X3_weighStuck_22, e_X3_weighStuck_23, zpush_i, zpush_l, zpush_v, Option.bind_some, ↓if_pos, ↓if_neg, Int.reduceAdd, w32_id, c1, zup_off]
    · rw [if_neg h, ← c3, zup_id]
      simp (disch := first | assumption | omega | (simp only [zcat_0, zcat_i, zcat_l, zcat_r, zcat_t]; omega) | simp) only [e_X3_weighStuck_0, e_X3_weighStuck_1, e_X3_weighStuck_4, e_X3_weighStuck_7, e_X3_weighStuck_8, e_X3_weighStuck_9, e_X3_weighStuck_12, e_X3_weighStuck_13, e_X3_weighStuck_14, e_X3_weighStuck_17, e_X3_weighStuck_18, e_X3_weighStuck_19, e_X3_weighStuck_22, e_X3_weighStuck_23, zpush_i, zpush_l, zpush_v, Option.bind_some, ↓if_pos, ↓if_neg, Int.reduceAdd, w32_id, c1]
  generalize hw1 : zup (zup w 41 13 (if a 1 = 0 then i else a 3)) 41 11 (a 1 + 1) = w1 at *
  have e14 : w1 41 14 = a 4 := by rw [← hw1, zup_off _ (by omega), zup_off _ (by omega), c4]
  obtain ⟨w2, q1, q2, q3⟩ := r_ws4 (d := d) (i := i) hW (F1.cs (k := 45) (by omega) hC) (by rw [e14]; exact h4)
  refine ⟨w2, ea.trans q1, ?_, F1.tr (fun b j h1 h2 h3 => q3 b j (by omega))⟩
  unfold aWk
  refine ⟨?_, ?_, ?_, ?_, ?_, fun p h0 h3 => ⟨?_, ?_⟩⟩
  · rw [q3 41 10 (by omega), ← hw1]; simp (disch := omega) only [zup_off, su_ne]; exact c0
  · rw [q3 41 11 (by omega), ← hw1]; simp (disch := omega) only [zup_off, zup_self, su_ne, su_self]
  · rw [q3 41 12 (by omega), ← hw1]; simp (disch := omega) only [zup_off, su_ne]; exact c2
  · rw [q3 41 13 (by omega), ← hw1]; simp (disch := omega) only [zup_off, zup_self, su_ne, su_self]
  · rw [q2, e14, su_self]
  · rw [q3 65 p (by omega), ← hw1]; simp (disch := omega) only [zup_off, su_ne]; exact (c5 p h0 h3).1
  · rw [q3 66 p (by omega), ← hw1]; simp (disch := omega) only [zup_off, su_ne]; exact (c5 p h0 h3).2
theorem r_wo (hP : WP P) (hW : WS0 P S) (hC : CS w 45 S) (hA : CW w a) (hx : ∀ k, 4 ≤ k → k ≤ 10 → w32 (a k) = a k) : ∃ w', Rn (d + 1) 51 2 [(2, 41), (0, i), (0, 0)] [] 92 w = Rn (d + 1) 51 48 [(2, 41), (0, i), (0, 3)] [] 92 w' ∧ CW w' (aWo S a) ∧ FW w w' := by
  have zo41 := zo_41
  obtain ⟨c0, c1, c2, c3, c4, c5⟩ := hA
  have x0 : w 66 0 = a 8 := (c5 0 (by omega) (by omega)).2
  have x1 : w 66 1 = a 9 := (c5 1 (by omega) (by omega)).2
  have x2 : w 66 2 = a 10 := (c5 2 (by omega) (by omega)).2
  have s0 := r_wo1 (d := d) (i := i) (p := 0) hP hW hC (by omega) (by rw [x0]; exact hx 8 (by omega) (by omega))
  obtain ⟨w1, e1⟩ : ∃ w1, zup w 66 0 (z_or (w 66 0) (oB S 0)) = w1 := ⟨_, rfl⟩
  have F1 : FW w w1 := by rw [← e1]; exact fun b j h1 h2 h3 => zup_off _ (by omega)
  rw [e1] at s0
  have y1 : w1 66 1 = a 9 := by rw [← e1, zup_off _ (by omega), x1]
  have s1 := r_wo1 (d := d) (i := i) (p := 1) hP hW (F1.cs (k := 45) (by omega) hC) (by omega) (by rw [y1]; exact hx 9 (by omega) (by omega))
  obtain ⟨w2, e2⟩ : ∃ w2, zup w1 66 1 (z_or (w1 66 1) (oB S 1)) = w2 := ⟨_, rfl⟩
  have F2 : FW w w2 := F1.tr (by rw [← e2]; exact fun b j h1 h2 h3 => zup_off _ (by omega))
  rw [e2] at s1
  have y2 : w2 66 2 = a 10 := by rw [← e2, zup_off _ (by omega), ← e1, zup_off _ (by omega), x2]
  have s2 := r_wo1 (d := d) (i := i) (p := 2) hP hW (F2.cs (k := 45) (by omega) hC) (by omega) (by rw [y2]; exact hx 10 (by omega) (by omega))
  obtain ⟨w3, e3⟩ : ∃ w3, zup w2 66 2 (z_or (w2 66 2) (oB S 2)) = w3 := ⟨_, rfl⟩
  have F3 : FW w w3 := F2.tr (by rw [← e3]; exact fun b j h1 h2 h3 => zup_off _ (by omega))
  rw [e3] at s2
  have o3 : ∀ b j, b ≠ 66 → w3 b j = w b j := fun b j h => by rw [← e3, zup_off _ (Or.inl h), ← e2, zup_off _ (Or.inl h), ← e1, zup_off _ (Or.inl h)]
  refine ⟨w3, (s0.trans (s1.trans s2)).trans ?_, ?_, F3⟩
  · simp (disch := first | assumption | omega | (simp only [zcat_0, zcat_i, zcat_l, zcat_r, zcat_t]; omega) | simp) only [e_X3_weigh_2, e_X3_weigh_3, e_X3_weigh_4, zpush_i, zpush_l, zpush_v, Option.bind_some, ↓if_pos, ↓if_neg, Int.reduceAdd, w32_id]
  · unfold aWo
    refine ⟨?_, ?_, ?_, ?_, ?_, fun p h0 h3 => ⟨?_, ?_⟩⟩
    · rw [o3 _ _ (by omega)]; simp (disch := omega) only [su_ne]; exact c0
    · rw [o3 _ _ (by omega)]; simp (disch := omega) only [su_ne]; exact c1
    · rw [o3 _ _ (by omega)]; simp (disch := omega) only [su_ne]; exact c2
    · rw [o3 _ _ (by omega)]; simp (disch := omega) only [su_ne]; exact c3
    · rw [o3 _ _ (by omega)]; simp (disch := omega) only [su_ne]; exact c4
    · rw [o3 _ _ (by omega)]; simp (disch := omega) only [su_ne]; exact (c5 p h0 h3).1
    · have : p = 0 ∨ p = 1 ∨ p = 2 := by omega
      rcases this with rfl | rfl | rfl
      · rw [← e3, zup_off _ (by omega), ← e2, zup_off _ (by omega), ← e1, zup_self, x0]
        simp (disch := omega) only [su_ne, su_self, Int.reduceAdd]
      · rw [← e3, zup_off _ (by omega), ← e2, zup_self, y1]
        simp (disch := omega) only [su_ne, su_self, Int.reduceAdd]
      · rw [← e3, zup_self, y2]
        simp (disch := omega) only [su_ne, su_self, Int.reduceAdd]
theorem r_weigh {i : Nat} (hP : WP P) (hW : WS0 P S) (hC : CS w 45 S) (hA : CW w a) (hI : AI a i) (hi : i < 3000) : ∃ w', Cl (d + 2) 51 [(2, 41), (0, (i : Int))] 92 w = some ((9, 0), 92, w') ∧ CW w' (aW S i a) ∧ FW w w' := by
  have zo41 := zo_41; have zo45 := zo_45
  obtain ⟨w1, q1, q2, q3⟩ := r_wo (d := d + 1) (i := i) hP hW hC hA hI.2.2.2.2
  have C1 := q3.cs (k := 45) (by omega) hC
  have he := r_isEnd (d := d + 1) (k := 45) (by omega) hW C1
  have I1 := hI.o (S := S)
  have eb : ∃ w2, Rn (d + 2) 51 48 [(2, 41), (0, (i : Int)), (0, 3)] [] 92 w1 = Rn (d + 2) 51 63 [(2, 41), (0, (i : Int)), (0, 3)] [] 92 w2 ∧ CW w2 (aWb S i a) ∧ FW w1 w2 := by
    unfold aWb
    by_cases h : bEnd S
    · rw [if_pos h] at he ⊢
      obtain ⟨w2, r1, r2, r3⟩ := r_wEnd (d := d + 1) (i := (i : Int)) C1 q2 (by have := I1.1; have := I1.2.1; omega)
      refine ⟨w2, ?_, r2, r3⟩
      simp (disch := first | assumption | omega | (simp only [zcat_0, zcat_i, zcat_l, zcat_r, zcat_t]; omega) | simp) only [e_X3_weigh_48, e_X3_weigh_49, e_X3_weigh_52, e_X3_weigh_55, e_X3_weigh_58, e_X3_weigh_59, e_X3_weigh_60, zpush_i, zpush_l, zpush_v, Option.bind_some, ↓if_pos, ↓if_neg, Int.reduceAdd, w32_id, he, r1]
    · rw [if_neg h] at he ⊢
      refine ⟨w1, ?_, q2, FW.rf⟩
      simp (disch := first | assumption | omega | (simp only [zcat_0, zcat_i, zcat_l, zcat_r, zcat_t]; omega) | simp) only [e_X3_weigh_48, e_X3_weigh_49, e_X3_weigh_52, e_X3_weigh_55, e_X3_weigh_58, e_X3_weigh_59, e_X3_weigh_60, zpush_i, zpush_l, zpush_v, Option.bind_some, ↓if_pos, ↓if_neg, Int.reduceAdd, w32_id, he]
  obtain ⟨w2, r1, r2, r3⟩ := eb
  have C2 := r3.cs (k := 45) (by omega) C1
  have hs := r_isStuck (d := d) (k := 45) (by omega) hW C2
  obtain ⟨g1, g2, g3, g4, g5⟩ := hI.b (S := S) (x := (i : Int))
  have ec : ∃ w3, Rn (d + 2) 51 63 [(2, 41), (0, (i : Int)), (0, 3)] [] 92 w2 = some ((9, 0), 92, w3) ∧ CW w3 (aW S i a) ∧ FW w2 w3 := by
    unfold aW
    by_cases h : bEnd S ∧ ¬ bDn S
    · rw [if_pos h] at hs ⊢
      obtain ⟨w3, u1, u2, u3⟩ := r_wStuck (d := d + 1) (i := (i : Int)) hW C2 r2 (by omega) (g5 4 (by omega) (by omega))
      refine ⟨w3, ?_, u2, u3⟩
      simp (disch := first | assumption | omega | (simp only [zcat_0, zcat_i, zcat_l, zcat_r, zcat_t]; omega) | simp) only [e_X3_weigh_63, e_X3_weigh_64, e_X3_weigh_67, e_X3_weigh_70, e_X3_weigh_73, e_X3_weigh_74, e_X3_weigh_75, e_X3_weigh_78, zpush_i, zpush_l, zpush_v, Option.bind_some, ↓if_pos, ↓if_neg, Int.reduceAdd, w32_id, hs, u1]
    · rw [if_neg h] at hs ⊢
      refine ⟨w2, ?_, r2, FW.rf⟩
      simp (disch := first | assumption | omega | (simp only [zcat_0, zcat_i, zcat_l, zcat_r, zcat_t]; omega) | simp) only [e_X3_weigh_63, e_X3_weigh_64, e_X3_weigh_67, e_X3_weigh_70, e_X3_weigh_73, e_X3_weigh_74, e_X3_weigh_75, e_X3_weigh_78, zpush_i, zpush_l, zpush_v, Option.bind_some, ↓if_pos, ↓if_neg, Int.reduceAdd, w32_id, hs]
  obtain ⟨w3, u1, u2, u3⟩ := ec
  refine ⟨w3, ?_, u2, (q3.tr r3).tr u3⟩
  show Rn (d + 2) 51 0 [(2, 41), (0, (i : Int)), (9, 0)] [] 92 w = _
  rw [← u1, ← r1, ← q1]
  simp (disch := first | assumption | omega | (simp only [zcat_0, zcat_i, zcat_l, zcat_r, zcat_t]; omega) | simp) only [e_X3_weigh_0, e_X3_weigh_1, zpush_i, zpush_l, zpush_v, Option.bind_some, ↓if_pos, ↓if_neg, Int.reduceAdd, w32_id]
end W3
