def LN (w : zW) (k : Int) (l : Int → Int) : Prop := ∀ i, 0 ≤ i → i < 4 → w (k + 9) i = l i
theorem zmax_eq (a b : Int) : z_max a b = max a b := by
  unfold z_max
  split <;> omega
theorem CS.ln {w w' : zW} {k : Int} {S : Sc} (h : CS w k S) (e : ∀ a, a ≠ k + 9 → w' a = w a) : CS w' k S := by
  obtain ⟨a1, a2, a3, a4⟩ := h
  refine ⟨fun p g0 g3 => ?_, fun t g0 g4 => ?_, ?_, fun i hi => ?_⟩
  · simp (disch := omega) only [e]
    exact a1 p g0 g3
  · simp (disch := omega) only [e]
    exact a2 t g0 g4
  · simp (disch := omega) only [e]
    exact a3
  · simp (disch := omega) only [e]
    exact a4 i hi
theorem TO.ln {w w' : zW} {j k : Int} {P : Pg} (h : TO w j P) (hj : isT j) (hk : isS k) (e : ∀ a, a ≠ k + 9 → w' a = w a) : TO w' j P := h.fr hj hk (fun a ha => e a (by omega))
section C4
variable {d : Nat} {w : zW} {k j t p : Int} {S : Sc} {P : Pg} {l : Int → Int}
theorem r_lend_a (hk : isS k) (hj : isT j) (h0 : 0 ≤ t) (h4 : t < 4) : Rn d 26 2 [(2, k), (2, j), (0, t), (9, 0), (9, 0)] [] 92 w = Rn d 26 2 [(2, k), (2, j), (0, t + 1), (9, 0), (9, 0)] [] 92 (zup w (k + 9) t (w (j + 2) t)) := by
  obtain ⟨z0, zn, z1, y1, z2, y2, z3, y3, z4, y4, z5, y5, z6, y6, z7, y7, z8, y8, z9, y9⟩ := sSall hk
  obtain ⟨t0, tn, t1, u1, t2, u2, t3, u3, t4, u4, t5, u5, t6, u6⟩ := sTall hj
  rw [e_X2_lendRanks_2]
  simp (disch := first | assumption | omega | (simp only [zcat_0, zcat_i, zcat_l, zcat_r, zcat_t]; omega) | simp) only [e_X2_lendRanks_3, e_X2_lendRanks_4, e_X2_lendRanks_7, e_X2_lendRanks_8, e_X2_lendRanks_11, e_X2_lendRanks_12, e_X2_lendRanks_13, e_X2_lendRanks_16, e_X2_lendRanks_17, e_X2_lendRanks_18, e_X2_lendRanks_19, e_X2_lendRanks_22, zpush_i, zpush_l, zpush_v, Option.bind_some, if_pos, if_neg, w32_id]
theorem r_lend_b (hk : isS k) (hj : isT j) (h0 : 0 ≤ t) (h4 : t < 4) {r : Int} {v : zV} (hC : CS w k S) (hW : WS0 P S) (hP : WP P) (hl : LN w k l) : ∃ w' v', Rn (d + 1) 26 34 [(2, k), (2, j), (0, r), (0, t), v] [] 92 w = Rn (d + 1) 26 34 [(2, k), (2, j), (0, r), (0, t + 1), (0, v')] [] 92 w' ∧ LN w' k (sL1 S l t) ∧ (∀ a, a ≠ k + 9 → w' a = w a) := by
  obtain ⟨z0, zn, z1, y1, z2, y2, z3, y3, z4, y4, z5, y5, z6, y6, z7, y7, z8, y8, z9, y9⟩ := sSall hk
  obtain ⟨t0, tn, t1, u1, t2, u2, t3, u3, t4, u4, t5, u5, t6, u6⟩ := sTall hj
  obtain ⟨f1, f2, f3, f4, f5, f6⟩ := hW.2.1 t h0 h4
  obtain ⟨-, b2, b3, -⟩ := hC.2.1 t h0 h4
  by_cases hx : 4 ≤ S.1 (13 + t) ∧ S.1 (13 + t) ≤ 6
  · have e2 : howC (S.1 (13 + t)) = 2 := by unfold howC; simp (disch := omega) only [if_pos, if_neg]
    have e3 : whC (S.1 (13 + t)) = S.1 (13 + t) - 4 := by unfold whC; simp (disch := omega) only [if_pos, if_neg]
    rw [e2] at b2
    rw [e3] at b3
    obtain ⟨p1, p2, p3, p4, -⟩ := hW.1 (S.1 (13 + t) - 4) (by omega) (by omega)
    have c2 := (hC.1 (S.1 (13 + t) - 4) (by omega) (by omega)).2.1
    rw [show 3 + (S.1 (13 + t) - 4) = S.1 (13 + t) - 1 by omega] at p3 p4 c2
    have hn := hP.2.1
    by_cases ho : S.1 (S.1 (13 + t) - 1) = 0
    · rw [ho] at c2
      refine ⟨w, S.1 (13 + t) - 4, ?_, ?_, fun _ _ => rfl⟩
      · rw [e_X2_lendRanks_34, show ownC 0 = 4 from rfl] at *
        simp (disch := first | assumption | omega | (simp only [zcat_0, zcat_i, zcat_l, zcat_r, zcat_t]; omega) | simp) only [e_X2_lendRanks_35, e_X2_lendRanks_36, e_X2_lendRanks_39, e_X2_lendRanks_40, e_X2_lendRanks_43, e_X2_lendRanks_44, e_X2_lendRanks_45, e_X2_lendRanks_47, e_X2_lendRanks_48, e_X2_lendRanks_51, e_X2_lendRanks_52, e_X2_lendRanks_53, e_X2_lendRanks_54, e_X2_lendRanks_57, e_X2_lendRanks_59, e_X2_lendRanks_62, e_X2_lendRanks_65, e_X2_lendRanks_66, e_X2_lendRanks_69, e_X2_lendRanks_71, e_X2_lendRanks_72, e_X2_lendRanks_75, e_X2_lendRanks_78, e_X2_lendRanks_79, e_X2_lendRanks_82, e_X2_lendRanks_83, e_X2_lendRanks_86, e_X2_lendRanks_88, e_X2_lendRanks_89, e_X2_lendRanks_90, e_X2_lendRanks_93, e_X2_lendRanks_94, e_X2_lendRanks_97, e_X2_lendRanks_99, e_X2_lendRanks_100, e_X2_lendRanks_101, e_X2_lendRanks_102, e_X2_lendRanks_105, e_X2_lendRanks_106, e_X2_lendRanks_107, e_X2_lendRanks_110, e_X2_lendRanks_111, e_X2_lendRanks_114, zpush_i, zpush_l, zpush_v, Option.bind_some, if_pos, if_neg, b2, b3, c2, c_isPlace1, c_isThread0, w32_id]
      · unfold sL1
        rw [if_neg (by omega)]
        exact hl
    · have ec : ownC (S.1 (S.1 (13 + t) - 1)) = S.1 (S.1 (13 + t) - 1) - 1 := if_neg ho
      rw [ec] at c2
      have l1 := hl (S.1 (S.1 (13 + t) - 1) - 1) (by omega) (by omega)
      have l2 := hl t h0 h4
      refine ⟨zup w (k + 9) (S.1 (S.1 (13 + t) - 1) - 1) (max (l (S.1 (S.1 (13 + t) - 1) - 1)) (l t)), S.1 (13 + t) - 4, ?_, ?_, fun a ha => zup_ne ha⟩
      · rw [e_X2_lendRanks_34]
        simp (disch := first | assumption | omega | (simp only [zcat_0, zcat_i, zcat_l, zcat_r, zcat_t]; omega) | simp) only [e_X2_lendRanks_35, e_X2_lendRanks_36, e_X2_lendRanks_39, e_X2_lendRanks_40, e_X2_lendRanks_43, e_X2_lendRanks_44, e_X2_lendRanks_45, e_X2_lendRanks_47, e_X2_lendRanks_48, e_X2_lendRanks_51, e_X2_lendRanks_52, e_X2_lendRanks_53, e_X2_lendRanks_54, e_X2_lendRanks_57, e_X2_lendRanks_59, e_X2_lendRanks_62, e_X2_lendRanks_65, e_X2_lendRanks_66, e_X2_lendRanks_69, e_X2_lendRanks_71, e_X2_lendRanks_72, e_X2_lendRanks_75, e_X2_lendRanks_78, e_X2_lendRanks_79, e_X2_lendRanks_82, e_X2_lendRanks_83, e_X2_lendRanks_86, e_X2_lendRanks_88, e_X2_lendRanks_89, e_X2_lendRanks_90, e_X2_lendRanks_93, e_X2_lendRanks_94, e_X2_lendRanks_97, e_X2_lendRanks_99, e_X2_lendRanks_100, e_X2_lendRanks_101, e_X2_lendRanks_102, e_X2_lendRanks_105, e_X2_lendRanks_106, e_X2_lendRanks_107, e_X2_lendRanks_110, e_X2_lendRanks_111, e_X2_lendRanks_114, zpush_i, zpush_l, zpush_v, Option.bind_some, if_pos, if_neg, b2, b3, c2, c_isPlace1, c_isThread1, w32_id, l1, l2, zmax_eq]
      · unfold sL1
        rw [if_pos ⟨hx.1, hx.2, ho⟩]
        intro i g0 g4
        by_cases ei : i = S.1 (S.1 (13 + t) - 1) - 1
        · rw [ei, zup_self, su_self]
        · rw [zup_off _ (Or.inr ei), su_ne _ ei]
          exact hl i g0 g4
  · have e2 : howC (S.1 (13 + t)) ≠ 2 := by
      unfold howC
      split
      · omega
      · split
        · omega
        · split <;> omega
    rw [← b2] at e2
    refine ⟨w, w (k + 6) t, ?_, ?_, fun _ _ => rfl⟩
    · rw [e_X2_lendRanks_34]
      simp (disch := first | assumption | omega | (simp only [zcat_0, zcat_i, zcat_l, zcat_r, zcat_t]; omega) | simp) only [e_X2_lendRanks_35, e_X2_lendRanks_36, e_X2_lendRanks_39, e_X2_lendRanks_40, e_X2_lendRanks_43, e_X2_lendRanks_44, e_X2_lendRanks_45, e_X2_lendRanks_47, e_X2_lendRanks_48, e_X2_lendRanks_51, e_X2_lendRanks_52, e_X2_lendRanks_53, e_X2_lendRanks_54, e_X2_lendRanks_57, e_X2_lendRanks_59, e_X2_lendRanks_62, e_X2_lendRanks_65, e_X2_lendRanks_66, e_X2_lendRanks_69, e_X2_lendRanks_71, e_X2_lendRanks_72, e_X2_lendRanks_75, e_X2_lendRanks_78, e_X2_lendRanks_79, e_X2_lendRanks_82, e_X2_lendRanks_83, e_X2_lendRanks_86, e_X2_lendRanks_88, e_X2_lendRanks_89, e_X2_lendRanks_90, e_X2_lendRanks_93, e_X2_lendRanks_94, e_X2_lendRanks_97, e_X2_lendRanks_99, e_X2_lendRanks_100, e_X2_lendRanks_101, e_X2_lendRanks_102, e_X2_lendRanks_105, e_X2_lendRanks_106, e_X2_lendRanks_107, e_X2_lendRanks_110, e_X2_lendRanks_111, e_X2_lendRanks_114, zpush_i, zpush_l, zpush_v, Option.bind_some, if_pos, if_neg, w32_id]
    · unfold sL1
      rw [if_neg (fun q => hx ⟨q.1, q.2.1⟩)]
      exact hl
theorem r_lend_r (hk : isS k) (hj : isT j) {r : Int} (hr : 1 ≤ r ∧ r < 4) {v u : zV} (hC : CS w k S) (hW : WS0 P S) (hP : WP P) (hl : LN w k l) : ∃ w' v', Rn (d + 1) 26 27 [(2, k), (2, j), (0, r), u, v] [] 92 w = Rn (d + 1) 26 27 [(2, k), (2, j), (0, r + 1), (0, 4), (0, v')] [] 92 w' ∧ LN w' k (sL4 S l) ∧ (∀ a, a ≠ k + 9 → w' a = w a) := by
  obtain ⟨w1, v1, q1, r1, s1⟩ := r_lend_b (d := d) (t := 0) (r := r) (v := v) hk hj (by omega) (by omega) hC hW hP hl
  have C1 := hC.ln s1
  obtain ⟨w2, v2, q2, r2, s2⟩ := r_lend_b (d := d) (t := 1) (r := r) (v := (0, v1)) hk hj (by omega) (by omega) C1 hW hP r1
  have C2 := C1.ln s2
  obtain ⟨w3, v3, q3, r3, s3⟩ := r_lend_b (d := d) (t := 2) (r := r) (v := (0, v2)) hk hj (by omega) (by omega) C2 hW hP r2
  have C3 := C2.ln s3
  obtain ⟨w4, v4, q4, r4, s4⟩ := r_lend_b (d := d) (t := 3) (r := r) (v := (0, v3)) hk hj (by omega) (by omega) C3 hW hP r3
  refine ⟨w4, v4, ?_, r4, fun a ha => by rw [s4 a ha, s3 a ha, s2 a ha, s1 a ha]⟩
  rw [e_X2_lendRanks_27]
  simp (disch := first | assumption | omega | (simp only [zcat_0, zcat_i, zcat_l, zcat_r, zcat_t]; omega) | simp) only [e_X2_lendRanks_28, e_X2_lendRanks_29, e_X2_lendRanks_32, e_X2_lendRanks_33, zpush_i, zpush_l, zpush_v, Option.bind_some, if_pos, if_neg]
  rw [q1, show (0 : Int) + 1 = 1 from rfl, q2, show (1 : Int) + 1 = 2 from rfl, q3, show (2 : Int) + 1 = 3 from rfl, q4, show (3 : Int) + 1 = 4 from rfl, e_X2_lendRanks_34]
  simp (disch := first | assumption | omega | (simp only [zcat_0, zcat_i, zcat_l, zcat_r, zcat_t]; omega) | simp) only [e_X2_lendRanks_35, e_X2_lendRanks_36, e_X2_lendRanks_117, e_X2_lendRanks_120, zpush_i, zpush_l, zpush_v, Option.bind_some, if_pos, if_neg, w32_id]
theorem r_lend (hk : isS k) (hj : isT j) (hC : CS w k S) (hT : TO w j P) (hW : WS0 P S) (hP : WP P) : ∃ w', Cl (d + 1) 26 [(2, k), (2, j)] 92 w = some ((9, 0), 92, w') ∧ LN w' k (sLd P S) ∧ (∀ a, a ≠ k + 9 → w' a = w a) := by
  have p0 : ∀ i, w (j + 2) i = P 2 i := fun i => hT 2 (by omega) (by omega) i
  have hne : j + 2 ≠ k + 9 := by omega
  have a0 := r_lend_a (d := d + 1) (w := w) (t := 0) hk hj (by omega) (by omega)
  have a1 := r_lend_a (d := d + 1) (w := zup w (k + 9) 0 (w (j + 2) 0)) (t := 1) hk hj (by omega) (by omega)
  have a2 := r_lend_a (d := d + 1) (w := zup (zup w (k + 9) 0 (w (j + 2) 0)) (k + 9) 1 (w (j + 2) 1)) (t := 2) hk hj (by omega) (by omega)
  have a3 := r_lend_a (d := d + 1) (w := zup (zup (zup w (k + 9) 0 (w (j + 2) 0)) (k + 9) 1 (w (j + 2) 1)) (k + 9) 2 (w (j + 2) 2)) (t := 3) hk hj (by omega) (by omega)
  rw [zup_ne hne] at a1
  rw [zup_ne hne, zup_ne hne] at a2
  rw [zup_ne hne, zup_ne hne, zup_ne hne] at a3
  have hl : LN (zup (zup (zup (zup w (k + 9) 0 (w (j + 2) 0)) (k + 9) 1 (w (j + 2) 1)) (k + 9) 2 (w (j + 2) 2)) (k + 9) 3 (w (j + 2) 3)) k (P 2) := by
    intro i g0 g4
    have : i = 0 ∨ i = 1 ∨ i = 2 ∨ i = 3 := by omega
    rcases this with rfl | rfl | rfl | rfl <;> simp (disch := omega) only [zup_off, zup_self, p0]
  have s0 : ∀ a, a ≠ k + 9 → (zup (zup (zup (zup w (k + 9) 0 (w (j + 2) 0)) (k + 9) 1 (w (j + 2) 1)) (k + 9) 2 (w (j + 2) 2)) (k + 9) 3 (w (j + 2) 3)) a = w a := fun a ha => by
    rw [zup_ne ha, zup_ne ha, zup_ne ha, zup_ne ha]
  generalize zup (zup (zup (zup w (k + 9) 0 (w (j + 2) 0)) (k + 9) 1 (w (j + 2) 1)) (k + 9) 2 (w (j + 2) 2)) (k + 9) 3 (w (j + 2) 3) = wa at a3 hl s0
  have Ca := hC.ln s0
  obtain ⟨w1, v1, q1, r1, s1⟩ := r_lend_r (d := d) (r := 1) (u := (9, 0)) (v := (9, 0)) hk hj (by omega) Ca hW hP hl
  have C1 := Ca.ln s1
  obtain ⟨w2, v2, q2, r2, s2⟩ := r_lend_r (d := d) (r := 2) (u := (0, 4)) (v := (0, v1)) hk hj (by omega) C1 hW hP r1
  have C2 := C1.ln s2
  obtain ⟨w3, v3, q3, r3, s3⟩ := r_lend_r (d := d) (r := 3) (u := (0, 4)) (v := (0, v2)) hk hj (by omega) C2 hW hP r2
  refine ⟨w3, ?_, r3, fun a ha => by rw [s3 a ha, s2 a ha, s1 a ha, s0 a ha]⟩
  show Rn (d + 1) 26 0 [(2, k), (2, j), (9, 0), (9, 0), (9, 0)] [] 92 w = _
  simp (disch := first | assumption | omega | (simp only [zcat_0, zcat_i, zcat_l, zcat_r, zcat_t]; omega) | simp) only [e_X2_lendRanks_0, e_X2_lendRanks_1]
  rw [a0, show (0 : Int) + 1 = 1 from rfl, a1, show (1 : Int) + 1 = 2 from rfl, a2, show (2 : Int) + 1 = 3 from rfl, a3, show (3 : Int) + 1 = 4 from rfl, e_X2_lendRanks_2]
  simp (disch := first | assumption | omega | (simp only [zcat_0, zcat_i, zcat_l, zcat_r, zcat_t]; omega) | simp) only [e_X2_lendRanks_3, e_X2_lendRanks_4, e_X2_lendRanks_25, e_X2_lendRanks_26, zpush_i, zpush_l, zpush_v, Option.bind_some, if_pos, if_neg]
  rw [q1, show (1 : Int) + 1 = 2 from rfl, q2, show (2 : Int) + 1 = 3 from rfl, q3, show (3 : Int) + 1 = 4 from rfl, e_X2_lendRanks_27]
  simp (disch := first | assumption | omega | (simp only [zcat_0, zcat_i, zcat_l, zcat_r, zcat_t]; omega) | simp) only [e_X2_lendRanks_28, e_X2_lendRanks_29, e_X2_lendRanks_123, zpush_i, zpush_l, zpush_v, Option.bind_some, if_pos, if_neg]
end C4
