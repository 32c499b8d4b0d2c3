section C10
variable {d : Nat} {w : zW} {k j t p q : Int} {S : Sc} {P : Pg} {l : Int → Int}
theorem c_isOp1 (hj : isT j) (h0 : 0 ≤ t) (h4 : t < 4) (hT : TO w j P) (hq : 0 ≤ q ∧ q < 5 ∧ q < P 3 t) : Cl (d + 1) 71 [(2, j), (0, t), (0, q)] 92 w = some ((0, 1), 92, w) := by
  show Rn (d + 1) 71 0 [(2, j), (0, t), (0, q)] [] 92 w = _
  obtain ⟨t0, tn, t1, u1, t2, u2, t3, u3, t4, u4, t5, u5, t6, u6⟩ := sTall hj
  have e3 := hT 3 (by omega) (by omega) t
  simp (disch := first | assumption | omega | (simp only [zcat_0, zcat_i, zcat_l, zcat_r, zcat_t]; omega) | simp) only [e_X6_isOperation_0, e_X6_isOperation_1, e_X6_isOperation_4, e_X6_isOperation_7, e_X6_isOperation_8, e_X6_isOperation_11, e_X6_isOperation_12, e_X6_isOperation_13, e_X6_isOperation_16, e_X6_isOperation_17, e_X6_isOperation_18, e_X6_isOperation_21, e_X6_isOperation_22, e_X6_isOperation_23, e_X6_isOperation_26, e_X6_isOperation_27, e_X6_isOperation_30, e_X6_isOperation_31, zpush_i, zpush_l, zpush_v, Option.bind_some, if_pos, if_neg, c_isThread1, e3]
theorem c_isOp0 (hj : isT j) (hT : TO w j P) (hq : ¬ (0 ≤ t ∧ t < 4 ∧ 0 ≤ q ∧ q < 5 ∧ q < P 3 t)) : Cl (d + 1) 71 [(2, j), (0, t), (0, q)] 92 w = some ((0, 0), 92, w) := by
  show Rn (d + 1) 71 0 [(2, j), (0, t), (0, q)] [] 92 w = _
  obtain ⟨t0, tn, t1, u1, t2, u2, t3, u3, t4, u4, t5, u5, t6, u6⟩ := sTall hj
  have e3 := hT 3 (by omega) (by omega) t
  by_cases ht : 0 ≤ t ∧ t < 4
  · by_cases h1 : 0 ≤ q
    · by_cases h2 : q < 5
      · have h3 : P 3 t ≤ q := by omega
        simp (disch := first | assumption | omega | (simp only [zcat_0, zcat_i, zcat_l, zcat_r, zcat_t]; omega) | simp) only [e_X6_isOperation_0, e_X6_isOperation_1, e_X6_isOperation_4, e_X6_isOperation_7, e_X6_isOperation_8, e_X6_isOperation_11, e_X6_isOperation_12, e_X6_isOperation_13, e_X6_isOperation_16, e_X6_isOperation_17, e_X6_isOperation_18, e_X6_isOperation_21, e_X6_isOperation_22, e_X6_isOperation_23, e_X6_isOperation_26, e_X6_isOperation_27, e_X6_isOperation_30, e_X6_isOperation_31, zpush_i, zpush_l, zpush_v, Option.bind_some, if_pos, if_neg, c_isThread1, e3]
      · simp (disch := first | assumption | omega | (simp only [zcat_0, zcat_i, zcat_l, zcat_r, zcat_t]; omega) | simp) only [e_X6_isOperation_0, e_X6_isOperation_1, e_X6_isOperation_4, e_X6_isOperation_7, e_X6_isOperation_8, e_X6_isOperation_11, e_X6_isOperation_12, e_X6_isOperation_13, e_X6_isOperation_16, e_X6_isOperation_17, e_X6_isOperation_18, e_X6_isOperation_21, e_X6_isOperation_22, e_X6_isOperation_23, e_X6_isOperation_26, e_X6_isOperation_27, e_X6_isOperation_30, e_X6_isOperation_31, zpush_i, zpush_l, zpush_v, Option.bind_some, if_pos, if_neg, c_isThread1]
    · simp (disch := first | assumption | omega | (simp only [zcat_0, zcat_i, zcat_l, zcat_r, zcat_t]; omega) | simp) only [e_X6_isOperation_0, e_X6_isOperation_1, e_X6_isOperation_4, e_X6_isOperation_7, e_X6_isOperation_8, e_X6_isOperation_11, e_X6_isOperation_12, e_X6_isOperation_13, e_X6_isOperation_16, e_X6_isOperation_17, e_X6_isOperation_18, e_X6_isOperation_21, e_X6_isOperation_22, e_X6_isOperation_23, e_X6_isOperation_26, e_X6_isOperation_27, e_X6_isOperation_30, e_X6_isOperation_31, zpush_i, zpush_l, zpush_v, Option.bind_some, if_pos, if_neg, c_isThread1]
  · simp (disch := first | assumption | omega | (simp only [zcat_0, zcat_i, zcat_l, zcat_r, zcat_t]; omega) | simp) only [e_X6_isOperation_0, e_X6_isOperation_1, e_X6_isOperation_4, e_X6_isOperation_7, e_X6_isOperation_8, e_X6_isOperation_11, e_X6_isOperation_12, e_X6_isOperation_13, e_X6_isOperation_16, e_X6_isOperation_17, e_X6_isOperation_18, e_X6_isOperation_21, e_X6_isOperation_22, e_X6_isOperation_23, e_X6_isOperation_26, e_X6_isOperation_27, e_X6_isOperation_30, e_X6_isOperation_31, zpush_i, zpush_l, zpush_v, Option.bind_some, if_pos, if_neg, c_isThread0]
theorem c_letter (hj : isT j) (h0 : 0 ≤ t) (h4 : t < 4) (hT : TO w j P) (hq : 0 ≤ q ∧ q < 5 ∧ q < P 3 t) : Cl (d + 2) 68 [(2, j), (0, t), (0, q)] 92 w = some ((0, P 4 (5 * t + q)), 92, w) := by
  show Rn (d + 2) 68 0 [(2, j), (0, t), (0, q)] [] 92 w = _
  obtain ⟨t0, tn, t1, u1, t2, u2, t3, u3, t4, u4, t5, u5, t6, u6⟩ := sTall hj
  have e3 := hT 4 (by omega) (by omega) (5 * t + q)
  have e5 : t * 5 + q = 5 * t + q := by omega
  have ho := c_isOp1 (d := d) hj h0 h4 hT hq
  simp (disch := first | assumption | omega | (simp only [zcat_0, zcat_i, zcat_l, zcat_r, zcat_t]; omega) | simp) only [e_X6_letterOf_0, e_X6_letterOf_1, e_X6_letterOf_2, e_X6_letterOf_3, e_X6_letterOf_6, e_X6_letterOf_9, e_X6_letterOf_10, e_X6_letterOf_13, e_X6_letterOf_14, e_X6_letterOf_15, e_X6_letterOf_16, e_X6_letterOf_17, e_X6_letterOf_18, e_X6_letterOf_19, e_X6_letterOf_22, e_X6_letterOf_23, zpush_i, zpush_l, zpush_v, Option.bind_some, if_pos, if_neg, ho, w32_id, e5, e3]
theorem c_place (hj : isT j) (h0 : 0 ≤ t) (h4 : t < 4) (hT : TO w j P) (hq : 0 ≤ q ∧ q < 5 ∧ q < P 3 t) : Cl (d + 2) 69 [(2, j), (0, t), (0, q)] 92 w = some ((0, P 5 (5 * t + q)), 92, w) := by
  show Rn (d + 2) 69 0 [(2, j), (0, t), (0, q)] [] 92 w = _
  obtain ⟨t0, tn, t1, u1, t2, u2, t3, u3, t4, u4, t5, u5, t6, u6⟩ := sTall hj
  have e3 := hT 5 (by omega) (by omega) (5 * t + q)
  have e5 : t * 5 + q = 5 * t + q := by omega
  have ho := c_isOp1 (d := d) hj h0 h4 hT hq
  simp (disch := first | assumption | omega | (simp only [zcat_0, zcat_i, zcat_l, zcat_r, zcat_t]; omega) | simp) only [e_X6_placeOf_0, e_X6_placeOf_1, e_X6_placeOf_2, e_X6_placeOf_3, e_X6_placeOf_6, e_X6_placeOf_9, e_X6_placeOf_10, e_X6_placeOf_13, e_X6_placeOf_14, e_X6_placeOf_15, e_X6_placeOf_16, e_X6_placeOf_17, e_X6_placeOf_18, e_X6_placeOf_19, e_X6_placeOf_22, e_X6_placeOf_23, zpush_i, zpush_l, zpush_v, Option.bind_some, if_pos, if_neg, ho, w32_id, e5, e3]
theorem c_number (hj : isT j) (h0 : 0 ≤ t) (h4 : t < 4) (hT : TO w j P) (hq : 0 ≤ q ∧ q < 5 ∧ q < P 3 t) : Cl (d + 2) 70 [(2, j), (0, t), (0, q)] 92 w = some ((0, P 6 (5 * t + q)), 92, w) := by
  show Rn (d + 2) 70 0 [(2, j), (0, t), (0, q)] [] 92 w = _
  obtain ⟨t0, tn, t1, u1, t2, u2, t3, u3, t4, u4, t5, u5, t6, u6⟩ := sTall hj
  have e3 := hT 6 (by omega) (by omega) (5 * t + q)
  have e5 : t * 5 + q = 5 * t + q := by omega
  have ho := c_isOp1 (d := d) hj h0 h4 hT hq
  simp (disch := first | assumption | omega | (simp only [zcat_0, zcat_i, zcat_l, zcat_r, zcat_t]; omega) | simp) only [e_X6_numberOf_0, e_X6_numberOf_1, e_X6_numberOf_2, e_X6_numberOf_3, e_X6_numberOf_6, e_X6_numberOf_9, e_X6_numberOf_10, e_X6_numberOf_13, e_X6_numberOf_14, e_X6_numberOf_15, e_X6_numberOf_16, e_X6_numberOf_17, e_X6_numberOf_18, e_X6_numberOf_19, e_X6_numberOf_22, e_X6_numberOf_23, zpush_i, zpush_l, zpush_v, Option.bind_some, if_pos, if_neg, ho, w32_id, e5, e3]
theorem row_len3 (h : WS0 P S) (h0 : 0 ≤ t) (h4 : t < 4) (hn : t ∉ S.2) : S.2.length < 4 := by
  have h1 : (t :: S.2).Nodup := List.nodup_cons.mpr ⟨hn, h.2.2.1⟩
  have h2 : (t :: S.2) ⊆ [0, 1, 2, 3] := by
    intro u hu
    have hu' : 0 ≤ u ∧ u < 4 := by
      rcases List.mem_cons.mp hu with rfl | hu
      · exact ⟨h0, h4⟩
      · have := (h.2.2.2 u).mp hu
        omega
    have : u = 0 ∨ u = 1 ∨ u = 2 ∨ u = 3 := by omega
    rcases this with rfl | rfl | rfl | rfl <;> decide
  have := List.Nodup.length_le_of_subset h1 h2
  simp only [List.length_cons, List.length_nil] at this
  omega
theorem r_perf0 (hk : isS k) (ht : ¬ (0 ≤ t ∧ t < 4)) : Cl (d + 4) 29 [(2, k), (2, j), (0, t)] 92 w = some ((9, 0), 92, w) := by
  show Rn (d + 4) 29 0 [(2, k), (2, j), (0, t), (9, 0), (9, 0), (9, 0)] [] 92 w = _
  simp (disch := first | assumption | omega | (simp only [zcat_0, zcat_i, zcat_l, zcat_r, zcat_t]; omega) | simp) only [e_X2_perform_0, e_X2_perform_1, e_X2_perform_4, e_X2_perform_7, e_X2_perform_8, e_X2_perform_11, e_X2_perform_12, e_X2_perform_13, e_X2_perform_16, zpush_i, zpush_l, zpush_v, Option.bind_some, if_pos, if_neg, c_isThread0]
theorem r_perf1 (hk : isS k) (h0 : 0 ≤ t) (h4 : t < 4) (hC : CS w k S) (hh : S.1 (13 + t) ≠ 0) : Cl (d + 4) 29 [(2, k), (2, j), (0, t)] 92 w = some ((9, 0), 92, w) := by
  show Rn (d + 4) 29 0 [(2, k), (2, j), (0, t), (9, 0), (9, 0), (9, 0)] [] 92 w = _
  have c2 := (hC.2.1 t h0 h4).2.1
  have c2' : w (k + 5) t ≠ 0 := by
    rw [c2]
    unfold howC
    rw [if_neg hh]
    split
    · omega
    · split <;> omega
  obtain ⟨z0, zn, z1, y1, z2, y2, z3, y3, z4, y4, z5, y5, z6, y6, z7, y7, z8, y8, z9, y9⟩ := sSall hk
  simp (disch := first | assumption | omega | (simp only [zcat_0, zcat_i, zcat_l, zcat_r, zcat_t]; omega) | simp) only [e_X2_perform_0, e_X2_perform_1, e_X2_perform_4, e_X2_perform_7, e_X2_perform_8, e_X2_perform_11, e_X2_perform_12, e_X2_perform_13, e_X2_perform_16, zpush_i, zpush_l, zpush_v, Option.bind_some, if_pos, if_neg, c_isThread1]
theorem r_perf_h (hk : isS k) (hj : isT j) (h0 : 0 ≤ t) (h4 : t < 4) (hC : CS w k S) (hT : TO w j P) (hW : WS0 P S) (hP : WP P) (hh : S.1 (13 + t) = 0) : Cl (d + 4) 29 [(2, k), (2, j), (0, t)] 92 w = Rn (d + 4) 29 55 [(2, k), (2, j), (0, t), (0, P 5 (5 * t + S.1 (9 + t))), (0, P 6 (5 * t + S.1 (9 + t))), (0, P 4 (5 * t + S.1 (9 + t)))] [] 92 w := by
  show Rn (d + 4) 29 0 [(2, k), (2, j), (0, t), (9, 0), (9, 0), (9, 0)] [] 92 w = _
  obtain ⟨b1, b2, -, -⟩ := hC.2.1 t h0 h4
  rw [hh] at b2
  have b2' : w (k + 5) t = 0 := b2
  obtain ⟨f1, f2, f3, f4, f5, f6⟩ := hW.2.1 t h0 h4
  have f5' := f5 (by omega)
  obtain ⟨-, -, -, g4, -⟩ := hP.2.2.2.1 t h0 h4
  have hq : 0 ≤ S.1 (9 + t) ∧ S.1 (9 + t) < 5 ∧ S.1 (9 + t) < P 3 t := by omega
  have e1 := c_letter (d := d + 1) hj h0 h4 hT hq
  have e2 := c_place (d := d + 1) hj h0 h4 hT hq
  have e3 := c_number (d := d + 1) hj h0 h4 hT hq
  obtain ⟨z0, zn, z1, y1, z2, y2, z3, y3, z4, y4, z5, y5, z6, y6, z7, y7, z8, y8, z9, y9⟩ := sSall hk
  obtain ⟨t0, tn, t1, u1, t2, u2, t3, u3, t4, u4, t5, u5, t6, u6⟩ := sTall hj
  simp (disch := first | assumption | omega | (simp only [zcat_0, zcat_i, zcat_l, zcat_r, zcat_t]; omega) | simp) only [e_X2_perform_0, e_X2_perform_1, e_X2_perform_4, e_X2_perform_7, e_X2_perform_8, e_X2_perform_11, e_X2_perform_12, e_X2_perform_13, e_X2_perform_16, e_X2_perform_17, e_X2_perform_18, e_X2_perform_19, e_X2_perform_20, e_X2_perform_23, e_X2_perform_24, e_X2_perform_25, e_X2_perform_28, e_X2_perform_29, e_X2_perform_30, e_X2_perform_31, e_X2_perform_32, e_X2_perform_35, e_X2_perform_36, e_X2_perform_37, e_X2_perform_40, e_X2_perform_42, e_X2_perform_43, e_X2_perform_44, e_X2_perform_45, e_X2_perform_48, e_X2_perform_49, e_X2_perform_50, e_X2_perform_53, zpush_i, zpush_l, zpush_v, Option.bind_some, if_pos, if_neg, c_isThread1, b1, b2', e1, e2, e3]
theorem r_perform (hk : isS k) (hj : isT j) (h0 : 0 ≤ t) (h4 : t < 4) (hC : CS w k S) (hT : TO w j P) (hW : WS P S) (hP : WP P) (hh : S.1 (13 + t) = 0) (hf : w32 (w k 10) = w k 10) : ∃ w', Cl (d + 4) 29 [(2, k), (2, j), (0, t)] 92 w = some ((9, 0), 92, w') ∧ CS w' k (sAct P t (S, w k 10)).1 ∧ FR k w w' ∧ w' k 10 = (sAct P t (S, w k 10)).2 := by
  rw [r_perf_h hk hj h0 h4 hC hT hW.1 hP hh]
  obtain ⟨f1, f2, f3, f4, f5, f6⟩ := hW.1.2.1 t h0 h4
  have f5' := f5 (by omega)
  have hn : t ∉ S.2 := fun e => by
    have := (hW.1.2.2.2 t).mp e
    omega
  have hr := row_len3 hW.1 h0 h4 hn
  have hlt : t < P 0 6 := by
    have := (hP.2.2.2.1 t h0 h4).2.2.2.2
    omega
  have hop := hP.2.2.2.2 t (S.1 (9 + t)) h0 h4 f1 f5'
  unfold sAct
  dsimp only
  generalize P 5 (5 * t + S.1 (9 + t)) = p at *
  generalize P 6 (5 * t + S.1 (9 + t)) = v at *
  generalize P 4 (5 * t + S.1 (9 + t)) = c at *
  obtain ⟨z0, zn, z1, y1, z2, y2, z3, y3, z4, y4, z5, y5, z6, y6, z7, y7, z8, y8, z9, y9⟩ := sSall hk
  obtain ⟨t0, tn, t1, u1, t2, u2, t3, u3, t4, u4, t5, u5, t6, u6⟩ := sTall hj
  by_cases hx : c = 120
  · rw [if_pos hx]
    subst hx
    obtain ⟨w1, q1, q2, q3, q4⟩ := r_die (d := d) hk hj h0 h4 hC hT hW.1 hP hh (by omega) hf
    refine ⟨w1, ?_, q2, q3, q4⟩
    simp (disch := first | assumption | omega | (simp only [zcat_0, zcat_i, zcat_l, zcat_r, zcat_t]; omega) | simp) only [e_X2_perform_55, e_X2_perform_57, e_X2_perform_59, e_X2_perform_62, e_X2_perform_63, e_X2_perform_64, e_X2_perform_65, e_X2_perform_68, zpush_i, zpush_l, zpush_v, Option.bind_some, if_pos, if_neg, q1]
  · rw [if_neg hx]
    rcases hop with e | ⟨p0, p2, hop⟩
    · exact absurd e hx
    have pp : 0 ≤ p ∧ p < 3 := by omega
    have hd : Rn (d + 4) 29 55 [(2, k), (2, j), (0, t), (0, p), (0, v), (0, c)] [] 92 w = Rn (d + 4) 29 79 [(2, k), (2, j), (0, t), (0, p), (0, v), (0, c)] [(0, c)] 92 w := by
      simp (disch := first | assumption | omega | (simp only [zcat_0, zcat_i, zcat_l, zcat_r, zcat_t]; omega) | simp) only [e_X2_perform_55, e_X2_perform_57, e_X2_perform_59, e_X2_perform_62, e_X2_perform_63, e_X2_perform_64, e_X2_perform_65, e_X2_perform_68, e_X2_perform_69, e_X2_perform_70, e_X2_perform_73, e_X2_perform_76, e_X2_perform_77, zpush_i, zpush_l, zpush_v, Option.bind_some, if_pos, if_neg, c_isPlace1]
    rw [hd]
    have hc : c = 115 ∨ c = 105 ∨ c = 119 ∨ c = 98 ∨ c = 107 ∨ c = 113 ∨ c = 108 ∨ c = 117 := by omega
    obtain ⟨k1, -, -⟩ := hC.1 p pp.1 pp.2
    obtain ⟨n1, n2, -⟩ := hW.1.1 p pp.1 pp.2
    rcases hc with rfl | rfl | rfl | rfl | rfl | rfl | rfl | rfl
    · obtain ⟨w1, q1, q2, q3, q4⟩ := r_change (d := d + 2) (v := v) hk hj h0 h4 hC hT hW.1 hP hh (by omega) pp (by omega)
      refine ⟨w1, ?_, q2, q3, q4⟩
      simp (disch := first | assumption | omega | (simp only [zcat_0, zcat_i, zcat_l, zcat_r, zcat_t]; omega) | simp) only [e_X2_perform_79_k0, e_X2_perform_79_k1, e_X2_perform_79_k2, e_X2_perform_79_k3, e_X2_perform_79_k4, e_X2_perform_79_k5, e_X2_perform_79_k6, e_X2_perform_79_k7, e_X2_perform_79_k8, e_X2_perform_79_k9, e_X2_perform_79_k10, e_X2_perform_79_k11, e_X2_perform_79_k12, e_X2_perform_79_k13, e_X2_perform_79_k14, e_X2_perform_79_k15, e_X2_perform_79_k16, e_X2_perform_79_k17, e_X2_perform_79_k18, e_X2_perform_79_k19, e_X2_perform_79_k20, e_X2_perform_79_k21, e_X2_perform_79_o, e_X2_perform_180, e_X2_perform_181, e_X2_perform_182, e_X2_perform_183, e_X2_perform_184, e_X2_perform_186, e_X2_perform_189, e_X2_perform_192, e_X2_perform_193, e_X2_perform_194, e_X2_perform_195, e_X2_perform_196, e_X2_perform_197, e_X2_perform_200, e_X2_perform_201, e_X2_perform_202, e_X2_perform_203, e_X2_perform_206, e_X2_perform_207, e_X2_perform_210, e_X2_perform_211, e_X2_perform_212, e_X2_perform_213, e_X2_perform_214, e_X2_perform_217, e_X2_perform_218, e_X2_perform_221, e_X2_perform_224, e_X2_perform_225, e_X2_perform_226, e_X2_perform_227, e_X2_perform_228, e_X2_perform_230, e_X2_perform_233, e_X2_perform_236, e_X2_perform_237, e_X2_perform_238, e_X2_perform_239, e_X2_perform_240, e_X2_perform_242, e_X2_perform_245, e_X2_perform_248, e_X2_perform_249, e_X2_perform_250, e_X2_perform_251, e_X2_perform_252, e_X2_perform_254, e_X2_perform_257, e_X2_perform_260, e_X2_perform_261, e_X2_perform_262, e_X2_perform_263, e_X2_perform_264, e_X2_perform_266, e_X2_perform_269, e_X2_perform_272, e_X2_perform_273, e_X2_perform_274, e_X2_perform_275, e_X2_perform_276, e_X2_perform_279, e_X2_perform_282, e_X2_perform_283, e_X2_perform_284, e_X2_perform_285, e_X2_perform_286, e_X2_perform_289, e_X2_perform_292, zpush_i, zpush_l, zpush_v, Option.bind_some, if_pos, if_neg, q1]
    · obtain ⟨w1, q1, q2, q3, q4⟩ := r_change (d := d + 2) (v := if S.1 p < 3 then S.1 p + 1 else 0) hk hj h0 h4 hC hT hW.1 hP hh (by omega) pp (by split <;> omega)
      refine ⟨w1, ?_, q2, q3, q4⟩
      by_cases hv : S.1 p < 3
      · rw [if_pos hv] at q1
        simp (disch := first | assumption | omega | (simp only [zcat_0, zcat_i, zcat_l, zcat_r, zcat_t]; omega) | simp) only [e_X2_perform_79_k0, e_X2_perform_79_k1, e_X2_perform_79_k2, e_X2_perform_79_k3, e_X2_perform_79_k4, e_X2_perform_79_k5, e_X2_perform_79_k6, e_X2_perform_79_k7, e_X2_perform_79_k8, e_X2_perform_79_k9, e_X2_perform_79_k10, e_X2_perform_79_k11, e_X2_perform_79_k12, e_X2_perform_79_k13, e_X2_perform_79_k14, e_X2_perform_79_k15, e_X2_perform_79_k16, e_X2_perform_79_k17, e_X2_perform_79_k18, e_X2_perform_79_k19, e_X2_perform_79_k20, e_X2_perform_79_k21, e_X2_perform_79_o, e_X2_perform_180, e_X2_perform_181, e_X2_perform_182, e_X2_perform_183, e_X2_perform_184, e_X2_perform_186, e_X2_perform_189, e_X2_perform_192, e_X2_perform_193, e_X2_perform_194, e_X2_perform_195, e_X2_perform_196, e_X2_perform_197, e_X2_perform_200, e_X2_perform_201, e_X2_perform_202, e_X2_perform_203, e_X2_perform_206, e_X2_perform_207, e_X2_perform_210, e_X2_perform_211, e_X2_perform_212, e_X2_perform_213, e_X2_perform_214, e_X2_perform_217, e_X2_perform_218, e_X2_perform_221, e_X2_perform_224, e_X2_perform_225, e_X2_perform_226, e_X2_perform_227, e_X2_perform_228, e_X2_perform_230, e_X2_perform_233, e_X2_perform_236, e_X2_perform_237, e_X2_perform_238, e_X2_perform_239, e_X2_perform_240, e_X2_perform_242, e_X2_perform_245, e_X2_perform_248, e_X2_perform_249, e_X2_perform_250, e_X2_perform_251, e_X2_perform_252, e_X2_perform_254, e_X2_perform_257, e_X2_perform_260, e_X2_perform_261, e_X2_perform_262, e_X2_perform_263, e_X2_perform_264, e_X2_perform_266, e_X2_perform_269, e_X2_perform_272, e_X2_perform_273, e_X2_perform_274, e_X2_perform_275, e_X2_perform_276, e_X2_perform_279, e_X2_perform_282, e_X2_perform_283, e_X2_perform_284, e_X2_perform_285, e_X2_perform_286, e_X2_perform_289, e_X2_perform_292, zpush_i, zpush_l, zpush_v, Option.bind_some, if_pos, if_neg, q1, k1, w32_id]
      · rw [if_neg hv] at q1
        simp (disch := first | assumption | omega | (simp only [zcat_0, zcat_i, zcat_l, zcat_r, zcat_t]; omega) | simp) only [e_X2_perform_79_k0, e_X2_perform_79_k1, e_X2_perform_79_k2, e_X2_perform_79_k3, e_X2_perform_79_k4, e_X2_perform_79_k5, e_X2_perform_79_k6, e_X2_perform_79_k7, e_X2_perform_79_k8, e_X2_perform_79_k9, e_X2_perform_79_k10, e_X2_perform_79_k11, e_X2_perform_79_k12, e_X2_perform_79_k13, e_X2_perform_79_k14, e_X2_perform_79_k15, e_X2_perform_79_k16, e_X2_perform_79_k17, e_X2_perform_79_k18, e_X2_perform_79_k19, e_X2_perform_79_k20, e_X2_perform_79_k21, e_X2_perform_79_o, e_X2_perform_180, e_X2_perform_181, e_X2_perform_182, e_X2_perform_183, e_X2_perform_184, e_X2_perform_186, e_X2_perform_189, e_X2_perform_192, e_X2_perform_193, e_X2_perform_194, e_X2_perform_195, e_X2_perform_196, e_X2_perform_197, e_X2_perform_200, e_X2_perform_201, e_X2_perform_202, e_X2_perform_203, e_X2_perform_206, e_X2_perform_207, e_X2_perform_210, e_X2_perform_211, e_X2_perform_212, e_X2_perform_213, e_X2_perform_214, e_X2_perform_217, e_X2_perform_218, e_X2_perform_221, e_X2_perform_224, e_X2_perform_225, e_X2_perform_226, e_X2_perform_227, e_X2_perform_228, e_X2_perform_230, e_X2_perform_233, e_X2_perform_236, e_X2_perform_237, e_X2_perform_238, e_X2_perform_239, e_X2_perform_240, e_X2_perform_242, e_X2_perform_245, e_X2_perform_248, e_X2_perform_249, e_X2_perform_250, e_X2_perform_251, e_X2_perform_252, e_X2_perform_254, e_X2_perform_257, e_X2_perform_260, e_X2_perform_261, e_X2_perform_262, e_X2_perform_263, e_X2_perform_264, e_X2_perform_266, e_X2_perform_269, e_X2_perform_272, e_X2_perform_273, e_X2_perform_274, e_X2_perform_275, e_X2_perform_276, e_X2_perform_279, e_X2_perform_282, e_X2_perform_283, e_X2_perform_284, e_X2_perform_285, e_X2_perform_286, e_X2_perform_289, e_X2_perform_292, zpush_i, zpush_l, zpush_v, Option.bind_some, if_pos, if_neg, q1, k1]
    · obtain ⟨w1, q1, q2, q3, q4⟩ := r_waitA (d := d + 2) (v := v) hk hj h0 h4 hC hT hW.1 hP hh (by omega) pp hr
      refine ⟨w1, ?_, ?_, q3, ?_⟩
      · simp (disch := first | assumption | omega | (simp only [zcat_0, zcat_i, zcat_l, zcat_r, zcat_t]; omega) | simp) only [e_X2_perform_79_k0, e_X2_perform_79_k1, e_X2_perform_79_k2, e_X2_perform_79_k3, e_X2_perform_79_k4, e_X2_perform_79_k5, e_X2_perform_79_k6, e_X2_perform_79_k7, e_X2_perform_79_k8, e_X2_perform_79_k9, e_X2_perform_79_k10, e_X2_perform_79_k11, e_X2_perform_79_k12, e_X2_perform_79_k13, e_X2_perform_79_k14, e_X2_perform_79_k15, e_X2_perform_79_k16, e_X2_perform_79_k17, e_X2_perform_79_k18, e_X2_perform_79_k19, e_X2_perform_79_k20, e_X2_perform_79_k21, e_X2_perform_79_o, e_X2_perform_180, e_X2_perform_181, e_X2_perform_182, e_X2_perform_183, e_X2_perform_184, e_X2_perform_186, e_X2_perform_189, e_X2_perform_192, e_X2_perform_193, e_X2_perform_194, e_X2_perform_195, e_X2_perform_196, e_X2_perform_197, e_X2_perform_200, e_X2_perform_201, e_X2_perform_202, e_X2_perform_203, e_X2_perform_206, e_X2_perform_207, e_X2_perform_210, e_X2_perform_211, e_X2_perform_212, e_X2_perform_213, e_X2_perform_214, e_X2_perform_217, e_X2_perform_218, e_X2_perform_221, e_X2_perform_224, e_X2_perform_225, e_X2_perform_226, e_X2_perform_227, e_X2_perform_228, e_X2_perform_230, e_X2_perform_233, e_X2_perform_236, e_X2_perform_237, e_X2_perform_238, e_X2_perform_239, e_X2_perform_240, e_X2_perform_242, e_X2_perform_245, e_X2_perform_248, e_X2_perform_249, e_X2_perform_250, e_X2_perform_251, e_X2_perform_252, e_X2_perform_254, e_X2_perform_257, e_X2_perform_260, e_X2_perform_261, e_X2_perform_262, e_X2_perform_263, e_X2_perform_264, e_X2_perform_266, e_X2_perform_269, e_X2_perform_272, e_X2_perform_273, e_X2_perform_274, e_X2_perform_275, e_X2_perform_276, e_X2_perform_279, e_X2_perform_282, e_X2_perform_283, e_X2_perform_284, e_X2_perform_285, e_X2_perform_286, e_X2_perform_289, e_X2_perform_292, zpush_i, zpush_l, zpush_v, Option.bind_some, if_pos, if_neg, q1]
      · by_cases e : S.1 p = v
        · simp (disch := omega) only [if_pos, if_neg] at q2 ⊢
          exact q2
        · simp (disch := omega) only [if_pos, if_neg] at q2 ⊢
          exact q2
      · by_cases e : S.1 p = v
        · simp (disch := omega) only [if_pos, if_neg]
          exact q4
        · simp (disch := omega) only [if_pos, if_neg]
          exact q4
    · obtain ⟨w1, q1, q2, q3, q4⟩ := r_waitB (d := d + 2) (v := v) hk hj h0 h4 hC hT hW.1 hP hh pp hr
      refine ⟨w1, ?_, ?_, q3, ?_⟩
      · simp (disch := first | assumption | omega | (simp only [zcat_0, zcat_i, zcat_l, zcat_r, zcat_t]; omega) | simp) only [e_X2_perform_79_k0, e_X2_perform_79_k1, e_X2_perform_79_k2, e_X2_perform_79_k3, e_X2_perform_79_k4, e_X2_perform_79_k5, e_X2_perform_79_k6, e_X2_perform_79_k7, e_X2_perform_79_k8, e_X2_perform_79_k9, e_X2_perform_79_k10, e_X2_perform_79_k11, e_X2_perform_79_k12, e_X2_perform_79_k13, e_X2_perform_79_k14, e_X2_perform_79_k15, e_X2_perform_79_k16, e_X2_perform_79_k17, e_X2_perform_79_k18, e_X2_perform_79_k19, e_X2_perform_79_k20, e_X2_perform_79_k21, e_X2_perform_79_o, e_X2_perform_180, e_X2_perform_181, e_X2_perform_182, e_X2_perform_183, e_X2_perform_184, e_X2_perform_186, e_X2_perform_189, e_X2_perform_192, e_X2_perform_193, e_X2_perform_194, e_X2_perform_195, e_X2_perform_196, e_X2_perform_197, e_X2_perform_200, e_X2_perform_201, e_X2_perform_202, e_X2_perform_203, e_X2_perform_206, e_X2_perform_207, e_X2_perform_210, e_X2_perform_211, e_X2_perform_212, e_X2_perform_213, e_X2_perform_214, e_X2_perform_217, e_X2_perform_218, e_X2_perform_221, e_X2_perform_224, e_X2_perform_225, e_X2_perform_226, e_X2_perform_227, e_X2_perform_228, e_X2_perform_230, e_X2_perform_233, e_X2_perform_236, e_X2_perform_237, e_X2_perform_238, e_X2_perform_239, e_X2_perform_240, e_X2_perform_242, e_X2_perform_245, e_X2_perform_248, e_X2_perform_249, e_X2_perform_250, e_X2_perform_251, e_X2_perform_252, e_X2_perform_254, e_X2_perform_257, e_X2_perform_260, e_X2_perform_261, e_X2_perform_262, e_X2_perform_263, e_X2_perform_264, e_X2_perform_266, e_X2_perform_269, e_X2_perform_272, e_X2_perform_273, e_X2_perform_274, e_X2_perform_275, e_X2_perform_276, e_X2_perform_279, e_X2_perform_282, e_X2_perform_283, e_X2_perform_284, e_X2_perform_285, e_X2_perform_286, e_X2_perform_289, e_X2_perform_292, zpush_i, zpush_l, zpush_v, Option.bind_some, if_pos, if_neg, q1]
      · by_cases e1 : S.1 (17 + t) = 1
        · simp (disch := omega) only [if_pos, if_neg] at q2 ⊢
          exact q2
        · by_cases e : S.1 p = v
          · simp (disch := omega) only [if_pos, if_neg] at q2 ⊢
            exact q2
          · simp (disch := omega) only [if_pos, if_neg] at q2 ⊢
            exact q2
      · by_cases e1 : S.1 (17 + t) = 1
        · simp (disch := omega) only [if_pos, if_neg]
          exact q4
        · by_cases e : S.1 p = v
          · simp (disch := omega) only [if_pos, if_neg]
            exact q4
          · simp (disch := omega) only [if_pos, if_neg]
            exact q4
    · obtain ⟨w1, q1, q2, q3, q4⟩ := r_wake (d := d) (N := v) hk hj h0 h4 hC hT hW.1 hP hh (by omega) pp (by omega)
      refine ⟨w1, ?_, q2, q3, q4⟩
      simp (disch := first | assumption | omega | (simp only [zcat_0, zcat_i, zcat_l, zcat_r, zcat_t]; omega) | simp) only [e_X2_perform_79_k0, e_X2_perform_79_k1, e_X2_perform_79_k2, e_X2_perform_79_k3, e_X2_perform_79_k4, e_X2_perform_79_k5, e_X2_perform_79_k6, e_X2_perform_79_k7, e_X2_perform_79_k8, e_X2_perform_79_k9, e_X2_perform_79_k10, e_X2_perform_79_k11, e_X2_perform_79_k12, e_X2_perform_79_k13, e_X2_perform_79_k14, e_X2_perform_79_k15, e_X2_perform_79_k16, e_X2_perform_79_k17, e_X2_perform_79_k18, e_X2_perform_79_k19, e_X2_perform_79_k20, e_X2_perform_79_k21, e_X2_perform_79_o, e_X2_perform_180, e_X2_perform_181, e_X2_perform_182, e_X2_perform_183, e_X2_perform_184, e_X2_perform_186, e_X2_perform_189, e_X2_perform_192, e_X2_perform_193, e_X2_perform_194, e_X2_perform_195, e_X2_perform_196, e_X2_perform_197, e_X2_perform_200, e_X2_perform_201, e_X2_perform_202, e_X2_perform_203, e_X2_perform_206, e_X2_perform_207, e_X2_perform_210, e_X2_perform_211, e_X2_perform_212, e_X2_perform_213, e_X2_perform_214, e_X2_perform_217, e_X2_perform_218, e_X2_perform_221, e_X2_perform_224, e_X2_perform_225, e_X2_perform_226, e_X2_perform_227, e_X2_perform_228, e_X2_perform_230, e_X2_perform_233, e_X2_perform_236, e_X2_perform_237, e_X2_perform_238, e_X2_perform_239, e_X2_perform_240, e_X2_perform_242, e_X2_perform_245, e_X2_perform_248, e_X2_perform_249, e_X2_perform_250, e_X2_perform_251, e_X2_perform_252, e_X2_perform_254, e_X2_perform_257, e_X2_perform_260, e_X2_perform_261, e_X2_perform_262, e_X2_perform_263, e_X2_perform_264, e_X2_perform_266, e_X2_perform_269, e_X2_perform_272, e_X2_perform_273, e_X2_perform_274, e_X2_perform_275, e_X2_perform_276, e_X2_perform_279, e_X2_perform_282, e_X2_perform_283, e_X2_perform_284, e_X2_perform_285, e_X2_perform_286, e_X2_perform_289, e_X2_perform_292, zpush_i, zpush_l, zpush_v, Option.bind_some, if_pos, if_neg, q1]
    · obtain ⟨w1, q1, q2, q3, q4⟩ := r_move (d := d) (q := v) hk hj h0 h4 hC hT hW.1 hP hh (by omega) pp (by omega)
      refine ⟨w1, ?_, q2, q3, q4⟩
      simp (disch := first | assumption | omega | (simp only [zcat_0, zcat_i, zcat_l, zcat_r, zcat_t]; omega) | simp) only [e_X2_perform_79_k0, e_X2_perform_79_k1, e_X2_perform_79_k2, e_X2_perform_79_k3, e_X2_perform_79_k4, e_X2_perform_79_k5, e_X2_perform_79_k6, e_X2_perform_79_k7, e_X2_perform_79_k8, e_X2_perform_79_k9, e_X2_perform_79_k10, e_X2_perform_79_k11, e_X2_perform_79_k12, e_X2_perform_79_k13, e_X2_perform_79_k14, e_X2_perform_79_k15, e_X2_perform_79_k16, e_X2_perform_79_k17, e_X2_perform_79_k18, e_X2_perform_79_k19, e_X2_perform_79_k20, e_X2_perform_79_k21, e_X2_perform_79_o, e_X2_perform_180, e_X2_perform_181, e_X2_perform_182, e_X2_perform_183, e_X2_perform_184, e_X2_perform_186, e_X2_perform_189, e_X2_perform_192, e_X2_perform_193, e_X2_perform_194, e_X2_perform_195, e_X2_perform_196, e_X2_perform_197, e_X2_perform_200, e_X2_perform_201, e_X2_perform_202, e_X2_perform_203, e_X2_perform_206, e_X2_perform_207, e_X2_perform_210, e_X2_perform_211, e_X2_perform_212, e_X2_perform_213, e_X2_perform_214, e_X2_perform_217, e_X2_perform_218, e_X2_perform_221, e_X2_perform_224, e_X2_perform_225, e_X2_perform_226, e_X2_perform_227, e_X2_perform_228, e_X2_perform_230, e_X2_perform_233, e_X2_perform_236, e_X2_perform_237, e_X2_perform_238, e_X2_perform_239, e_X2_perform_240, e_X2_perform_242, e_X2_perform_245, e_X2_perform_248, e_X2_perform_249, e_X2_perform_250, e_X2_perform_251, e_X2_perform_252, e_X2_perform_254, e_X2_perform_257, e_X2_perform_260, e_X2_perform_261, e_X2_perform_262, e_X2_perform_263, e_X2_perform_264, e_X2_perform_266, e_X2_perform_269, e_X2_perform_272, e_X2_perform_273, e_X2_perform_274, e_X2_perform_275, e_X2_perform_276, e_X2_perform_279, e_X2_perform_282, e_X2_perform_283, e_X2_perform_284, e_X2_perform_285, e_X2_perform_286, e_X2_perform_289, e_X2_perform_292, zpush_i, zpush_l, zpush_v, Option.bind_some, if_pos, if_neg, q1]
    · obtain ⟨w1, q1, q2, q3, q4⟩ := r_lock (d := d) hk hj h0 h4 hC hT hW.1 hP hh (by omega) pp hr hlt hf
      refine ⟨w1, ?_, q2, q3, q4⟩
      simp (disch := first | assumption | omega | (simp only [zcat_0, zcat_i, zcat_l, zcat_r, zcat_t]; omega) | simp) only [e_X2_perform_79_k0, e_X2_perform_79_k1, e_X2_perform_79_k2, e_X2_perform_79_k3, e_X2_perform_79_k4, e_X2_perform_79_k5, e_X2_perform_79_k6, e_X2_perform_79_k7, e_X2_perform_79_k8, e_X2_perform_79_k9, e_X2_perform_79_k10, e_X2_perform_79_k11, e_X2_perform_79_k12, e_X2_perform_79_k13, e_X2_perform_79_k14, e_X2_perform_79_k15, e_X2_perform_79_k16, e_X2_perform_79_k17, e_X2_perform_79_k18, e_X2_perform_79_k19, e_X2_perform_79_k20, e_X2_perform_79_k21, e_X2_perform_79_o, e_X2_perform_180, e_X2_perform_181, e_X2_perform_182, e_X2_perform_183, e_X2_perform_184, e_X2_perform_186, e_X2_perform_189, e_X2_perform_192, e_X2_perform_193, e_X2_perform_194, e_X2_perform_195, e_X2_perform_196, e_X2_perform_197, e_X2_perform_200, e_X2_perform_201, e_X2_perform_202, e_X2_perform_203, e_X2_perform_206, e_X2_perform_207, e_X2_perform_210, e_X2_perform_211, e_X2_perform_212, e_X2_perform_213, e_X2_perform_214, e_X2_perform_217, e_X2_perform_218, e_X2_perform_221, e_X2_perform_224, e_X2_perform_225, e_X2_perform_226, e_X2_perform_227, e_X2_perform_228, e_X2_perform_230, e_X2_perform_233, e_X2_perform_236, e_X2_perform_237, e_X2_perform_238, e_X2_perform_239, e_X2_perform_240, e_X2_perform_242, e_X2_perform_245, e_X2_perform_248, e_X2_perform_249, e_X2_perform_250, e_X2_perform_251, e_X2_perform_252, e_X2_perform_254, e_X2_perform_257, e_X2_perform_260, e_X2_perform_261, e_X2_perform_262, e_X2_perform_263, e_X2_perform_264, e_X2_perform_266, e_X2_perform_269, e_X2_perform_272, e_X2_perform_273, e_X2_perform_274, e_X2_perform_275, e_X2_perform_276, e_X2_perform_279, e_X2_perform_282, e_X2_perform_283, e_X2_perform_284, e_X2_perform_285, e_X2_perform_286, e_X2_perform_289, e_X2_perform_292, zpush_i, zpush_l, zpush_v, Option.bind_some, if_pos, if_neg, q1]
    · obtain ⟨w1, q1, q2, q3, q4⟩ := r_unlock (d := d) hk hj h0 h4 hC hT hW hP hh (by omega) pp hf
      refine ⟨w1, ?_, ?_, q3, ?_⟩
      · simp (disch := first | assumption | omega | (simp only [zcat_0, zcat_i, zcat_l, zcat_r, zcat_t]; omega) | simp) only [e_X2_perform_79_k0, e_X2_perform_79_k1, e_X2_perform_79_k2, e_X2_perform_79_k3, e_X2_perform_79_k4, e_X2_perform_79_k5, e_X2_perform_79_k6, e_X2_perform_79_k7, e_X2_perform_79_k8, e_X2_perform_79_k9, e_X2_perform_79_k10, e_X2_perform_79_k11, e_X2_perform_79_k12, e_X2_perform_79_k13, e_X2_perform_79_k14, e_X2_perform_79_k15, e_X2_perform_79_k16, e_X2_perform_79_k17, e_X2_perform_79_k18, e_X2_perform_79_k19, e_X2_perform_79_k20, e_X2_perform_79_k21, e_X2_perform_79_o, e_X2_perform_180, e_X2_perform_181, e_X2_perform_182, e_X2_perform_183, e_X2_perform_184, e_X2_perform_186, e_X2_perform_189, e_X2_perform_192, e_X2_perform_193, e_X2_perform_194, e_X2_perform_195, e_X2_perform_196, e_X2_perform_197, e_X2_perform_200, e_X2_perform_201, e_X2_perform_202, e_X2_perform_203, e_X2_perform_206, e_X2_perform_207, e_X2_perform_210, e_X2_perform_211, e_X2_perform_212, e_X2_perform_213, e_X2_perform_214, e_X2_perform_217, e_X2_perform_218, e_X2_perform_221, e_X2_perform_224, e_X2_perform_225, e_X2_perform_226, e_X2_perform_227, e_X2_perform_228, e_X2_perform_230, e_X2_perform_233, e_X2_perform_236, e_X2_perform_237, e_X2_perform_238, e_X2_perform_239, e_X2_perform_240, e_X2_perform_242, e_X2_perform_245, e_X2_perform_248, e_X2_perform_249, e_X2_perform_250, e_X2_perform_251, e_X2_perform_252, e_X2_perform_254, e_X2_perform_257, e_X2_perform_260, e_X2_perform_261, e_X2_perform_262, e_X2_perform_263, e_X2_perform_264, e_X2_perform_266, e_X2_perform_269, e_X2_perform_272, e_X2_perform_273, e_X2_perform_274, e_X2_perform_275, e_X2_perform_276, e_X2_perform_279, e_X2_perform_282, e_X2_perform_283, e_X2_perform_284, e_X2_perform_285, e_X2_perform_286, e_X2_perform_289, e_X2_perform_292, zpush_i, zpush_l, zpush_v, Option.bind_some, if_pos, if_neg, q1]
      · by_cases e : S.1 (3 + p) = t + 1
        · simp (disch := omega) only [if_pos, if_neg] at q2 ⊢
          exact q2
        · simp (disch := omega) only [if_pos, if_neg] at q2 ⊢
          exact q2
      · by_cases e : S.1 (3 + p) = t + 1
        · simp (disch := omega) only [if_pos, if_neg]
          exact q4
        · simp (disch := omega) only [if_pos, if_neg]
          exact q4
end C10
