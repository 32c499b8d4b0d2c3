section C1
variable {d : Nat} {w : zW} {k j t p : Int}
theorem c_isThread1 (h0 : 0 ≤ t) (h4 : t < 4) : Cl d 93 [(0, t)] 92 w = some ((0, 1), 92, w) := by
  show Rn d 93 0 [(0, t)] [] 92 w = _
  simp (disch := first | assumption | omega | (simp only [zcat_0, zcat_i, zcat_l, zcat_r, zcat_t]; omega) | simp) only [e_X7_isThread_0, e_X7_isThread_1, e_X7_isThread_4, e_X7_isThread_5, e_X7_isThread_6, e_X7_isThread_9, e_X7_isThread_10, e_X7_isThread_13, e_X7_isThread_14, zpush_i, zpush_l, zpush_v, Option.bind_some, if_pos, if_neg]
theorem c_isThread0 (h : ¬ (0 ≤ t ∧ t < 4)) : Cl d 93 [(0, t)] 92 w = some ((0, 0), 92, w) := by
  show Rn d 93 0 [(0, t)] [] 92 w = _
  by_cases h1 : t < 0 <;> simp (disch := first | assumption | omega | (simp only [zcat_0, zcat_i, zcat_l, zcat_r, zcat_t]; omega) | simp) only [e_X7_isThread_0, e_X7_isThread_1, e_X7_isThread_4, e_X7_isThread_5, e_X7_isThread_6, e_X7_isThread_9, e_X7_isThread_10, e_X7_isThread_13, e_X7_isThread_14, zpush_i, zpush_l, zpush_v, Option.bind_some, if_pos, if_neg]
theorem c_isPlace1 (h0 : 0 ≤ t) (h4 : t < 3) : Cl d 92 [(0, t)] 92 w = some ((0, 1), 92, w) := by
  show Rn d 92 0 [(0, t)] [] 92 w = _
  simp (disch := first | assumption | omega | (simp only [zcat_0, zcat_i, zcat_l, zcat_r, zcat_t]; omega) | simp) only [e_X7_isPlace_0, e_X7_isPlace_1, e_X7_isPlace_4, e_X7_isPlace_5, e_X7_isPlace_6, e_X7_isPlace_9, e_X7_isPlace_10, e_X7_isPlace_13, e_X7_isPlace_14, zpush_i, zpush_l, zpush_v, Option.bind_some, if_pos, if_neg]
theorem c_isPlace0 (h : ¬ (0 ≤ t ∧ t < 3)) : Cl d 92 [(0, t)] 92 w = some ((0, 0), 92, w) := by
  show Rn d 92 0 [(0, t)] [] 92 w = _
  by_cases h1 : t < 0 <;> simp (disch := first | assumption | omega | (simp only [zcat_0, zcat_i, zcat_l, zcat_r, zcat_t]; omega) | simp) only [e_X7_isPlace_0, e_X7_isPlace_1, e_X7_isPlace_4, e_X7_isPlace_5, e_X7_isPlace_6, e_X7_isPlace_9, e_X7_isPlace_10, e_X7_isPlace_13, e_X7_isPlace_14, zpush_i, zpush_l, zpush_v, Option.bind_some, if_pos, if_neg]
theorem c_goOn (hk : isS k) (hj : isT j) (h0 : 0 ≤ t) (h4 : t < 4) : Cl d 44 [(2, k), (2, j), (0, t)] 92 w = some ((9, 0), 92, zup (zup w (k + 4) t (w32 (w (k + 4) t + 1))) (k + 5) t (if w (j + 3) t ≤ w32 (w (k + 4) t + 1) then 3 else 0)) := by
  show Rn d 44 0 [(2, k), (2, j), (0, t)] [] 92 w = _
  obtain ⟨z0, zn, z1, y1, z2, y2, z3, y3, z4, y4, z5, y5, z6, y6, z7, y7, z8, y8, z9, y9⟩ := sSall hk
  obtain ⟨t0, tn, t1, u1, t2, u2, t3, u3, t4, u4, t5, u5, t6, u6⟩ := sTall hj
  by_cases h : w (j + 3) t ≤ w32 (w (k + 4) t + 1) <;> simp (disch := first | assumption | omega | (simp only [zcat_0, zcat_i, zcat_l, zcat_r, zcat_t]; omega) | simp) only [e_X2_goOn_0, e_X2_goOn_1, e_X2_goOn_4, e_X2_goOn_5, e_X2_goOn_6, e_X2_goOn_7, e_X2_goOn_8, e_X2_goOn_9, e_X2_goOn_10, e_X2_goOn_11, e_X2_goOn_14, e_X2_goOn_15, e_X2_goOn_16, e_X2_goOn_19, e_X2_goOn_20, e_X2_goOn_21, e_X2_goOn_22, e_X2_goOn_25, e_X2_goOn_26, e_X2_goOn_27, e_X2_goOn_30, e_X2_goOn_31, e_X2_goOn_34, e_X2_goOn_35, e_X2_goOn_36, zpush_i, zpush_l, zpush_v, Option.bind_some, if_pos, if_neg, zup_self, zup_off]
theorem c_join (hk : isS k) (h0 : 0 ≤ t) (h4 : t < 4) {h : Int} (hq : 0 ≤ w k 9 ∧ w k 9 < 4) : Cl d 42 [(2, k), (0, t), (0, h), (0, p)] 92 w = some ((9, 0), 92, zup (zup (zup (zup (zup w (k + 7) t 0) (k + 5) t h) (k + 6) t p) (k + 8) (w k 9) t) k 9 (w k 9 + 1)) := by
  show Rn d 42 0 [(2, k), (0, t), (0, h), (0, p)] [] 92 w = _
  obtain ⟨z0, zn, z1, y1, z2, y2, z3, y3, z4, y4, z5, y5, z6, y6, z7, y7, z8, y8, z9, y9⟩ := sSall hk
  simp (disch := first | assumption | omega | (simp only [zcat_0, zcat_i, zcat_l, zcat_r, zcat_t]; omega) | simp) only [e_X2_join_0, e_X2_join_1, e_X2_join_4, e_X2_join_5, e_X2_join_6, e_X2_join_7, e_X2_join_8, e_X2_join_11, e_X2_join_12, e_X2_join_13, e_X2_join_14, e_X2_join_15, e_X2_join_18, e_X2_join_19, e_X2_join_20, e_X2_join_21, e_X2_join_22, e_X2_join_25, e_X2_join_28, e_X2_join_29, e_X2_join_32, e_X2_join_33, e_X2_join_36, e_X2_join_37, e_X2_join_40, e_X2_join_41, e_X2_join_44, e_X2_join_45, e_X2_join_46, e_X2_join_47, e_X2_join_48, e_X2_join_51, e_X2_join_52, e_X2_join_53, e_X2_join_56, zpush_i, zpush_l, zpush_v, Option.bind_some, if_pos, if_neg, zup_self, zup_off, w32_id]
theorem c_take (hk : isS k) (h0 : 0 ≤ p) (h4 : p < 3) : Cl d 40 [(2, k), (0, t), (0, p)] 92 w = some ((9, 0), 92, zup (if w (k + 3) p = 1 then zup (zup w (k + 2) p t) k 10 (w32 (w k 10 + 1)) else zup w (k + 2) p t) (k + 3) p 0) := by
  show Rn d 40 0 [(2, k), (0, t), (0, p)] [] 92 w = _
  obtain ⟨z0, zn, z1, y1, z2, y2, z3, y3, z4, y4, z5, y5, z6, y6, z7, y7, z8, y8, z9, y9⟩ := sSall hk
  by_cases h : w (k + 3) p = 1 <;> simp (disch := first | assumption | omega | (simp only [zcat_0, zcat_i, zcat_l, zcat_r, zcat_t]; omega) | simp) only [e_X2_take_0, e_X2_take_1, e_X2_take_4, e_X2_take_5, e_X2_take_6, e_X2_take_7, e_X2_take_8, e_X2_take_11, e_X2_take_12, e_X2_take_13, e_X2_take_14, e_X2_take_17, e_X2_take_18, e_X2_take_19, e_X2_take_22, e_X2_take_23, e_X2_take_24, e_X2_take_27, e_X2_take_28, e_X2_take_31, e_X2_take_32, e_X2_take_33, e_X2_take_34, zpush_i, zpush_l, zpush_v, Option.bind_some, if_pos, if_neg, zup_self, zup_off]
end C1
