section C6
variable {d : Nat} {w : zW} {k j t p q : Int} {S : Sc} {P : Pg} {l : Int → Int}
theorem r_await (hk : isS k) (h0 : 0 ≤ t) (h4 : t < 4) (hC : CS w k S) (hW : WS0 P S) : Cl (d + 1) 27 [(2, k), (0, t)] 92 w = some ((0, sAw S t), 92, w) := by
  show Rn (d + 1) 27 0 [(2, k), (0, t)] [] 92 w = _
  obtain ⟨z0, zn, z1, y1, z2, y2, z3, y3, z4, y4, z5, y5, z6, y6, z7, y7, z8, y8, z9, y9⟩ := sSall hk
  obtain ⟨f1, f2, f3, f4, f5, f6⟩ := hW.2.1 t h0 h4
  obtain ⟨-, b2, b3, -⟩ := hC.2.1 t h0 h4
  unfold sAw
  by_cases hx : 4 ≤ S.1 (13 + t) ∧ S.1 (13 + t) ≤ 6
  · have e2 : howC (S.1 (13 + t)) = 2 := by unfold howC; simp (disch := omega) only [if_pos, if_neg]
    have e3 : whC (S.1 (13 + t)) = S.1 (13 + t) - 4 := by unfold whC; simp (disch := omega) only [if_pos, if_neg]
    rw [e2] at b2
    rw [e3] at b3
    have c2 := (hC.1 (S.1 (13 + t) - 4) (by omega) (by omega)).2.1
    rw [show 3 + (S.1 (13 + t) - 4) = S.1 (13 + t) - 1 by omega] at c2
    unfold ownC at c2
    by_cases ho : S.1 (S.1 (13 + t) - 1) = 0
    · rw [if_pos ho] at c2
      rw [if_neg (by omega)]
      simp (disch := first | assumption | omega | (simp only [zcat_0, zcat_i, zcat_l, zcat_r, zcat_t]; omega) | simp) only [e_X2_awaited_0, e_X2_awaited_1, e_X2_awaited_4, e_X2_awaited_7, e_X2_awaited_8, e_X2_awaited_11, e_X2_awaited_12, e_X2_awaited_13, e_X2_awaited_14, e_X2_awaited_17, e_X2_awaited_18, e_X2_awaited_21, e_X2_awaited_22, e_X2_awaited_23, e_X2_awaited_26, e_X2_awaited_29, e_X2_awaited_30, e_X2_awaited_31, e_X2_awaited_32, e_X2_awaited_35, e_X2_awaited_36, e_X2_awaited_39, e_X2_awaited_40, e_X2_awaited_41, e_X2_awaited_42, zpush_i, zpush_l, zpush_v, Option.bind_some, if_pos, if_neg, b2, b3, c2, c_isPlace1, c_isThread1, w32_id]
    · rw [if_neg ho] at c2
      rw [if_pos ⟨hx.1, hx.2, ho⟩]
      simp (disch := first | assumption | omega | (simp only [zcat_0, zcat_i, zcat_l, zcat_r, zcat_t]; omega) | simp) only [e_X2_awaited_0, e_X2_awaited_1, e_X2_awaited_4, e_X2_awaited_7, e_X2_awaited_8, e_X2_awaited_11, e_X2_awaited_12, e_X2_awaited_13, e_X2_awaited_14, e_X2_awaited_17, e_X2_awaited_18, e_X2_awaited_21, e_X2_awaited_22, e_X2_awaited_23, e_X2_awaited_26, e_X2_awaited_29, e_X2_awaited_30, e_X2_awaited_31, e_X2_awaited_32, e_X2_awaited_35, e_X2_awaited_36, e_X2_awaited_39, e_X2_awaited_40, e_X2_awaited_41, e_X2_awaited_42, zpush_i, zpush_l, zpush_v, Option.bind_some, if_pos, if_neg, b2, b3, c2, c_isPlace1, c_isThread1, w32_id]
  · have e2 : howC (S.1 (13 + t)) ≠ 2 := by
      unfold howC
      split
      · omega
      · split
        · omega
        · split <;> omega
    rw [← b2] at e2
    rw [if_neg (fun q => hx ⟨q.1, q.2.1⟩)]
    simp (disch := first | assumption | omega | (simp only [zcat_0, zcat_i, zcat_l, zcat_r, zcat_t]; omega) | simp) only [e_X2_awaited_0, e_X2_awaited_1, e_X2_awaited_4, e_X2_awaited_7, e_X2_awaited_8, e_X2_awaited_11, e_X2_awaited_12, e_X2_awaited_13, e_X2_awaited_14, e_X2_awaited_17, e_X2_awaited_18, e_X2_awaited_21, e_X2_awaited_22, e_X2_awaited_23, e_X2_awaited_26, e_X2_awaited_29, e_X2_awaited_30, e_X2_awaited_31, e_X2_awaited_32, e_X2_awaited_35, e_X2_awaited_36, e_X2_awaited_39, e_X2_awaited_40, e_X2_awaited_41, e_X2_awaited_42, zpush_i, zpush_l, zpush_v, Option.bind_some, if_pos, if_neg, c_isThread1]
theorem sAw_in (hP : WP P) (hW : WS0 P S) (h0 : 0 ≤ t) (h4 : t < 4) : sAw S t = 4 ∨ 0 ≤ sAw S t ∧ sAw S t < 4 := by
  unfold sAw
  split
  · next h =>
    obtain ⟨p1, p2, p3, p4, -⟩ := hW.1 (S.1 (13 + t) - 4) (by omega) (by omega)
    rw [show 3 + (S.1 (13 + t) - 4) = S.1 (13 + t) - 1 by omega] at p3 p4
    have := hP.2.1
    right
    omega
  · exact Or.inl rfl
theorem r_leads_l (hk : isS k) (hC : CS w k S) (hW : WS0 P S) (hP : WP P) (h0 : 0 ≤ t) (h4 : t < 4) {f : Int} : ∀ (n i : Nat) (o : Int), i + n = 4 → (o = 4 ∨ 0 ≤ o ∧ o < 4) → Rn (d + 2) 36 5 [(2, k), (0, f), (0, t), (0, o), (0, (i : Int))] [] 92 w = some ((0, if sLt S t n o = true then 1 else 0), 92, w) := by
  obtain ⟨z0, zn, z1, y1, z2, y2, z3, y3, z4, y4, z5, y5, z6, y6, z7, y7, z8, y8, z9, y9⟩ := sSall hk
  intro n
  induction n with
  | zero =>
    intro i o hi ho
    rw [sLt]
    simp (disch := first | assumption | omega | (simp only [zcat_0, zcat_i, zcat_l, zcat_r, zcat_t]; omega) | simp) only [e_X2_leadsTo_5, e_X2_leadsTo_7, e_X2_leadsTo_8, e_X2_leadsTo_37, e_X2_leadsTo_38, zpush_i, zpush_l, zpush_v, Option.bind_some, if_pos, if_neg]
  | succ n ih =>
    intro i o hi ho
    rcases ho with rfl | ho
    · have e : sLt S t (n + 1) 4 = false := by rw [sLt, if_pos rfl]
      rw [e]
      simp (disch := first | assumption | omega | (simp only [zcat_0, zcat_i, zcat_l, zcat_r, zcat_t]; omega) | simp) only [e_X2_leadsTo_0, e_X2_leadsTo_1, e_X2_leadsTo_2, e_X2_leadsTo_3, e_X2_leadsTo_5, e_X2_leadsTo_7, e_X2_leadsTo_8, e_X2_leadsTo_11, e_X2_leadsTo_12, e_X2_leadsTo_15, e_X2_leadsTo_18, e_X2_leadsTo_19, e_X2_leadsTo_20, e_X2_leadsTo_23, e_X2_leadsTo_24, e_X2_leadsTo_25, e_X2_leadsTo_26, e_X2_leadsTo_27, e_X2_leadsTo_30, e_X2_leadsTo_31, e_X2_leadsTo_34, e_X2_leadsTo_37, e_X2_leadsTo_38, zpush_i, zpush_l, zpush_v, Option.bind_some, if_pos, if_neg, c_isThread0]
    · by_cases e : o = t
      · have e' : sLt S t (n + 1) o = true := by rw [sLt, if_neg (by omega), if_pos e]
        rw [e']
        simp (disch := first | assumption | omega | (simp only [zcat_0, zcat_i, zcat_l, zcat_r, zcat_t]; omega) | simp) only [e_X2_leadsTo_0, e_X2_leadsTo_1, e_X2_leadsTo_2, e_X2_leadsTo_3, e_X2_leadsTo_5, e_X2_leadsTo_7, e_X2_leadsTo_8, e_X2_leadsTo_11, e_X2_leadsTo_12, e_X2_leadsTo_15, e_X2_leadsTo_18, e_X2_leadsTo_19, e_X2_leadsTo_20, e_X2_leadsTo_23, e_X2_leadsTo_24, e_X2_leadsTo_25, e_X2_leadsTo_26, e_X2_leadsTo_27, e_X2_leadsTo_30, e_X2_leadsTo_31, e_X2_leadsTo_34, e_X2_leadsTo_37, e_X2_leadsTo_38, zpush_i, zpush_l, zpush_v, Option.bind_some, if_pos, if_neg, c_isThread1]
      · have e' : sLt S t (n + 1) o = sLt S t n (sAw S o) := by rw [sLt, if_neg (by omega), if_neg e]
        rw [e']
        have ih' := ih (i + 1) (sAw S o) (by omega) (sAw_in hP hW ho.1 ho.2)
        have ha := r_await (d := d) hk ho.1 ho.2 hC hW
        rw [show ((i + 1 : Nat) : Int) = (i : Int) + 1 by omega] at ih'
        rw [← ih', e_X2_leadsTo_5]
        simp (disch := first | assumption | omega | (simp only [zcat_0, zcat_i, zcat_l, zcat_r, zcat_t]; omega) | simp) only [e_X2_leadsTo_7, e_X2_leadsTo_8, e_X2_leadsTo_11, e_X2_leadsTo_12, e_X2_leadsTo_15, e_X2_leadsTo_18, e_X2_leadsTo_19, e_X2_leadsTo_20, e_X2_leadsTo_23, e_X2_leadsTo_24, e_X2_leadsTo_25, e_X2_leadsTo_26, e_X2_leadsTo_27, e_X2_leadsTo_30, e_X2_leadsTo_31, e_X2_leadsTo_34, zpush_i, zpush_l, zpush_v, Option.bind_some, if_pos, if_neg, c_isThread1, ha, w32_id]
theorem r_leads (hk : isS k) (hC : CS w k S) (hW : WS0 P S) (hP : WP P) (h0 : 0 ≤ t) (h4 : t < 4) {o : Int} (ho : o = 4 ∨ 0 ≤ o ∧ o < 4) : Cl (d + 2) 36 [(2, k), (0, o), (0, t)] 92 w = some ((0, if sLt S t 4 o = true then 1 else 0), 92, w) := by
  show Rn (d + 2) 36 0 [(2, k), (0, o), (0, t), (9, 0), (9, 0)] [] 92 w = _
  have h := r_leads_l (d := d) (f := o) hk hC hW hP h0 h4 4 0 o rfl ho
  rw [← h]
  simp (disch := first | assumption | omega | (simp only [zcat_0, zcat_i, zcat_l, zcat_r, zcat_t]; omega) | simp) only [e_X2_leadsTo_0, e_X2_leadsTo_1, e_X2_leadsTo_2, e_X2_leadsTo_3, zpush_i, zpush_l, zpush_v, Option.bind_some, if_pos, if_neg]
  rfl
theorem CS.val (hC : CS w k S) (hp : 0 ≤ p ∧ p < 3) {v : Int} : CS (zup w (k + 1) p v) k (su S.1 p v, S.2) := by
  obtain ⟨a1, a2, a3, a4⟩ := hC
  refine ⟨fun p' g0 g3 => ?_, fun t g0 g4 => ?_, ?_, fun i hi => ?_⟩
  · obtain ⟨c1, c2, c3⟩ := a1 p' g0 g3
    by_cases e : p' = p
    · subst e
      simp (disch := omega) only [zup_off, zup_self, su_ne, su_self, c2, c3, and_self]
    · simp (disch := omega) only [zup_off, su_ne, c1, c2, c3, and_self]
  · obtain ⟨c1, c2, c3, c4⟩ := a2 t g0 g4
    simp (disch := omega) only [zup_off, su_ne, c1, c2, c3, c4, and_self]
  · simp (disch := omega) only [zup_off, a3]
  · simp (disch := omega) only [zup_off]
    exact a4 i hi
theorem CS.mid (hC : CS w k S) (h0 : 0 ≤ t) (h4 : t < 4) {v : Int} : CS (zup w (k + 7) t v) k (su S.1 (17 + t) v, S.2) := by
  obtain ⟨a1, a2, a3, a4⟩ := hC
  refine ⟨fun p' g0 g3 => ?_, fun t' g0 g4 => ?_, ?_, fun i hi => ?_⟩
  · obtain ⟨c1, c2, c3⟩ := a1 p' g0 g3
    simp (disch := omega) only [zup_off, su_ne, c1, c2, c3, and_self]
  · obtain ⟨c1, c2, c3, c4⟩ := a2 t' g0 g4
    by_cases e : t' = t
    · subst e
      simp (disch := omega) only [zup_off, zup_self, su_ne, su_self, c1, c2, c3, and_self]
    · simp (disch := omega) only [zup_off, su_ne, c1, c2, c3, c4, and_self]
  · simp (disch := omega) only [zup_off, a3]
  · simp (disch := omega) only [zup_off]
    exact a4 i hi
theorem r_go0 (hk : isS k) (hj : isT j) (h0 : 0 ≤ t) (h4 : t < 4) (hC : CS w k S) (hT : TO w j P) (hW : WS0 P S) (hP : WP P) (hh : S.1 (13 + t) = 0) (hm : S.1 (17 + t) = 0) : ∃ w', Cl d 44 [(2, k), (2, j), (0, t)] 92 w = some ((9, 0), 92, w') ∧ CS w' k (sGo P t S) ∧ FR k w w' ∧ w' k 10 = w k 10 := by
  obtain ⟨f1, f2, f3, f4, f5, f6⟩ := hW.2.1 t h0 h4
  have := (hP.2.2.2.1 t h0 h4)
  exact r_go hk hj h0 h4 (hC.x h0 h4 (Or.inl hh) hm) hT (by omega)
theorem r_change (hk : isS k) (hj : isT j) (h0 : 0 ≤ t) (h4 : t < 4) (hC : CS w k S) (hT : TO w j P) (hW : WS0 P S) (hP : WP P) (hh : S.1 (13 + t) = 0) (hm : S.1 (17 + t) = 0) (hp : 0 ≤ p ∧ p < 3) {v : Int} (hv : 0 ≤ v ∧ v ≤ 3) : ∃ w', Cl (d + 1) 30 [(2, k), (2, j), (0, t), (0, p), (0, v)] 92 w = some ((9, 0), 92, w') ∧ CS w' k (sGo P t (su S.1 p v, S.2)) ∧ FR k w w' ∧ w' k 10 = w k 10 := by
  obtain ⟨z0, zn, z1, y1, z2, y2, z3, y3, z4, y4, z5, y5, z6, y6, z7, y7, z8, y8, z9, y9⟩ := sSall hk
  have F1 : FR k w (zup w (k + 1) p v) := FR.rf.up (by omega) (by omega)
  obtain ⟨w1, q1, q2, q3, q4⟩ := r_go0 (d := d) hk hj h0 h4 (hC.val hp (v := v)) (hT.fr hj hk F1) (hW.val hp hv) hP (by simp (disch := omega) only [su_ne]; exact hh) (by simp (disch := omega) only [su_ne]; exact hm)
  refine ⟨w1, ?_, q2, F1.tr q3, by rw [q4, zup_off _ (Or.inl (by omega))]⟩
  show Rn (d + 1) 30 0 [(2, k), (2, j), (0, t), (0, p), (0, v)] [] 92 w = _
  obtain ⟨t0, tn, t1, u1, t2, u2, t3, u3, t4, u4, t5, u5, t6, u6⟩ := sTall hj
  simp (disch := first | assumption | omega | (simp only [zcat_0, zcat_i, zcat_l, zcat_r, zcat_t]; omega) | simp) only [e_X2_change_0, e_X2_change_1, e_X2_change_4, e_X2_change_5, e_X2_change_7, e_X2_change_8, e_X2_change_9, e_X2_change_10, e_X2_change_11, e_X2_change_14, zpush_i, zpush_l, zpush_v, Option.bind_some, if_pos, if_neg, q1]
theorem r_waitA (hk : isS k) (hj : isT j) (h0 : 0 ≤ t) (h4 : t < 4) (hC : CS w k S) (hT : TO w j P) (hW : WS0 P S) (hP : WP P) (hh : S.1 (13 + t) = 0) (hm : S.1 (17 + t) = 0) (hp : 0 ≤ p ∧ p < 3) (hr : S.2.length < 4) {v : Int} : ∃ w', Cl (d + 1) 31 [(2, k), (2, j), (0, t), (0, p), (0, v)] 92 w = some ((9, 0), 92, w') ∧ CS w' k (if S.1 p = v then sJn t (1 + p) S else sGo P t S) ∧ FR k w w' ∧ w' k 10 = w k 10 := by
  obtain ⟨z0, zn, z1, y1, z2, y2, z3, y3, z4, y4, z5, y5, z6, y6, z7, y7, z8, y8, z9, y9⟩ := sSall hk
  obtain ⟨t0, tn, t1, u1, t2, u2, t3, u3, t4, u4, t5, u5, t6, u6⟩ := sTall hj
  have c1 := (hC.1 p hp.1 hp.2).1
  by_cases e : S.1 p = v
  · obtain ⟨w1, q1, q2, q3, q4⟩ := r_join (d := d) hk h0 h4 hC hr hp (Or.inl ⟨rfl, rfl⟩)
    refine ⟨w1, ?_, by rw [if_pos e]; exact q2, q3, q4⟩
    show Rn (d + 1) 31 0 [(2, k), (2, j), (0, t), (0, p), (0, v)] [] 92 w = _
    simp (disch := first | assumption | omega | (simp only [zcat_0, zcat_i, zcat_l, zcat_r, zcat_t]; omega) | simp) only [e_X2_waitAtOnce_0, e_X2_waitAtOnce_1, e_X2_waitAtOnce_4, e_X2_waitAtOnce_5, e_X2_waitAtOnce_6, e_X2_waitAtOnce_8, e_X2_waitAtOnce_11, e_X2_waitAtOnce_12, e_X2_waitAtOnce_13, e_X2_waitAtOnce_14, e_X2_waitAtOnce_15, e_X2_waitAtOnce_18, e_X2_waitAtOnce_21, e_X2_waitAtOnce_22, e_X2_waitAtOnce_23, e_X2_waitAtOnce_24, e_X2_waitAtOnce_27, zpush_i, zpush_l, zpush_v, Option.bind_some, if_pos, if_neg, c1, q1]
  · obtain ⟨w1, q1, q2, q3, q4⟩ := r_go0 (d := d) hk hj h0 h4 hC hT hW hP hh hm
    refine ⟨w1, ?_, by rw [if_neg e]; exact q2, q3, q4⟩
    show Rn (d + 1) 31 0 [(2, k), (2, j), (0, t), (0, p), (0, v)] [] 92 w = _
    simp (disch := first | assumption | omega | (simp only [zcat_0, zcat_i, zcat_l, zcat_r, zcat_t]; omega) | simp) only [e_X2_waitAtOnce_0, e_X2_waitAtOnce_1, e_X2_waitAtOnce_4, e_X2_waitAtOnce_5, e_X2_waitAtOnce_6, e_X2_waitAtOnce_8, e_X2_waitAtOnce_11, e_X2_waitAtOnce_12, e_X2_waitAtOnce_13, e_X2_waitAtOnce_14, e_X2_waitAtOnce_15, e_X2_waitAtOnce_18, e_X2_waitAtOnce_21, e_X2_waitAtOnce_22, e_X2_waitAtOnce_23, e_X2_waitAtOnce_24, e_X2_waitAtOnce_27, zpush_i, zpush_l, zpush_v, Option.bind_some, if_pos, if_neg, c1, q1]
theorem r_waitB (hk : isS k) (hj : isT j) (h0 : 0 ≤ t) (h4 : t < 4) (hC : CS w k S) (hT : TO w j P) (hW : WS0 P S) (hP : WP P) (hh : S.1 (13 + t) = 0) (hp : 0 ≤ p ∧ p < 3) (hr : S.2.length < 4) {v : Int} : ∃ w', Cl (d + 1) 32 [(2, k), (2, j), (0, t), (0, p), (0, v)] 92 w = some ((9, 0), 92, w') ∧ CS w' k (if S.1 (17 + t) = 1 then sJn t (1 + p) S else if S.1 p = v then (su S.1 (17 + t) 1, S.2) else sGo P t S) ∧ FR k w w' ∧ w' k 10 = w k 10 := by
  obtain ⟨z0, zn, z1, y1, z2, y2, z3, y3, z4, y4, z5, y5, z6, y6, z7, y7, z8, y8, z9, y9⟩ := sSall hk
  obtain ⟨t0, tn, t1, u1, t2, u2, t3, u3, t4, u4, t5, u5, t6, u6⟩ := sTall hj
  have c1 := (hC.1 p hp.1 hp.2).1
  have c2 := (hC.2.1 t h0 h4).2.2.2
  obtain ⟨f1, f2, f3, f4, f5, f6⟩ := hW.2.1 t h0 h4
  by_cases e1 : S.1 (17 + t) = 1
  · obtain ⟨w1, q1, q2, q3, q4⟩ := r_join (d := d) hk h0 h4 hC hr hp (Or.inl ⟨rfl, rfl⟩)
    refine ⟨w1, ?_, by rw [if_pos e1]; exact q2, q3, q4⟩
    show Rn (d + 1) 32 0 [(2, k), (2, j), (0, t), (0, p), (0, v)] [] 92 w = _
    simp (disch := first | assumption | omega | (simp only [zcat_0, zcat_i, zcat_l, zcat_r, zcat_t]; omega) | simp) only [e_X2_waitInTwo_0, e_X2_waitInTwo_1, e_X2_waitInTwo_4, e_X2_waitInTwo_5, e_X2_waitInTwo_6, e_X2_waitInTwo_7, e_X2_waitInTwo_10, e_X2_waitInTwo_11, e_X2_waitInTwo_12, e_X2_waitInTwo_13, e_X2_waitInTwo_14, e_X2_waitInTwo_17, e_X2_waitInTwo_20, e_X2_waitInTwo_21, e_X2_waitInTwo_24, e_X2_waitInTwo_25, e_X2_waitInTwo_26, e_X2_waitInTwo_28, e_X2_waitInTwo_31, e_X2_waitInTwo_32, e_X2_waitInTwo_35, e_X2_waitInTwo_36, e_X2_waitInTwo_37, e_X2_waitInTwo_38, e_X2_waitInTwo_41, e_X2_waitInTwo_42, e_X2_waitInTwo_43, e_X2_waitInTwo_44, e_X2_waitInTwo_47, zpush_i, zpush_l, zpush_v, Option.bind_some, if_pos, if_neg, c2, q1]
  · rw [if_neg e1]
    by_cases e : S.1 p = v
    · refine ⟨zup w (k + 7) t 1, ?_, by rw [if_pos e]; exact hC.mid h0 h4, FR.rf.up (by omega) (by omega), zup_off _ (Or.inl (by omega))⟩
      show Rn (d + 1) 32 0 [(2, k), (2, j), (0, t), (0, p), (0, v)] [] 92 w = _
      simp (disch := first | assumption | omega | (simp only [zcat_0, zcat_i, zcat_l, zcat_r, zcat_t]; omega) | simp) only [e_X2_waitInTwo_0, e_X2_waitInTwo_1, e_X2_waitInTwo_4, e_X2_waitInTwo_5, e_X2_waitInTwo_6, e_X2_waitInTwo_7, e_X2_waitInTwo_10, e_X2_waitInTwo_11, e_X2_waitInTwo_12, e_X2_waitInTwo_13, e_X2_waitInTwo_14, e_X2_waitInTwo_17, e_X2_waitInTwo_20, e_X2_waitInTwo_21, e_X2_waitInTwo_24, e_X2_waitInTwo_25, e_X2_waitInTwo_26, e_X2_waitInTwo_28, e_X2_waitInTwo_31, e_X2_waitInTwo_32, e_X2_waitInTwo_35, e_X2_waitInTwo_36, e_X2_waitInTwo_37, e_X2_waitInTwo_38, e_X2_waitInTwo_41, e_X2_waitInTwo_42, e_X2_waitInTwo_43, e_X2_waitInTwo_44, e_X2_waitInTwo_47, zpush_i, zpush_l, zpush_v, Option.bind_some, if_pos, if_neg, c1, c2]
    · obtain ⟨w1, q1, q2, q3, q4⟩ := r_go0 (d := d) hk hj h0 h4 hC hT hW hP hh (by omega)
      refine ⟨w1, ?_, by rw [if_neg e]; exact q2, q3, q4⟩
      show Rn (d + 1) 32 0 [(2, k), (2, j), (0, t), (0, p), (0, v)] [] 92 w = _
      simp (disch := first | assumption | omega | (simp only [zcat_0, zcat_i, zcat_l, zcat_r, zcat_t]; omega) | simp) only [e_X2_waitInTwo_0, e_X2_waitInTwo_1, e_X2_waitInTwo_4, e_X2_waitInTwo_5, e_X2_waitInTwo_6, e_X2_waitInTwo_7, e_X2_waitInTwo_10, e_X2_waitInTwo_11, e_X2_waitInTwo_12, e_X2_waitInTwo_13, e_X2_waitInTwo_14, e_X2_waitInTwo_17, e_X2_waitInTwo_20, e_X2_waitInTwo_21, e_X2_waitInTwo_24, e_X2_waitInTwo_25, e_X2_waitInTwo_26, e_X2_waitInTwo_28, e_X2_waitInTwo_31, e_X2_waitInTwo_32, e_X2_waitInTwo_35, e_X2_waitInTwo_36, e_X2_waitInTwo_37, e_X2_waitInTwo_38, e_X2_waitInTwo_41, e_X2_waitInTwo_42, e_X2_waitInTwo_43, e_X2_waitInTwo_44, e_X2_waitInTwo_47, zpush_i, zpush_l, zpush_v, Option.bind_some, if_pos, if_neg, c1, c2, q1]
theorem r_wk1 (hk : isS k) (hj : isT j) (hC : CS w k S) (hT : TO w j P) (hW : WS0 P S) (hP : WP P) : ∃ w', Cl (d + 1) 43 [(2, k), (2, j), (0, sFa S.1 p S.2)] 92 w = some ((9, 0), 92, w') ∧ CS w' k (if sFa S.1 p S.2 = 4 then S else sRl P (sFa S.1 p S.2) S) ∧ FR k w w' ∧ w' k 10 = w k 10 := by
  rcases sFa_in (s := S.1) (p := p) S.2 with h | h
  · rw [h]
    exact ⟨w, c_rel4, by rw [if_pos rfl]; exact hC, FR.rf, rfl⟩
  · have hne : sFa S.1 p S.2 ≠ 4 := fun e => by
      have := (hW.2.2.2 _).mp h
      omega
    rw [if_neg hne]
    exact r_rel hk hj hC hT hW hP h
theorem r_wake_l (hk : isS k) (hj : isT j) (hP : WP P) (hp : 0 ≤ p ∧ p < 3) {N : Int} : ∀ (n i : Nat) (w : zW) (S : Sc), (i : Int) + n = N → N ≤ 3 → CS w k S → TO w j P → WS0 P S → ∃ w', Rn (d + 3) 33 3 [(2, k), (2, j), (0, t), (0, p), (0, N), (0, (i : Int))] [] 92 w = Rn (d + 3) 33 32 [(2, k), (2, j), (0, t), (0, p), (0, N), (0, N)] [] 92 w' ∧ CS w' k (sWk P p n S) ∧ FR k w w' ∧ w' k 10 = w k 10 := by
  obtain ⟨z0, zn, z1, y1, z2, y2, z3, y3, z4, y4, z5, y5, z6, y6, z7, y7, z8, y8, z9, y9⟩ := sSall hk
  obtain ⟨t0, tn, t1, u1, t2, u2, t3, u3, t4, u4, t5, u5, t6, u6⟩ := sTall hj
  intro n
  induction n with
  | zero =>
    intro i w S hi hN hC hT hW
    refine ⟨w, ?_, hC, FR.rf, rfl⟩
    rw [show (i : Int) = N by omega]
    by_cases h3 : 3 ≤ N <;> simp (disch := first | assumption | omega | (simp only [zcat_0, zcat_i, zcat_l, zcat_r, zcat_t]; omega) | simp) only [e_X2_wake_3, e_X2_wake_5, e_X2_wake_6, e_X2_wake_9, e_X2_wake_11, e_X2_wake_13, zpush_i, zpush_l, zpush_v, Option.bind_some, if_pos, if_neg]
  | succ n ih =>
    intro i w S hi hN hC hT hW
    obtain ⟨w1, q1, q2, q3, q4⟩ := r_wk1 (d := d + 1) (p := p) hk hj hC hT hW hP
    have hf := r_first (d := d) (p := p) hk hC hW hp
    have W1 : WS0 P (if sFa S.1 p S.2 = 4 then S else sRl P (sFa S.1 p S.2) S) := WS0.wk (p := p) 1 hW
    obtain ⟨w2, g1, g2, g3, g4⟩ := ih (i + 1) w1 _ (by omega) hN q2 (hT.fr hj hk q3) W1
    refine ⟨w2, ?_, g2, q3.tr g3, by rw [g4, q4]⟩
    rw [show ((i + 1 : Nat) : Int) = (i : Int) + 1 by omega] at g1
    rw [← g1, e_X2_wake_3]
    simp (disch := first | assumption | omega | (simp only [zcat_0, zcat_i, zcat_l, zcat_r, zcat_t]; omega) | simp) only [e_X2_wake_5, e_X2_wake_6, e_X2_wake_9, e_X2_wake_11, e_X2_wake_13, e_X2_wake_16, e_X2_wake_17, e_X2_wake_18, e_X2_wake_19, e_X2_wake_20, e_X2_wake_23, e_X2_wake_26, e_X2_wake_29, zpush_i, zpush_l, zpush_v, Option.bind_some, if_pos, if_neg, hf, q1, w32_id]
theorem r_wake (hk : isS k) (hj : isT j) (h0 : 0 ≤ t) (h4 : t < 4) (hC : CS w k S) (hT : TO w j P) (hW : WS0 P S) (hP : WP P) (hh : S.1 (13 + t) = 0) (hm : S.1 (17 + t) = 0) (hp : 0 ≤ p ∧ p < 3) {N : Int} (hN : 0 ≤ N ∧ N ≤ 3) : ∃ w', Cl (d + 3) 33 [(2, k), (2, j), (0, t), (0, p), (0, N)] 92 w = some ((9, 0), 92, w') ∧ CS w' k (sGo P t (sWk P p N.toNat S)) ∧ FR k w w' ∧ w' k 10 = w k 10 := by
  have hn : t ∉ S.2 := fun e => by
    have := (hW.2.2.2 t).mp e
    omega
  obtain ⟨w1, q1, q2, q3, q4⟩ := r_wake_l (d := d) (t := t) (N := N) hk hj hP hp N.toNat 0 w S (by omega) hN.2 hC hT hW
  obtain ⟨b1, b2, b3, b4⟩ := sWk_off (p := p) N.toNat hW h0 h4 hn
  obtain ⟨w2, g1, g2, g3, g4⟩ := r_go0 (d := d + 2) hk hj h0 h4 q2 (hT.fr hj hk q3) (WS0.wk N.toNat hW) hP (by rw [b2]; exact hh) (by rw [b3]; exact hm)
  refine ⟨w2, ?_, g2, q3.tr g3, by rw [g4, q4]⟩
  show Rn (d + 3) 33 0 [(2, k), (2, j), (0, t), (0, p), (0, N), (9, 0)] [] 92 w = _
  obtain ⟨z0, zn, z1, y1, z2, y2, z3, y3, z4, y4, z5, y5, z6, y6, z7, y7, z8, y8, z9, y9⟩ := sSall hk
  obtain ⟨t0, tn, t1, u1, t2, u2, t3, u3, t4, u4, t5, u5, t6, u6⟩ := sTall hj
  have q1' : Rn (d + 3) 33 3 [(2, k), (2, j), (0, t), (0, p), (0, N), (0, 0)] [] 92 w = _ := q1
  simp (disch := first | assumption | omega | (simp only [zcat_0, zcat_i, zcat_l, zcat_r, zcat_t]; omega) | simp) only [e_X2_wake_0, e_X2_wake_1, e_X2_wake_32, e_X2_wake_33, e_X2_wake_34, e_X2_wake_35, e_X2_wake_38, zpush_i, zpush_l, zpush_v, Option.bind_some, if_pos, if_neg, q1', g1]
end C6
