section R9
variable {d : Nat} {w : zW} {j x t : Int} {S : Sc} {P : Pg} {H : Hs} {e : Sc × Int}
theorem r_step1 (h2 : w 0 2 = j) (hj : isT j) (hT : TO w j P) (hP : WP P) (hW : WS P S) (hC : CS w 19 S) (hX : CPa w H) (hf : w32 (w 19 10) = w 19 10) (ht : 0 ≤ t ∧ t < P 0 6) (hh : S.1 (13 + t) = 0) : ∃ w', Cl (d + 5) 79 [(2, 0), (0, t)] 92 w = some ((0, (sAct P t (S, w 19 10)).1.1 (9 + t)), 92, w') ∧ CS w' 19 (sAct P t (S, w 19 10)).1 ∧ w' 19 10 = (sAct P t (S, w 19 10)).2 ∧ CPa w' (aPu H (S, w 19 10)) ∧ w' 41 7 = 1 ∧ (∀ a i, (a < 19 ∨ 29 < a) → a ≠ 31 → a ≠ 32 → a ≠ 33 → (a ≠ 41 ∨ i ≠ 7) → w' a i = w a i) := by
  have zo0 := zo_0; have zo19 := zo_19; have zo23 := zo_23; have zl23 := zl_23; have zo24 := zo_24; have zl24 := zl_24; have zo29 := zo_29; have zo41 := zo_41
  obtain ⟨t0, tn, t1, u1, t2, u2, t3, u3, t4, u4, t5, u5, t6, u6⟩ := sTall hj
  have hP4 := hP.2.1
  have hti := r_isTold (d := d + 3) (t := t) h2 hj hT hP
  rw [if_pos ht] at hti
  have b2 := (hC.2.1 t ht.1 (by omega)).2.1
  rw [hh] at b2
  have b2' : w 24 t = 0 := b2
  obtain ⟨w1, q1, q2, q3⟩ := r_push (d := d + 2) hP hW.1 hC hX
  have C1 : CS w1 19 S := by
    unfold CS
    rw [q3 (19 + 1) (by omega) (by omega) (by omega) (by omega), q3 (19 + 2) (by omega) (by omega) (by omega) (by omega), q3 (19 + 3) (by omega) (by omega) (by omega) (by omega), q3 (19 + 4) (by omega) (by omega) (by omega) (by omega), q3 (19 + 5) (by omega) (by omega) (by omega) (by omega), q3 (19 + 6) (by omega) (by omega) (by omega) (by omega), q3 (19 + 7) (by omega) (by omega) (by omega) (by omega), q3 (19 + 8) (by omega) (by omega) (by omega) (by omega), q3 19 (by omega) (by omega) (by omega) (by omega)]
    exact hC
  have T1 : TO w1 j P := fun b h0 h1 i => by
    rw [q3 (j + b) (by omega) (by omega) (by omega) (by omega)]
    exact hT b h0 h1 i
  have f1 : w1 19 10 = w 19 10 := by rw [q3 19 (by omega) (by omega) (by omega) (by omega)]
  have g2 : w1 0 2 = j := by rw [q3 0 (by omega) (by omega) (by omega) (by omega), h2]
  obtain ⟨w2, r1, r2, r3, r4⟩ := r_perform (d := d) (k := 19) (t := t) (by omega) hj ht.1 (by omega) C1 T1 hW hP hh (by rw [f1]; exact hf)
  rw [f1] at r2 r4
  have e9 : w2 23 t = (sAct P t (S, w 19 10)).1.1 (9 + t) := (r2.2.1 t ht.1 (by omega)).1
  refine ⟨zup w2 41 7 1, ?_, ?_, by rw [zup_off _ (by omega), r4], ?_, zup_self .., fun a i n1 n2 n3 n4 n5 => by rw [zup_off _ n5, r3 a (by omega), q3 a (by omega) n2 n3 n4]⟩
  · show Rn (d + 5) 79 0 [(2, 0), (0, t)] [] 92 w = _
    simp (disch := first | assumption | omega | (simp only [zcat_0, zcat_i, zcat_l, zcat_r, zcat_t]; omega) | simp) only [e_X7_step_0, e_X7_step_1, e_X7_step_2, e_X7_step_5, e_X7_step_8, e_X7_step_9, e_X7_step_10, e_X7_step_11, e_X7_step_14, e_X7_step_17, e_X7_step_18, e_X7_step_19, e_X7_step_22, e_X7_step_24, e_X7_step_25, e_X7_step_26, e_X7_step_29, e_X7_step_30, e_X7_step_33, e_X7_step_36, e_X7_step_37, e_X7_step_40, e_X7_step_41, e_X7_step_44, e_X7_step_45, e_X7_step_48, e_X7_step_49, e_X7_step_52, e_X7_step_53, e_X7_step_56, e_X7_step_57, e_X7_step_60, e_X7_step_63, e_X7_step_64, e_X7_step_65, zpush_i, zpush_l, zpush_v, Option.bind_some, ↓if_pos, ↓if_neg, Int.reduceAdd, w32_id, hti, b2', q1, g2, r1, zup_off, e9]
  · obtain ⟨a1, a2, a3, a4⟩ := r2
    refine ⟨fun p h0 h3 => ?_, fun t h0 h4 => ?_, ?_, fun m hm => ?_⟩
    · rw [zup_ne (by omega), zup_ne (by omega), zup_ne (by omega)]; exact a1 p h0 h3
    · rw [zup_ne (by omega), zup_ne (by omega), zup_ne (by omega), zup_ne (by omega)]; exact a2 t h0 h4
    · rw [zup_ne (by omega)]; exact a3
    · rw [zup_ne (by omega)]; exact a4 m hm
  · unfold CPa
    rw [zup_ne (by omega), zup_ne (by omega), zup_ne (by omega), zup_ne (by omega), r3 29 (by omega), r3 31 (by omega), r3 32 (by omega), r3 33 (by omega)]
    exact q2
theorem r_step0 (h2 : w 0 2 = j) (hj : isT j) (hT : TO w j P) (hP : WP P) (hW : WS0 P S) (hC : CS w 19 S) (h : ¬ (0 ≤ t ∧ t < P 0 6) ∨ S.1 (13 + t) ≠ 0) : Cl (d + 5) 79 [(2, 0), (0, t)] 92 w = some ((0, if 0 ≤ t ∧ t < P 0 6 then -2 else -1), 92, w) := by
  have zo0 := zo_0; have zo19 := zo_19; have zo24 := zo_24; have zl24 := zl_24
  have hP4 := hP.2.1
  have hti := r_isTold (d := d + 3) (t := t) h2 hj hT hP
  show Rn (d + 5) 79 0 [(2, 0), (0, t)] [] 92 w = _
  by_cases c : 0 ≤ t ∧ t < P 0 6
  · rw [if_pos c] at hti ⊢
    obtain ⟨f1, f2, f3, f4, f5, f6⟩ := hW.2.1 t c.1 (by omega)
    have b2 : w 24 t = howC (S.1 (13 + t)) := (hC.2.1 t c.1 (by omega)).2.1
    have : S.1 (13 + t) ≠ 0 := by
      rcases h with h | h
      · exact absurd c h
      · exact h
    have b2' : w 24 t ≠ 0 := by rw [b2]; exact fun z => this ((howC0 ⟨f3, f4⟩).mp z)
    simp (disch := first | assumption | omega | (simp only [zcat_0, zcat_i, zcat_l, zcat_r, zcat_t]; omega) | simp) only [e_X7_step_0, e_X7_step_1, e_X7_step_2, e_X7_step_5, e_X7_step_8, e_X7_step_9, e_X7_step_10, e_X7_step_11, e_X7_step_14, e_X7_step_17, e_X7_step_18, e_X7_step_19, e_X7_step_22, e_X7_step_24, zpush_i, zpush_l, zpush_v, Option.bind_some, ↓if_pos, ↓if_neg, Int.reduceAdd, w32_id, hti]
  · rw [if_neg c] at hti ⊢
    simp (disch := first | assumption | omega | (simp only [zcat_0, zcat_i, zcat_l, zcat_r, zcat_t]; omega) | simp) only [e_X7_step_0, e_X7_step_1, e_X7_step_2, e_X7_step_5, e_X7_step_8, e_X7_step_9, zpush_i, zpush_l, zpush_v, Option.bind_some, ↓if_pos, ↓if_neg, Int.reduceAdd, w32_id, hti]
end R9
