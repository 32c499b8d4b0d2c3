section M3
variable {d : Nat} {w : zW} {t p q n : Int} {S : Sc} {P : Pg}
theorem z_cmp1 {x y : Int} (h : x < y) : z_cmp x y = -1 := by unfold z_cmp; rw [if_neg (by omega), if_neg (by omega)]
theorem z_cmp2 {x y : Int} (h : y < x) : z_cmp x y = 1 := by unfold z_cmp; rw [if_pos h]
theorem z_cmp0 (x : Int) : z_cmp x x = 0 := by unfold z_cmp; rw [if_neg (by omega), if_pos rfl]
theorem m_in {x a b : Int} : Cl d 95 [(1, x), (1, a), (1, b)] 92 w = some ((0, if a ≤ x ∧ x ≤ b then 1 else 0), 92, w) := by
  show Rn d 95 0 [(1, x), (9, 0), (1, a), (9, 0), (1, b), (9, 0)] [] 92 w = _
  rcases Int.lt_trichotomy x a with h | h | h
  · rw [if_neg (by omega)]
    simp (disch := first | assumption | omega | (simp only [zcat_0, zcat_i, zcat_l, zcat_r, zcat_t]; omega) | simp) only [e_X8_in_0, e_X8_in_1, e_X8_in_2, e_X8_in_3, e_X8_in_6, e_X8_in_7, e_X8_in_9, e_X8_in_10, e_X8_in_13, e_X8_in_14, e_X8_in_17, e_X8_in_18, zpush_i, zpush_l, zpush_v, Option.bind_some, ↓if_pos, ↓if_neg, Int.reduceAdd, w32_id, z_cmp1]
  · subst h
    rcases Int.lt_trichotomy x b with g | g | g
    · rw [if_pos (by omega)]
      simp (disch := first | assumption | omega | (simp only [zcat_0, zcat_i, zcat_l, zcat_r, zcat_t]; omega) | simp) only [e_X8_in_0, e_X8_in_1, e_X8_in_2, e_X8_in_3, e_X8_in_6, e_X8_in_7, e_X8_in_9, e_X8_in_10, e_X8_in_13, e_X8_in_14, e_X8_in_17, e_X8_in_18, zpush_i, zpush_l, zpush_v, Option.bind_some, ↓if_pos, ↓if_neg, Int.reduceAdd, w32_id, z_cmp1, z_cmp0]
    · subst g
      rw [if_pos (by omega)]
      simp (disch := first | assumption | omega | (simp only [zcat_0, zcat_i, zcat_l, zcat_r, zcat_t]; omega) | simp) only [e_X8_in_0, e_X8_in_1, e_X8_in_2, e_X8_in_3, e_X8_in_6, e_X8_in_7, e_X8_in_9, e_X8_in_10, e_X8_in_13, e_X8_in_14, e_X8_in_17, e_X8_in_18, zpush_i, zpush_l, zpush_v, Option.bind_some, ↓if_pos, ↓if_neg, Int.reduceAdd, w32_id, z_cmp0]
    · rw [if_neg (by omega)]
      simp (disch := first | assumption | omega | (simp only [zcat_0, zcat_i, zcat_l, zcat_r, zcat_t]; omega) | simp) only [e_X8_in_0, e_X8_in_1, e_X8_in_2, e_X8_in_3, e_X8_in_6, e_X8_in_7, e_X8_in_9, e_X8_in_10, e_X8_in_13, e_X8_in_14, e_X8_in_17, e_X8_in_18, zpush_i, zpush_l, zpush_v, Option.bind_some, ↓if_pos, ↓if_neg, Int.reduceAdd, w32_id, z_cmp2, z_cmp0]
  · rcases Int.lt_trichotomy x b with g | g | g
    · rw [if_pos (by omega)]
      simp (disch := first | assumption | omega | (simp only [zcat_0, zcat_i, zcat_l, zcat_r, zcat_t]; omega) | simp) only [e_X8_in_0, e_X8_in_1, e_X8_in_2, e_X8_in_3, e_X8_in_6, e_X8_in_7, e_X8_in_9, e_X8_in_10, e_X8_in_13, e_X8_in_14, e_X8_in_17, e_X8_in_18, zpush_i, zpush_l, zpush_v, Option.bind_some, ↓if_pos, ↓if_neg, Int.reduceAdd, w32_id, z_cmp1, z_cmp2]
    · subst g
      rw [if_pos (by omega)]
      simp (disch := first | assumption | omega | (simp only [zcat_0, zcat_i, zcat_l, zcat_r, zcat_t]; omega) | simp) only [e_X8_in_0, e_X8_in_1, e_X8_in_2, e_X8_in_3, e_X8_in_6, e_X8_in_7, e_X8_in_9, e_X8_in_10, e_X8_in_13, e_X8_in_14, e_X8_in_17, e_X8_in_18, zpush_i, zpush_l, zpush_v, Option.bind_some, ↓if_pos, ↓if_neg, Int.reduceAdd, w32_id, z_cmp0, z_cmp2]
    · rw [if_neg (by omega)]
      simp (disch := first | assumption | omega | (simp only [zcat_0, zcat_i, zcat_l, zcat_r, zcat_t]; omega) | simp) only [e_X8_in_0, e_X8_in_1, e_X8_in_2, e_X8_in_3, e_X8_in_6, e_X8_in_7, e_X8_in_9, e_X8_in_10, e_X8_in_13, e_X8_in_14, e_X8_in_17, e_X8_in_18, zpush_i, zpush_l, zpush_v, Option.bind_some, ↓if_pos, ↓if_neg, Int.reduceAdd, w32_id, z_cmp2]
theorem how7 (hW : WS0 P S) (hP : WP P) (h0 : 0 ≤ t) (h4 : t < 4) (hn : P 0 6 ≤ t) : S.1 (13 + t) = 7 := by
  obtain ⟨f1, f2, f3, f4, f5, f6⟩ := hW.2.1 t h0 h4
  have := (hP.2.2.2.1 t h0 h4).2.2.2.2 hn
  by_cases e : S.1 (13 + t) = 7
  · exact e
  · have := f5 e
    omega
theorem m_move_l (hp : 0 ≤ p ∧ p < 3) (hq : 0 ≤ q ∧ q < 3) (h4 : n ≤ 4) : ∀ (m i : Nat) (w : zW), (i : Int) + m = n → w 67 1 = n → RS w n (mvS S p q i) → ∃ w', Rn d 107 8 [(2, 67), (0, p), (0, q), (0, (i : Int))] [] 92 w = some ((9, 0), 92, w') ∧ RS w' n (mvS S p q n) ∧ FQ w w' ∧ w' 67 6 = w 67 6 := by
  have zo67 := zo_67; have zo72 := zo_72; have zl72 := zl_72
  intro m
  induction m with
  | zero =>
    intro i w hi h1 hR
    obtain rfl : (i : Int) = n := by omega
    refine ⟨w, ?_, hR, FQ.rf, rfl⟩
    simp (disch := first | assumption | omega | (simp only [zcat_0, zcat_i, zcat_l, zcat_r, zcat_t]; omega) | simp) only [e_X8_moveOn_8, e_X8_moveOn_9, e_X8_moveOn_10, e_X8_moveOn_13, e_X8_moveOn_61, zpush_i, zpush_l, zpush_v, Option.bind_some, ↓if_pos, ↓if_neg, Int.reduceAdd, w32_id, h1]
  | succ m ih =>
    intro i w hi h1 hR
    have e13 : (mvS S p q i).1 (13 + (i : Int)) = S.1 (13 + i) := by
      unfold mvS
      exact if_neg (by omega)
    have e1 := (hR.2.1 i (by omega) (by omega)).1
    rw [if_pos (by omega), e13] at e1
    have R1 : RS (zup w 72 (13 + i) (if S.1 (13 + (i : Int)) = 1 + p then 1 + q else S.1 (13 + (i : Int)))) n (mvS S p q ((i + 1 : Nat) : Int)) := by
      obtain ⟨a1, a2, a3⟩ := hR
      refine ⟨fun j j0 j1 => ?_, fun u u0 u4 => ?_, fun j hj => ?_⟩
      · rw [zup_off _ (Or.inr (by omega)), a1 j j0 j1]
        show (if 13 ≤ j ∧ j < 13 + (i : Int) ∧ S.1 j = 1 + p then 1 + q else S.1 j) = (if 13 ≤ j ∧ j < 13 + ((i + 1 : Nat) : Int) ∧ S.1 j = 1 + p then 1 + q else S.1 j)
        rw [if_neg (by omega), if_neg (by omega)]
      · obtain ⟨c1, c2⟩ := a2 u u0 u4
        constructor
        · by_cases e : u = i
          · subst e
            rw [zup_self, if_pos (show (i : Int) < n by omega)]
            show _ = (if 13 ≤ 13 + (i : Int) ∧ 13 + (i : Int) < 13 + ((i + 1 : Nat) : Int) ∧ S.1 (13 + (i : Int)) = 1 + p then 1 + q else S.1 (13 + (i : Int)))
            by_cases e2 : S.1 (13 + (i : Int)) = 1 + p
            · rw [if_pos e2, if_pos ⟨by omega, by omega, e2⟩]
            · rw [if_neg e2, if_neg (fun z => e2 z.2.2)]
          · rw [zup_off _ (Or.inr (by omega)), c1]
            congr 1
            show (if 13 ≤ 13 + u ∧ 13 + u < 13 + (i : Int) ∧ S.1 (13 + u) = 1 + p then 1 + q else S.1 (13 + u)) = (if 13 ≤ 13 + u ∧ 13 + u < 13 + ((i + 1 : Nat) : Int) ∧ S.1 (13 + u) = 1 + p then 1 + q else S.1 (13 + u))
            by_cases e2 : 13 ≤ 13 + u ∧ 13 + u < 13 + (i : Int) ∧ S.1 (13 + u) = 1 + p
            · rw [if_pos e2, if_pos ⟨e2.1, by omega, e2.2.2⟩]
            · rw [if_neg e2, if_neg (fun z => e2 ⟨z.1, by omega, z.2.2⟩)]
        · rw [zup_off _ (Or.inr (by omega)), c2]
          show (if 13 ≤ 17 + u ∧ 17 + u < 13 + (i : Int) ∧ S.1 (17 + u) = 1 + p then 1 + q else S.1 (17 + u)) = (if 13 ≤ 17 + u ∧ 17 + u < 13 + ((i + 1 : Nat) : Int) ∧ S.1 (17 + u) = 1 + p then 1 + q else S.1 (17 + u))
          rw [if_neg (by omega), if_neg (by omega)]
      · rw [zup_off _ (Or.inr (by omega)), a3 j hj]
        rfl
    obtain ⟨w', g1, g2, g3, g4⟩ := ih (i + 1) _ (by omega) (by rw [zup_off _ (Or.inl (by omega))]; exact h1) R1
    refine ⟨w', ?_, g2, FQ.rf.up.tr g3, by rw [g4, zup_off _ (Or.inl (by omega))]⟩
    rw [← g1, e_X8_moveOn_8, show ((i + 1 : Nat) : Int) = (i : Int) + 1 by omega]
    by_cases e2 : S.1 (13 + (i : Int)) = 1 + p
    · simp (disch := first | assumption | omega | (simp only [zcat_0, zcat_i, zcat_l, zcat_r, zcat_t]; omega) | simp) only [e_X8_moveOn_9, e_X8_moveOn_10, e_X8_moveOn_13, e_X8_moveOn_16, e_X8_moveOn_17, e_X8_moveOn_20, e_X8_moveOn_22, e_X8_moveOn_23, e_X8_moveOn_24, e_X8_moveOn_25, e_X8_moveOn_28, e_X8_moveOn_30, e_X8_moveOn_31, e_X8_moveOn_32, e_X8_moveOn_33, e_X8_moveOn_34, e_X8_moveOn_35, e_X8_moveOn_36, e_X8_moveOn_39, e_X8_moveOn_40, e_X8_moveOn_41, e_X8_moveOn_42, e_X8_moveOn_45, e_X8_moveOn_46, e_X8_moveOn_49, e_X8_moveOn_51, e_X8_moveOn_52, e_X8_moveOn_53, e_X8_moveOn_54, e_X8_moveOn_55, e_X8_moveOn_58, zpush_i, zpush_l, zpush_v, Option.bind_some, ↓if_pos, ↓if_neg, Int.reduceAdd, w32_id, h1, e1]
    · simp (disch := first | assumption | omega | (simp only [zcat_0, zcat_i, zcat_l, zcat_r, zcat_t]; omega) | simp) only [e_X8_moveOn_9, e_X8_moveOn_10, e_X8_moveOn_13, e_X8_moveOn_16, e_X8_moveOn_17, e_X8_moveOn_20, e_X8_moveOn_22, e_X8_moveOn_23, e_X8_moveOn_24, e_X8_moveOn_25, e_X8_moveOn_28, e_X8_moveOn_30, e_X8_moveOn_31, e_X8_moveOn_32, e_X8_moveOn_33, e_X8_moveOn_34, e_X8_moveOn_35, e_X8_moveOn_36, e_X8_moveOn_39, e_X8_moveOn_40, e_X8_moveOn_41, e_X8_moveOn_42, e_X8_moveOn_45, e_X8_moveOn_46, e_X8_moveOn_49, e_X8_moveOn_51, e_X8_moveOn_52, e_X8_moveOn_53, e_X8_moveOn_54, e_X8_moveOn_55, e_X8_moveOn_58, zpush_i, zpush_l, zpush_v, Option.bind_some, ↓if_pos, ↓if_neg, Int.reduceAdd, w32_id, h1, e1]
theorem m_moveOn (hP : WP P) (hp : 0 ≤ p ∧ p < 3) (hq : 0 ≤ q ∧ q < 3) (hR : RS w (P 0 6) S) (hO : PO w P) (hW : WS0 P S) : ∃ w', Cl (d + 3) 107 [(2, 67), (0, p), (0, q)] 92 w = some ((9, 0), 92, w') ∧ RS w' (P 0 6) (sMv P p q S) ∧ FQ w w' ∧ w' 67 6 = w 67 6 := by
  have zo67 := zo_67; have zo72 := zo_72; have zl72 := zl_72
  obtain ⟨w1, q1, q2, q3, q4⟩ := m_wake (d := d) (N := 1) hP hp (by omega) hR hO hW
  have q2 : RS w1 (P 0 6) (sWk P p 1 S) := q2
  have hP1 := hP.1
  have hP4 := hP.2.1
  have R1 : RS w1 (P 0 6) (mvS (sWk P p 1 S) p q ((0 : Nat) : Int)) := q2.congr (fun i i0 i1 => if_neg (by omega)) rfl
  obtain ⟨w2, g1, g2, g3, g4⟩ := m_move_l (d := d + 3) (S := sWk P p 1 S) hp hq hP4 (P 0 6).toNat 0 w1 (by omega) (hO.fq q3).1 R1
  have W1 : WS0 P (sWk P p 1 S) := WS0.wk (p := p) 1 hW
  refine ⟨w2, ?_, ?_, q3.tr g3, by rw [g4, q4]⟩
  · show Rn (d + 3) 107 0 [(2, 67), (0, p), (0, q), (9, 0)] [] 92 w = _
    have g1' : Rn (d + 3) 107 8 [(2, 67), (0, p), (0, q), (0, 0)] [] 92 w1 = _ := g1
    simp (disch := first | assumption | omega | (simp only [zcat_0, zcat_i, zcat_l, zcat_r, zcat_t]; omega) | simp) only [e_X8_moveOn_0, e_X8_moveOn_1, e_X8_moveOn_2, e_X8_moveOn_3, e_X8_moveOn_6, e_X8_moveOn_7, zpush_i, zpush_l, zpush_v, Option.bind_some, ↓if_pos, ↓if_neg, Int.reduceAdd, w32_id, q1, g1']
  · refine g2.congr (fun i i0 i1 => ?_) rfl
    show (if 13 ≤ i ∧ i ≤ 16 ∧ (sWk P p 1 S).1 i = 1 + p then 1 + q else (sWk P p 1 S).1 i) = (if 13 ≤ i ∧ i < 13 + P 0 6 ∧ (sWk P p 1 S).1 i = 1 + p then 1 + q else (sWk P p 1 S).1 i)
    by_cases e : 13 ≤ i ∧ i ≤ 16 ∧ (sWk P p 1 S).1 i = 1 + p
    · rw [if_pos e, if_pos]
      refine ⟨e.1, ?_, e.2.2⟩
      by_cases c : i < 13 + P 0 6
      · exact c
      · have := how7 (t := i - 13) W1 hP (by omega) (by omega) (by omega)
        rw [show 13 + (i - 13) = i by omega] at this
        omega
    · rw [if_neg e, if_neg (fun z => e ⟨z.1, by omega, z.2.2⟩)]
/-- as the reference follows it: the last one is looked at too -/
def sLr (S : Sc) (t : Int) : Nat → Int → Bool
  | 0, o => decide (o = t)
  | n + 1, o => if o = 4 then false else if o = t then true else sLr S t n (sAw S o)
theorem m_lead_l (hP : WP P) (hR : RS w (P 0 6) S) (hW : WS0 P S) (h0 : 0 ≤ t) (h4 : t < 4) : ∀ (m i : Nat) (o c : Int) (v : zV), i + m = 4 → (o = 4 ∧ c < 0 ∨ 0 ≤ o ∧ o < P 0 6 ∧ c = o) → Rn (d + 1) 108 14 [(2, 67), (0, p), (0, t), (0, c), (0, (i : Int)), v] [] 92 w = some ((0, if sLr S t m o = true then 1 else 0), 92, w) := by
  have zo67 := zo_67; have zo72 := zo_72; have zl72 := zl_72
  have hP4 := hP.2.1
  intro m
  induction m with
  | zero =>
    intro i o c v hi ho
    have e : sLr S t 0 o = decide (o = t) := rfl
    rw [e]
    by_cases ec : o = t
    · rw [decide_eq_true ec, if_pos rfl]
      simp (disch := first | assumption | omega | (simp only [zcat_0, zcat_i, zcat_l, zcat_r, zcat_t]; omega) | simp) only [e_X8_leadsTo_14, e_X8_leadsTo_16, e_X8_leadsTo_17, e_X8_leadsTo_80, e_X8_leadsTo_81, e_X8_leadsTo_82, e_X8_leadsTo_85, e_X8_leadsTo_86, e_X8_leadsTo_89, e_X8_leadsTo_90, zpush_i, zpush_l, zpush_v, Option.bind_some, ↓if_pos, ↓if_neg, Int.reduceAdd, w32_id]
    · rw [decide_eq_false ec, if_neg (by decide)]
      simp (disch := first | assumption | omega | (simp only [zcat_0, zcat_i, zcat_l, zcat_r, zcat_t]; omega) | simp) only [e_X8_leadsTo_14, e_X8_leadsTo_16, e_X8_leadsTo_17, e_X8_leadsTo_80, e_X8_leadsTo_81, e_X8_leadsTo_82, e_X8_leadsTo_85, e_X8_leadsTo_86, e_X8_leadsTo_89, e_X8_leadsTo_90, zpush_i, zpush_l, zpush_v, Option.bind_some, ↓if_pos, ↓if_neg, Int.reduceAdd, w32_id]
  | succ m ih =>
    intro i o c v hi ho
    by_cases o4 : o = 4
    · have e : sLr S t (m + 1) o = false := by rw [sLr, if_pos o4]
      rw [e, if_neg (by decide)]
      simp (disch := first | assumption | omega | (simp only [zcat_0, zcat_i, zcat_l, zcat_r, zcat_t]; omega) | simp) only [e_X8_leadsTo_14, e_X8_leadsTo_16, e_X8_leadsTo_17, e_X8_leadsTo_20, e_X8_leadsTo_21, e_X8_leadsTo_80, e_X8_leadsTo_81, e_X8_leadsTo_82, e_X8_leadsTo_85, e_X8_leadsTo_86, e_X8_leadsTo_89, e_X8_leadsTo_90, zpush_i, zpush_l, zpush_v, Option.bind_some, ↓if_pos, ↓if_neg, Int.reduceAdd, w32_id]
    · obtain ⟨o0, on, rfl⟩ : 0 ≤ o ∧ o < P 0 6 ∧ c = o := by omega
      by_cases ec : c = t
      · have e : sLr S t (m + 1) c = true := by rw [sLr, if_neg o4, if_pos ec]
        rw [e, if_pos rfl]
        simp (disch := first | assumption | omega | (simp only [zcat_0, zcat_i, zcat_l, zcat_r, zcat_t]; omega) | simp) only [e_X8_leadsTo_14, e_X8_leadsTo_16, e_X8_leadsTo_17, e_X8_leadsTo_20, e_X8_leadsTo_21, e_X8_leadsTo_24, e_X8_leadsTo_25, e_X8_leadsTo_26, e_X8_leadsTo_80, e_X8_leadsTo_81, e_X8_leadsTo_82, e_X8_leadsTo_85, e_X8_leadsTo_86, e_X8_leadsTo_89, e_X8_leadsTo_90, zpush_i, zpush_l, zpush_v, Option.bind_some, ↓if_pos, ↓if_neg, Int.reduceAdd, w32_id]
      · have e : sLr S t (m + 1) c = sLr S t m (sAw S c) := by rw [sLr, if_neg o4, if_neg ec]
        rw [e]
        have hh := (hR.2.1 c o0 (by omega)).1
        rw [if_pos on] at hh
        obtain ⟨f1, f2, f3, f4, f5, f6⟩ := hW.2.1 c o0 (by omega)
        by_cases hx : 4 ≤ S.1 (13 + c) ∧ S.1 (13 + c) ≤ 6
        · obtain ⟨p1, p2, p3, p4, -⟩ := hW.1 (S.1 (13 + c) - 4) (by omega) (by omega)
          rw [show 3 + (S.1 (13 + c) - 4) = S.1 (13 + c) - 1 by omega] at p3 p4
          have e3 := hR.1 (S.1 (13 + c) - 1) (by omega) (by omega)
          have hin : Cl d 95 [(1, S.1 (13 + c)), (1, 4), (1, 6)] 92 w = some ((0, 1), 92, w) := by rw [m_in, if_pos hx]
          have es : 3 + S.1 (13 + c) - 4 = S.1 (13 + c) - 1 := by omega
          have ih' := ih (i + 1) (sAw S c) (S.1 (S.1 (13 + c) - 1) - 1) (0, S.1 (13 + c)) (by omega) (by
            unfold sAw
            by_cases e0 : S.1 (S.1 (13 + c) - 1) = 0
            · rw [if_neg (by omega)]; omega
            · rw [if_pos ⟨hx.1, hx.2, e0⟩]; omega)
          rw [← ih', e_X8_leadsTo_14, show ((i + 1 : Nat) : Int) = (i : Int) + 1 by omega]
          simp (disch := first | assumption | omega | (simp only [zcat_0, zcat_i, zcat_l, zcat_r, zcat_t]; omega) | simp) only [e_X8_leadsTo_16, e_X8_leadsTo_17, e_X8_leadsTo_20, e_X8_leadsTo_21, e_X8_leadsTo_24, e_X8_leadsTo_25, e_X8_leadsTo_26, e_X8_leadsTo_29, e_X8_leadsTo_30, e_X8_leadsTo_33, e_X8_leadsTo_35, e_X8_leadsTo_36, e_X8_leadsTo_37, e_X8_leadsTo_38, e_X8_leadsTo_40, e_X8_leadsTo_42, e_X8_leadsTo_43, e_X8_leadsTo_46, e_X8_leadsTo_49, e_X8_leadsTo_52, e_X8_leadsTo_55, e_X8_leadsTo_56, e_X8_leadsTo_59, e_X8_leadsTo_60, e_X8_leadsTo_62, e_X8_leadsTo_63, e_X8_leadsTo_64, e_X8_leadsTo_65, e_X8_leadsTo_66, e_X8_leadsTo_67, e_X8_leadsTo_68, e_X8_leadsTo_71, e_X8_leadsTo_73, e_X8_leadsTo_74, e_X8_leadsTo_77, zpush_i, zpush_l, zpush_v, Option.bind_some, ↓if_pos, ↓if_neg, Int.reduceAdd, w32_id, hh, hin, es, e3]
        · have hin : Cl d 95 [(1, S.1 (13 + c)), (1, 4), (1, 6)] 92 w = some ((0, 0), 92, w) := by rw [m_in, if_neg hx]
          have ih' := ih (i + 1) (sAw S c) (-9) (0, S.1 (13 + c)) (by omega) (by
            unfold sAw
            rw [if_neg (fun z => hx ⟨z.1, z.2.1⟩)]; omega)
          rw [← ih', e_X8_leadsTo_14, show ((i + 1 : Nat) : Int) = (i : Int) + 1 by omega]
          simp (disch := first | assumption | omega | (simp only [zcat_0, zcat_i, zcat_l, zcat_r, zcat_t]; omega) | simp) only [e_X8_leadsTo_16, e_X8_leadsTo_17, e_X8_leadsTo_20, e_X8_leadsTo_21, e_X8_leadsTo_24, e_X8_leadsTo_25, e_X8_leadsTo_26, e_X8_leadsTo_29, e_X8_leadsTo_30, e_X8_leadsTo_33, e_X8_leadsTo_35, e_X8_leadsTo_36, e_X8_leadsTo_37, e_X8_leadsTo_38, e_X8_leadsTo_40, e_X8_leadsTo_42, e_X8_leadsTo_43, e_X8_leadsTo_46, e_X8_leadsTo_49, e_X8_leadsTo_52, e_X8_leadsTo_55, e_X8_leadsTo_56, e_X8_leadsTo_59, e_X8_leadsTo_60, e_X8_leadsTo_62, e_X8_leadsTo_63, e_X8_leadsTo_64, e_X8_leadsTo_65, e_X8_leadsTo_66, e_X8_leadsTo_67, e_X8_leadsTo_68, e_X8_leadsTo_71, e_X8_leadsTo_73, e_X8_leadsTo_74, e_X8_leadsTo_77, zpush_i, zpush_l, zpush_v, Option.bind_some, ↓if_pos, ↓if_neg, Int.reduceAdd, w32_id, hh, hin]
/-- of four that are not t among three, two are the same: the fifth is not t either -/
theorem sLr_eq (hP : WP P) (hW : WS0 P S) (h0 : 0 ≤ t) (h4 : t < 4) {o : Int} (ho : 0 ≤ o ∧ o < 4) : sLr S t 4 o = sLt S t 4 o := by
  have a1 := sAw_in (t := o) hP hW ho.1 ho.2
  rw [sLr, sLt]
  by_cases e0 : o = 4
  · rw [if_pos e0, if_pos e0]
  rw [if_neg e0, if_neg e0]
  by_cases f0 : o = t
  · rw [if_pos f0, if_pos f0]
  rw [if_neg f0, if_neg f0, sLr, sLt]
  by_cases e1 : sAw S o = 4
  · rw [if_pos e1, if_pos e1]
  rw [if_neg e1, if_neg e1]
  by_cases f1 : sAw S o = t
  · rw [if_pos f1, if_pos f1]
  rw [if_neg f1, if_neg f1, sLr, sLt]
  have b1 : 0 ≤ sAw S o ∧ sAw S o < 4 := by omega
  have a2 := sAw_in (t := sAw S o) hP hW b1.1 b1.2
  by_cases e2 : sAw S (sAw S o) = 4
  · rw [if_pos e2, if_pos e2]
  rw [if_neg e2, if_neg e2]
  by_cases f2 : sAw S (sAw S o) = t
  · rw [if_pos f2, if_pos f2]
  rw [if_neg f2, if_neg f2, sLr, sLt]
  have b2 : 0 ≤ sAw S (sAw S o) ∧ sAw S (sAw S o) < 4 := by omega
  have a3 := sAw_in (t := sAw S (sAw S o)) hP hW b2.1 b2.2
  by_cases e3 : sAw S (sAw S (sAw S o)) = 4
  · rw [if_pos e3, if_pos e3]
  rw [if_neg e3, if_neg e3]
  by_cases f3 : sAw S (sAw S (sAw S o)) = t
  · rw [if_pos f3, if_pos f3]
  rw [if_neg f3, if_neg f3, sLr, sLt]
  have b3 : 0 ≤ sAw S (sAw S (sAw S o)) ∧ sAw S (sAw S (sAw S o)) < 4 := by omega
  apply decide_eq_false
  by_cases g01 : sAw S o = o
  · rw [g01, g01, g01, g01]; exact f0
  by_cases g12 : sAw S (sAw S o) = sAw S o
  · rw [g12, g12, g12]; exact f1
  by_cases g23 : sAw S (sAw S (sAw S o)) = sAw S (sAw S o)
  · rw [g23, g23]; exact f2
  by_cases g02 : sAw S (sAw S o) = o
  · rw [g02, g02]; exact f0
  by_cases g13 : sAw S (sAw S (sAw S o)) = sAw S o
  · rw [g13]; exact f2
  by_cases g03 : sAw S (sAw S (sAw S o)) = o
  · rw [g03]; exact f1
  omega
theorem m_lead (hP : WP P) (hR : RS w (P 0 6) S) (hW : WS0 P S) (h0 : 0 ≤ t) (h4 : t < 4) (hp : 0 ≤ p ∧ p < 3) (ho : S.1 (3 + p) ≠ 0) : Cl (d + 1) 108 [(2, 67), (0, p), (0, t)] 92 w = some ((0, if sLt S t 4 (S.1 (3 + p) - 1) = true then 1 else 0), 92, w) := by
  have zo67 := zo_67; have zo72 := zo_72; have zl72 := zl_72
  obtain ⟨p1, p2, p3, p4, -⟩ := hW.1 p hp.1 hp.2
  have hP4 := hP.2.1
  have e3 := hR.1 (3 + p) (by omega) (by omega)
  have hl := m_lead_l (d := d) (p := p) hP hR hW h0 h4 4 0 (S.1 (3 + p) - 1) (S.1 (3 + p) - 1) (9, 0) rfl (by omega)
  rw [sLr_eq hP hW h0 h4 (by omega)] at hl
  have hl' : Rn (d + 1) 108 14 [(2, 67), (0, p), (0, t), (0, S.1 (3 + p) - 1), (0, 0), (9, 0)] [] 92 w = _ := hl
  show Rn (d + 1) 108 0 [(2, 67), (0, p), (0, t), (9, 0), (9, 0), (9, 0)] [] 92 w = _
  simp (disch := first | assumption | omega | (simp only [zcat_0, zcat_i, zcat_l, zcat_r, zcat_t]; omega) | simp) only [e_X8_leadsTo_0, e_X8_leadsTo_1, e_X8_leadsTo_4, e_X8_leadsTo_5, e_X8_leadsTo_6, e_X8_leadsTo_7, e_X8_leadsTo_8, e_X8_leadsTo_9, e_X8_leadsTo_10, e_X8_leadsTo_11, e_X8_leadsTo_12, zpush_i, zpush_l, zpush_v, Option.bind_some, ↓if_pos, ↓if_neg, Int.reduceAdd, w32_id, e3, hl']
end M3
