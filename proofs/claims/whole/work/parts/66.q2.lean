section Q2
variable {d : Nat} {w : zW} {j x p : Int} {S : Sc} {P : Pg} {Q : Sg}
def qWo (P : Pg) (S : Sc) (x : Int) : Int := if x < -1 then -1 else if 3000 < (aF P S).length then -3 else if aA P S 1 = 0 then -9 else if x = -1 then eD (aF P S) (aA P S 3).toNat else if eD (aF P S) (aA P S 3).toNat ≤ x then -9 else eB (aF P S) (anc (aF P S) (aA P S 3).toNat (eD (aF P S) (aA P S 3).toNat - 1 - x).toNat)
def qUn (Q : Sg) (P : Pg) (S : Sc) (x : Int) : Int := if ¬ (0 ≤ x ∧ x ≤ 1) then -1 else if 3000 < (aF P S).length then -3 else cB x Q (aF P S) (aF P S).length
theorem a3no : ∀ (L : BL) (i : Nat), aWs L i 1 = 0 → aWs L i 3 = -1
  | _, 0, _ => rfl
  | L, i + 1, h => by
    have hI := AI.all L i
    have o : ∀ k, k < 8 → aWo (eS L i) (aWs L i) k = aWs L i k := fun k hk => by
      unfold aWo
      simp (disch := omega) only [su_ne]
    have b : aWb (eS L i) i (aWs L i) 1 = aWs L i 1 ∧ aWb (eS L i) i (aWs L i) 3 = aWs L i 3 := by
      unfold aWb
      split
      · unfold aWe
        simp (disch := omega) only [su_ne]
        exact ⟨o 1 (by omega), o 3 (by omega)⟩
      · exact ⟨o 1 (by omega), o 3 (by omega)⟩
    rw [aWs] at h ⊢
    unfold aW at h ⊢
    split at h
    · exfalso
      unfold aWk at h
      simp (disch := omega) only [su_ne, su_self] at h
      have := hI.2.2.1
      omega
    · next c =>
      rw [if_neg c, b.2]
      rw [b.1] at h
      exact a3no L i h
theorem r_worst (hX : KX w j P S) (hx : -2147483648 ≤ x ∧ x < 2147483648) : ∃ w', Cl (d + 7) 82 [(2, 0), (0, x)] 92 w = some ((0, qWo P S x), 92, w') ∧ (KS w' P S ∨ w' 41 7 = 1) ∧ FK w w' ∧ w32 (w' 55 10) = w' 55 10 := by
  have zo0 := zo_0; have zo41 := zo_41; have zo19 := zo_19
  obtain ⟨h2, hj, hT, hC, hK, hf, hP, hW⟩ := hX
  unfold qWo
  by_cases c : x < -1
  · rw [if_pos c]
    refine ⟨w, ?_, hK, FK.rf, hf⟩
    show Rn (d + 7) 82 0 [(2, 0), (0, x)] [] 92 w = _
    simp (disch := first | assumption | omega | (simp only [zcat_0, zcat_i, zcat_l, zcat_r, zcat_t]; omega) | simp) only [e_X7_worst_0, e_X7_worst_1, e_X7_worst_2, e_X7_worst_5, e_X7_worst_6, zpush_i, zpush_l, zpush_v, Option.bind_some, ↓if_pos, ↓if_neg, Int.reduceAdd, w32_id]
  · rw [if_neg c]
    obtain ⟨w1, q1, q2, q3, q4⟩ := r_knows (d := d) hj hP hW hT hC hK hf
    refine ⟨w1, ?_, Or.inl q2, q3, q4⟩
    show Rn (d + 7) 82 0 [(2, 0), (0, x)] [] 92 w = _
    by_cases cf : 3000 < (aF P S).length
    · rw [if_pos cf] at q1 ⊢
      simp (disch := first | assumption | omega | (simp only [zcat_0, zcat_i, zcat_l, zcat_r, zcat_t]; omega) | simp) only [e_X7_worst_0, e_X7_worst_1, e_X7_worst_2, e_X7_worst_5, e_X7_worst_6, e_X7_worst_7, e_X7_worst_8, e_X7_worst_11, e_X7_worst_12, e_X7_worst_15, e_X7_worst_16, e_X7_worst_19, e_X7_worst_22, e_X7_worst_25, e_X7_worst_27, zpush_i, zpush_l, zpush_v, Option.bind_some, ↓if_pos, ↓if_neg, Int.reduceAdd, w32_id, h2, q1]
    · rw [if_neg cf] at q1 ⊢
      have hl : (aF P S).length ≤ 3000 := by omega
      obtain ⟨k1, k2, k3⟩ := q2
      obtain ⟨a0, a1, a2, a3, a4, a5⟩ := k3 hl
      have a3' : w1 41 13 = aA P S 3 := a3
      have hd : Rn (d + 7) 82 0 [(2, 0), (0, x)] [] 92 w = Rn (d + 7) 82 28 [(2, 0), (0, x)] [] 92 w1 := by
        simp (disch := first | assumption | omega | (simp only [zcat_0, zcat_i, zcat_l, zcat_r, zcat_t]; omega) | simp) only [e_X7_worst_0, e_X7_worst_1, e_X7_worst_2, e_X7_worst_5, e_X7_worst_6, e_X7_worst_7, e_X7_worst_8, e_X7_worst_11, e_X7_worst_12, e_X7_worst_15, e_X7_worst_16, e_X7_worst_19, e_X7_worst_22, zpush_i, zpush_l, zpush_v, Option.bind_some, ↓if_pos, ↓if_neg, Int.reduceAdd, w32_id, h2, q1]
      rw [hd]
      by_cases cs : aA P S 1 = 0
      · rw [if_pos cs]
        have e3 : aA P S 3 = -1 := a3no _ _ cs
        rw [e3] at a3'
        simp (disch := first | assumption | omega | (simp only [zcat_0, zcat_i, zcat_l, zcat_r, zcat_t]; omega) | simp) only [e_X7_worst_28, e_X7_worst_29, e_X7_worst_32, e_X7_worst_35, e_X7_worst_38, e_X7_worst_40, zpush_i, zpush_l, zpush_v, Option.bind_some, ↓if_pos, ↓if_neg, Int.reduceAdd, w32_id, a3']
      · rw [if_neg cs]
        have b := (AJ.all (aF P S) (aF P S).length).2 cs
        have b' : 0 ≤ aA P S 3 ∧ aA P S 3 < (aF P S).length := b
        have hs := r_stepsTo (d := d + 5) k2 (LGa hP hW) hl (i := (aA P S 3).toNat) (by omega)
        rw [show (((aA P S 3).toNat : Nat) : Int) = aA P S 3 by omega] at hs
        by_cases cx : x = -1
        · rw [if_pos cx]
          simp (disch := first | assumption | omega | (simp only [zcat_0, zcat_i, zcat_l, zcat_r, zcat_t]; omega) | simp) only [e_X7_worst_28, e_X7_worst_29, e_X7_worst_32, e_X7_worst_35, e_X7_worst_38, e_X7_worst_40, e_X7_worst_41, e_X7_worst_42, e_X7_worst_43, e_X7_worst_46, e_X7_worst_47, e_X7_worst_50, e_X7_worst_51, e_X7_worst_54, e_X7_worst_57, e_X7_worst_60, e_X7_worst_63, e_X7_worst_64, e_X7_worst_67, e_X7_worst_68, e_X7_worst_71, e_X7_worst_74, e_X7_worst_75, e_X7_worst_78, zpush_i, zpush_l, zpush_v, Option.bind_some, ↓if_pos, ↓if_neg, Int.reduceAdd, w32_id, a3', hs]
        · rw [if_neg cx]
          by_cases cd : eD (aF P S) (aA P S 3).toNat ≤ x
          · rw [if_pos cd]
            have hn := r_stepNo (d := d + 4) (k := x) k2 (LGa hP hW) hl (i := (aA P S 3).toNat) (by omega) (by omega) (Or.inr cd)
            rw [show (((aA P S 3).toNat : Nat) : Int) = aA P S 3 by omega] at hn
            simp (disch := first | assumption | omega | (simp only [zcat_0, zcat_i, zcat_l, zcat_r, zcat_t]; omega) | simp) only [e_X7_worst_28, e_X7_worst_29, e_X7_worst_32, e_X7_worst_35, e_X7_worst_38, e_X7_worst_40, e_X7_worst_41, e_X7_worst_42, e_X7_worst_43, e_X7_worst_46, e_X7_worst_47, e_X7_worst_50, e_X7_worst_51, e_X7_worst_54, e_X7_worst_57, e_X7_worst_60, e_X7_worst_63, e_X7_worst_64, e_X7_worst_67, e_X7_worst_68, e_X7_worst_71, e_X7_worst_74, e_X7_worst_75, e_X7_worst_78, zpush_i, zpush_l, zpush_v, Option.bind_some, ↓if_pos, ↓if_neg, Int.reduceAdd, w32_id, a3', hn]
          · rw [if_neg cd]
            have hn := r_stepper (d := d + 4) (k := x) k2 (LGa hP hW) hl (i := (aA P S 3).toNat) (by omega) (by omega) (by omega)
            rw [show (((aA P S 3).toNat : Nat) : Int) = aA P S 3 by omega] at hn
            simp (disch := first | assumption | omega | (simp only [zcat_0, zcat_i, zcat_l, zcat_r, zcat_t]; omega) | simp) only [e_X7_worst_28, e_X7_worst_29, e_X7_worst_32, e_X7_worst_35, e_X7_worst_38, e_X7_worst_40, e_X7_worst_41, e_X7_worst_42, e_X7_worst_43, e_X7_worst_46, e_X7_worst_47, e_X7_worst_50, e_X7_worst_51, e_X7_worst_54, e_X7_worst_57, e_X7_worst_60, e_X7_worst_63, e_X7_worst_64, e_X7_worst_67, e_X7_worst_68, e_X7_worst_71, e_X7_worst_74, e_X7_worst_75, e_X7_worst_78, zpush_i, zpush_l, zpush_v, Option.bind_some, ↓if_pos, ↓if_neg, Int.reduceAdd, w32_id, a3', hn]
theorem m_worst (hX : MX w P S Q) : ∃ w', Cl (d + 8) 136 [(2, 67), (0, x)] 92 w = some ((0, qWo P S x), 92, w') ∧ RS w' (P 0 6) S ∧ FV w w' := by
  have zo67 := zo_67; have zo84 := zo_84; have zl84 := zl_84
  obtain ⟨hR, hO, hQ, hG, hf, hP, hW⟩ := hX
  unfold qWo
  by_cases c : x < -1
  · rw [if_pos c]
    refine ⟨w, ?_, hR, fun _ _ _ _ _ => rfl⟩
    show Rn (d + 8) 136 0 [(2, 67), (0, x), (9, 0)] [] 92 w = _
    simp (disch := first | assumption | omega | (simp only [zcat_0, zcat_i, zcat_l, zcat_r, zcat_t]; omega) | simp) only [e_X8_worst_0, e_X8_worst_1, e_X8_worst_2, e_X8_worst_5, e_X8_worst_6, zpush_i, zpush_l, zpush_v, Option.bind_some, ↓if_pos, ↓if_neg, Int.reduceAdd, w32_id]
  · rw [if_neg c]
    obtain ⟨w1, q1, q2, q3, q4, q5⟩ := m_counts (d := d) hP hW hR hO hQ hG hf
    refine ⟨w1, ?_, q4, q5⟩
    show Rn (d + 8) 136 0 [(2, 67), (0, x), (9, 0)] [] 92 w = _
    by_cases cf : 3000 < (aF P S).length
    · rw [if_pos cf] at q1 ⊢
      simp (disch := first | assumption | omega | (simp only [zcat_0, zcat_i, zcat_l, zcat_r, zcat_t]; omega) | simp) only [e_X8_worst_0, e_X8_worst_1, e_X8_worst_2, e_X8_worst_5, e_X8_worst_6, e_X8_worst_7, e_X8_worst_8, e_X8_worst_11, e_X8_worst_14, e_X8_worst_16, zpush_i, zpush_l, zpush_v, Option.bind_some, ↓if_pos, ↓if_neg, Int.reduceAdd, w32_id, q1]
    · rw [if_neg cf] at q1 ⊢
      have hl : (aF P S).length ≤ 3000 := by omega
      obtain ⟨m0, m1, m2, m3, m4, m5, m6, m7⟩ := q3 hl
      have m3' : w1 67 32 = if aA P S 1 = 0 then -9 else aA P S 3 := m3
      have hd : Rn (d + 8) 136 0 [(2, 67), (0, x), (9, 0)] [] 92 w = Rn (d + 8) 136 17 [(2, 67), (0, x), (9, 0)] [] 92 w1 := by
        simp (disch := first | assumption | omega | (simp only [zcat_0, zcat_i, zcat_l, zcat_r, zcat_t]; omega) | simp) only [e_X8_worst_0, e_X8_worst_1, e_X8_worst_2, e_X8_worst_5, e_X8_worst_6, e_X8_worst_7, e_X8_worst_8, e_X8_worst_11, zpush_i, zpush_l, zpush_v, Option.bind_some, ↓if_pos, ↓if_neg, Int.reduceAdd, w32_id, q1]
      rw [hd]
      by_cases cs : aA P S 1 = 0
      · rw [if_pos cs]
        rw [if_pos cs] at m3'
        simp (disch := first | assumption | omega | (simp only [zcat_0, zcat_i, zcat_l, zcat_r, zcat_t]; omega) | simp) only [e_X8_worst_17, e_X8_worst_18, e_X8_worst_21, e_X8_worst_24, e_X8_worst_26, zpush_i, zpush_l, zpush_v, Option.bind_some, ↓if_pos, ↓if_neg, Int.reduceAdd, w32_id, m3']
      · rw [if_neg cs]
        rw [if_neg cs] at m3'
        have b : 0 ≤ aA P S 3 ∧ aA P S 3 < (aF P S).length := (AJ.all (aF P S) (aF P S).length).2 cs
        have hLL := LGa hP hW
        have hdp := hLL.dp (aA P S 3).toNat (by omega)
        have e84 := (q2.2.1 (aA P S 3).toNat (by omega)).2.2.2
        rw [show (((aA P S 3).toNat : Nat) : Int) = aA P S 3 by omega] at e84
        by_cases cx : x = -1
        · rw [if_pos cx]
          subst cx
          simp (disch := first | assumption | omega | (simp only [zcat_0, zcat_i, zcat_l, zcat_r, zcat_t]; omega) | simp) only [e_X8_worst_17, e_X8_worst_18, e_X8_worst_21, e_X8_worst_24, e_X8_worst_26, e_X8_worst_27, e_X8_worst_28, e_X8_worst_31, e_X8_worst_32, e_X8_worst_33, e_X8_worst_36, e_X8_worst_37, e_X8_worst_40, e_X8_worst_41, e_X8_worst_44, e_X8_worst_45, e_X8_worst_48, e_X8_worst_49, e_X8_worst_52, e_X8_worst_53, e_X8_worst_56, e_X8_worst_57, e_X8_worst_60, e_X8_worst_62, zpush_i, zpush_l, zpush_v, Option.bind_some, ↓if_pos, ↓if_neg, Int.reduceAdd, w32_id, m3', e84]
        · rw [if_neg cx]
          by_cases cd : eD (aF P S) (aA P S 3).toNat ≤ x
          · rw [if_pos cd]
            simp (disch := first | assumption | omega | (simp only [zcat_0, zcat_i, zcat_l, zcat_r, zcat_t]; omega) | simp) only [e_X8_worst_17, e_X8_worst_18, e_X8_worst_21, e_X8_worst_24, e_X8_worst_26, e_X8_worst_27, e_X8_worst_28, e_X8_worst_31, e_X8_worst_32, e_X8_worst_33, e_X8_worst_36, e_X8_worst_37, e_X8_worst_40, e_X8_worst_41, e_X8_worst_44, e_X8_worst_45, e_X8_worst_48, e_X8_worst_49, e_X8_worst_52, e_X8_worst_53, e_X8_worst_56, e_X8_worst_57, e_X8_worst_60, e_X8_worst_62, zpush_i, zpush_l, zpush_v, Option.bind_some, ↓if_pos, ↓if_neg, Int.reduceAdd, w32_id, m3', e84]
          · rw [if_neg cd]
            have hn := m_anc (d := d + 8) (k := x) q2 hLL (by omega) (eD (aF P S) (aA P S 3).toNat - 1 - x).toNat (aA P S 3).toNat (by omega) (by omega)
            rw [show (((aA P S 3).toNat : Nat) : Int) = aA P S 3 by omega] at hn
            rw [← hn]
            simp (disch := first | assumption | omega | (simp only [zcat_0, zcat_i, zcat_l, zcat_r, zcat_t]; omega) | simp) only [e_X8_worst_17, e_X8_worst_18, e_X8_worst_21, e_X8_worst_24, e_X8_worst_26, e_X8_worst_27, e_X8_worst_28, e_X8_worst_31, e_X8_worst_32, e_X8_worst_33, e_X8_worst_36, e_X8_worst_37, e_X8_worst_40, e_X8_worst_41, e_X8_worst_44, e_X8_worst_45, e_X8_worst_48, e_X8_worst_49, e_X8_worst_52, e_X8_worst_53, e_X8_worst_56, e_X8_worst_57, e_X8_worst_60, e_X8_worst_62, e_X8_worst_63, e_X8_worst_64, e_X8_worst_67, zpush_i, zpush_l, zpush_v, Option.bind_some, ↓if_pos, ↓if_neg, Int.reduceAdd, w32_id, m3', e84]
theorem r_unseen (hX : KX w j P S) (hQ : QG Q) (hG : CSg w Q) : ∃ w', Cl (d + 7) 87 [(2, 0), (0, x)] 92 w = some ((0, qUn Q P S x), 92, w') ∧ (KS w' P S ∨ w' 41 7 = 1) ∧ FK w w' ∧ w32 (w' 55 10) = w' 55 10 := by
  have zo0 := zo_0; have zo41 := zo_41; have zo19 := zo_19; have zo38 := zo_38
  obtain ⟨h2, hj, hT, hC, hK, hf, hP, hW⟩ := hX
  unfold qUn
  by_cases c : ¬ (0 ≤ x ∧ x ≤ 1)
  · rw [if_pos c]
    refine ⟨w, ?_, hK, FK.rf, hf⟩
    show Rn (d + 7) 87 0 [(2, 0), (0, x)] [] 92 w = _
    by_cases c1 : x < 0
    · simp (disch := first | assumption | omega | (simp only [zcat_0, zcat_i, zcat_l, zcat_r, zcat_t]; omega) | simp) only [e_X7_unseen_0, e_X7_unseen_1, e_X7_unseen_4, e_X7_unseen_5, e_X7_unseen_6, e_X7_unseen_9, e_X7_unseen_10, zpush_i, zpush_l, zpush_v, Option.bind_some, ↓if_pos, ↓if_neg, Int.reduceAdd, w32_id]
    · simp (disch := first | assumption | omega | (simp only [zcat_0, zcat_i, zcat_l, zcat_r, zcat_t]; omega) | simp) only [e_X7_unseen_0, e_X7_unseen_1, e_X7_unseen_4, e_X7_unseen_5, e_X7_unseen_6, e_X7_unseen_9, e_X7_unseen_10, zpush_i, zpush_l, zpush_v, Option.bind_some, ↓if_pos, ↓if_neg, Int.reduceAdd, w32_id]
  · rw [if_neg c]
    have c' : 0 ≤ x ∧ x ≤ 1 := by omega
    obtain ⟨w1, q1, q2, q3, q4⟩ := r_knows (d := d) hj hP hW hT hC hK hf
    by_cases cf : 3000 < (aF P S).length
    · rw [if_pos cf] at q1 ⊢
      refine ⟨w1, ?_, Or.inl q2, q3, q4⟩
      show Rn (d + 7) 87 0 [(2, 0), (0, x)] [] 92 w = _
      simp (disch := first | assumption | omega | (simp only [zcat_0, zcat_i, zcat_l, zcat_r, zcat_t]; omega) | simp) only [e_X7_unseen_0, e_X7_unseen_1, e_X7_unseen_4, e_X7_unseen_5, e_X7_unseen_6, e_X7_unseen_9, e_X7_unseen_10, e_X7_unseen_11, e_X7_unseen_12, e_X7_unseen_15, e_X7_unseen_16, e_X7_unseen_19, e_X7_unseen_20, e_X7_unseen_23, e_X7_unseen_26, e_X7_unseen_29, e_X7_unseen_31, zpush_i, zpush_l, zpush_v, Option.bind_some, ↓if_pos, ↓if_neg, Int.reduceAdd, w32_id, h2, q1]
    · rw [if_neg cf] at q1 ⊢
      have hl : (aF P S).length ≤ 3000 := by omega
      obtain ⟨k1, k2, k3⟩ := q2
      obtain ⟨w2, r1, r2, r3⟩ := r_etf (d := d + 3) (b := x) (by omega) hP (LGa hP hW) hl hQ k2 (hG.kk q3)
      refine ⟨w2, ?_, Or.inl ⟨by rw [r3 41 (by omega)]; exact k1, r2, fun z => (k3 z).fr r3 (by omega)⟩, q3.tr (r3.kk (by omega)), by rw [r3 55 (by omega)]; exact q4⟩
      show Rn (d + 7) 87 0 [(2, 0), (0, x)] [] 92 w = _
      have hx : x = 0 ∨ x = 1 := by omega
      rcases hx with rfl | rfl
      · simp (disch := first | assumption | omega | (simp only [zcat_0, zcat_i, zcat_l, zcat_r, zcat_t]; omega) | simp) only [e_X7_unseen_0, e_X7_unseen_1, e_X7_unseen_4, e_X7_unseen_5, e_X7_unseen_6, e_X7_unseen_9, e_X7_unseen_10, e_X7_unseen_11, e_X7_unseen_12, e_X7_unseen_15, e_X7_unseen_16, e_X7_unseen_19, e_X7_unseen_20, e_X7_unseen_23, e_X7_unseen_26, e_X7_unseen_29, e_X7_unseen_31, e_X7_unseen_32, e_X7_unseen_33, e_X7_unseen_36, e_X7_unseen_37, e_X7_unseen_40, e_X7_unseen_41, e_X7_unseen_42, e_X7_unseen_45, e_X7_unseen_46, e_X7_unseen_49, e_X7_unseen_50, e_X7_unseen_53, zpush_i, zpush_l, zpush_v, Option.bind_some, ↓if_pos, ↓if_neg, Int.reduceAdd, w32_id, h2, q1, r1]
      · simp (disch := first | assumption | omega | (simp only [zcat_0, zcat_i, zcat_l, zcat_r, zcat_t]; omega) | simp) only [e_X7_unseen_0, e_X7_unseen_1, e_X7_unseen_4, e_X7_unseen_5, e_X7_unseen_6, e_X7_unseen_9, e_X7_unseen_10, e_X7_unseen_11, e_X7_unseen_12, e_X7_unseen_15, e_X7_unseen_16, e_X7_unseen_19, e_X7_unseen_20, e_X7_unseen_23, e_X7_unseen_26, e_X7_unseen_29, e_X7_unseen_31, e_X7_unseen_32, e_X7_unseen_33, e_X7_unseen_36, e_X7_unseen_37, e_X7_unseen_40, e_X7_unseen_41, e_X7_unseen_42, e_X7_unseen_45, e_X7_unseen_46, e_X7_unseen_49, e_X7_unseen_50, e_X7_unseen_53, zpush_i, zpush_l, zpush_v, Option.bind_some, ↓if_pos, ↓if_neg, Int.reduceAdd, w32_id, h2, q1, r1]
theorem m_unseen (hX : MX w P S Q) : ∃ w', Cl (d + 8) 141 [(2, 67), (0, x)] 92 w = some ((0, qUn Q P S x), 92, w') ∧ RS w' (P 0 6) S ∧ FV w w' := by
  have zo67 := zo_67
  obtain ⟨hR, hO, hQ, hG, hf, hP, hW⟩ := hX
  have hin : Cl (d + 7) 95 [(1, x), (1, 0), (1, 1)] 92 w = some ((0, if 0 ≤ x ∧ x ≤ 1 then 1 else 0), 92, w) := m_in
  unfold qUn
  by_cases c : ¬ (0 ≤ x ∧ x ≤ 1)
  · rw [if_pos c]
    rw [if_neg c] at hin
    refine ⟨w, ?_, hR, fun _ _ _ _ _ => rfl⟩
    show Rn (d + 8) 141 0 [(2, 67), (0, x)] [] 92 w = _
    simp (disch := first | assumption | omega | (simp only [zcat_0, zcat_i, zcat_l, zcat_r, zcat_t]; omega) | simp) only [e_X8_unseen_0, e_X8_unseen_1, e_X8_unseen_2, e_X8_unseen_3, e_X8_unseen_4, e_X8_unseen_7, e_X8_unseen_10, e_X8_unseen_11, zpush_i, zpush_l, zpush_v, Option.bind_some, ↓if_pos, ↓if_neg, Int.reduceAdd, w32_id, hin]
  · rw [if_neg c]
    have c' : 0 ≤ x ∧ x ≤ 1 := by omega
    rw [if_pos c'] at hin
    obtain ⟨w1, q1, q2, q3, q4, q5⟩ := m_counts (d := d) hP hW hR hO hQ hG hf
    refine ⟨w1, ?_, q4, q5⟩
    show Rn (d + 8) 141 0 [(2, 67), (0, x)] [] 92 w = _
    by_cases cf : 3000 < (aF P S).length
    · rw [if_pos cf] at q1 ⊢
      simp (disch := first | assumption | omega | (simp only [zcat_0, zcat_i, zcat_l, zcat_r, zcat_t]; omega) | simp) only [e_X8_unseen_0, e_X8_unseen_1, e_X8_unseen_2, e_X8_unseen_3, e_X8_unseen_4, e_X8_unseen_7, e_X8_unseen_10, e_X8_unseen_11, e_X8_unseen_12, e_X8_unseen_13, e_X8_unseen_16, e_X8_unseen_19, e_X8_unseen_21, e_X8_unseen_24, e_X8_unseen_25, e_X8_unseen_28, e_X8_unseen_29, e_X8_unseen_32, e_X8_unseen_35, e_X8_unseen_36, e_X8_unseen_39, zpush_i, zpush_l, zpush_v, Option.bind_some, ↓if_pos, ↓if_neg, Int.reduceAdd, w32_id, hin, q1]
    · rw [if_neg cf] at q1 ⊢
      obtain ⟨m0, m1, m2, m3, m4, m5, m6, m7⟩ := q3 (by omega)
      have hx : x = 0 ∨ x = 1 := by omega
      rcases hx with rfl | rfl
      · simp (disch := first | assumption | omega | (simp only [zcat_0, zcat_i, zcat_l, zcat_r, zcat_t]; omega) | simp) only [e_X8_unseen_0, e_X8_unseen_1, e_X8_unseen_2, e_X8_unseen_3, e_X8_unseen_4, e_X8_unseen_7, e_X8_unseen_10, e_X8_unseen_11, e_X8_unseen_12, e_X8_unseen_13, e_X8_unseen_16, e_X8_unseen_19, e_X8_unseen_21, e_X8_unseen_24, e_X8_unseen_25, e_X8_unseen_28, e_X8_unseen_29, e_X8_unseen_32, e_X8_unseen_35, e_X8_unseen_36, e_X8_unseen_39, zpush_i, zpush_l, zpush_v, Option.bind_some, ↓if_pos, ↓if_neg, Int.reduceAdd, w32_id, hin, q1, m5]
        rfl
      · simp (disch := first | assumption | omega | (simp only [zcat_0, zcat_i, zcat_l, zcat_r, zcat_t]; omega) | simp) only [e_X8_unseen_0, e_X8_unseen_1, e_X8_unseen_2, e_X8_unseen_3, e_X8_unseen_4, e_X8_unseen_7, e_X8_unseen_10, e_X8_unseen_11, e_X8_unseen_12, e_X8_unseen_13, e_X8_unseen_16, e_X8_unseen_19, e_X8_unseen_21, e_X8_unseen_24, e_X8_unseen_25, e_X8_unseen_28, e_X8_unseen_29, e_X8_unseen_32, e_X8_unseen_35, e_X8_unseen_36, e_X8_unseen_39, zpush_i, zpush_l, zpush_v, Option.bind_some, ↓if_pos, ↓if_neg, Int.reduceAdd, w32_id, hin, q1, m6]
        rfl
end Q2
