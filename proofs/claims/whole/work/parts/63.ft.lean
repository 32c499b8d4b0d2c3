section G1
variable {d : Nat} {w : zW} {n k : Int} {S : Sc} {P : Pg} {L : BL} {Q : Sg}
theorem fF_0 (Q : Sg) (S : Sc) {i : Nat} (h : fF Q S i = 0) : ∀ m : Nat, fF Q S (i + m) = 0
  | 0 => h
  | m + 1 => by
    show (if fF Q S (i + m) ≠ 0 ∧ _ then (1 : Int) else 0) = 0
    rw [if_neg (fun z => z.1 (fF_0 Q S h m))]
theorem r_fit_l (hk : isS k) (hQ : QG Q) (hG : CSg w Q) (hC : CS w k S) : ∀ (u i : Nat) (v : zV), i + u = Q.length → v.1 ≠ 1 → fF Q S i = 1 → Rn (d + 1) 64 2 [(2, 38), (2, k), (0, (i : Int)), v] [] 92 w = some ((0, fF Q S Q.length), 92, w) := by
  have zo38 := zo_38; have zo39 := zo_39; have zl39 := zl_39; have zo40 := zo_40; have zl40 := zl_40
  obtain ⟨z0, zn, z1, y1, z2, y2, z3, y3, z4, y4, z5, y5, z6, y6, z7, y7, z8, y8, z9, y9⟩ := sSall hk
  have hl := hQ.1
  have e1 := hG.1
  intro u
  induction u with
  | zero =>
    intro i v hi hv h1
    obtain rfl : i = Q.length := by omega
    rw [h1]
    by_cases c : (Q.length : Int) < 6
    · simp (disch := first | assumption | omega | (simp only [zcat_0, zcat_i, zcat_l, zcat_r, zcat_t]; omega) | simp) only [e_X5_fit_2, e_X5_fit_3, e_X5_fit_5, e_X5_fit_8, e_X5_fit_9, e_X5_fit_10, e_X5_fit_13, e_X5_fit_53, e_X5_fit_54, zpush_i, zpush_l, zpush_v, Option.bind_some, ↓if_pos, ↓if_neg, Int.reduceAdd, w32_id, e1]
    · simp (disch := first | assumption | omega | (simp only [zcat_0, zcat_i, zcat_l, zcat_r, zcat_t]; omega) | simp) only [e_X5_fit_2, e_X5_fit_3, e_X5_fit_5, e_X5_fit_53, e_X5_fit_54, zpush_i, zpush_l, zpush_v, Option.bind_some, ↓if_pos, ↓if_neg, Int.reduceAdd, w32_id]
  | succ u ih =>
    intro i v hi hv h1
    obtain ⟨s1, s2⟩ := hG.2 i (by omega)
    obtain ⟨g1, g2⟩ := hQ.2 i (by omega)
    have hv' := (hC.1 (Q.getD i (0, 0)).1 g1 g2).1
    have hip := c_isPlace1 (d := d) (w := w) g1 g2
    by_cases h : S.1 (Q.getD i (0, 0)).1 = (Q.getD i (0, 0)).2
    · have h2 : fF Q S (i + 1) = 1 := by rw [fF, if_pos ⟨by omega, h⟩]
      rw [← ih (i + 1) (0, (Q.getD i (0, 0)).1) (by omega) (by simp) h2, show ((i + 1 : Nat) : Int) = (i : Int) + 1 by omega, e_X5_fit_2]
      simp (disch := first | assumption | omega | (simp only [zcat_0, zcat_i, zcat_l, zcat_r, zcat_t]; omega) | simp) only [e_X5_fit_3, e_X5_fit_5, e_X5_fit_8, e_X5_fit_9, e_X5_fit_10, e_X5_fit_13, e_X5_fit_16, e_X5_fit_17, e_X5_fit_20, e_X5_fit_21, e_X5_fit_22, e_X5_fit_23, e_X5_fit_24, e_X5_fit_27, e_X5_fit_30, e_X5_fit_31, e_X5_fit_34, e_X5_fit_35, e_X5_fit_36, e_X5_fit_37, e_X5_fit_40, e_X5_fit_41, e_X5_fit_42, e_X5_fit_45, e_X5_fit_46, e_X5_fit_47, e_X5_fit_50, zpush_i, zpush_l, zpush_v, Option.bind_some, ↓if_pos, ↓if_neg, Int.reduceAdd, w32_id, e1, s1, s2, hip, hv']
    · have h2 : fF Q S (i + 1) = 0 := by rw [fF, if_neg (fun z => h z.2)]
      have h3 : fF Q S Q.length = 0 := by
        have := fF_0 Q S h2 u
        rw [show i + 1 + u = Q.length by omega] at this
        exact this
      rw [h3]
      simp (disch := first | assumption | omega | (simp only [zcat_0, zcat_i, zcat_l, zcat_r, zcat_t]; omega) | simp) only [e_X5_fit_2, e_X5_fit_3, e_X5_fit_5, e_X5_fit_8, e_X5_fit_9, e_X5_fit_10, e_X5_fit_13, e_X5_fit_16, e_X5_fit_17, e_X5_fit_20, e_X5_fit_21, e_X5_fit_22, e_X5_fit_23, e_X5_fit_24, e_X5_fit_27, e_X5_fit_30, e_X5_fit_31, e_X5_fit_34, e_X5_fit_35, e_X5_fit_36, e_X5_fit_37, e_X5_fit_40, e_X5_fit_41, e_X5_fit_42, e_X5_fit_45, e_X5_fit_46, zpush_i, zpush_l, zpush_v, Option.bind_some, ↓if_pos, ↓if_neg, Int.reduceAdd, w32_id, e1, s1, s2, hip, hv']
theorem r_fit (hk : isS k) (hQ : QG Q) (hG : CSg w Q) (hC : CS w k S) : Cl (d + 1) 64 [(2, 38), (2, k)] 92 w = some ((0, fF Q S Q.length), 92, w) := by
  show Rn (d + 1) 64 0 [(2, 38), (2, k), (9, 0), (9, 0)] [] 92 w = _
  rw [← r_fit_l (d := d) hk hQ hG hC Q.length 0 (9, 0) (by omega) (by simp) rfl]
  simp (disch := first | assumption | omega | (simp only [zcat_0, zcat_i, zcat_l, zcat_r, zcat_t]; omega) | simp) only [e_X5_fit_0, e_X5_fit_1, zpush_i, zpush_l, zpush_v, Option.bind_some, ↓if_pos, ↓if_neg, Int.reduceAdd, w32_id]
  rfl
theorem CSg.kk {w' : zW} (h : CSg w Q) (hF : FK w w') : CSg w' Q := by
  have e : ∀ b, b < 41 → w' b = w b := fun b hb => by
    funext i
    exact hF b i (by omega)
  unfold CSg
  rw [e 38 (by omega), e 39 (by omega), e 40 (by omega)]
  exact h
/-- ends that fit, or those that are stuck -/
def cB (b : Int) (Q : Sg) (L : BL) (i : Nat) : Int := if b = 0 then cF Q L i else cK Q L i
theorem r_etf_l {b : Int} (hb : b = 0 ∨ b = 1) (hP : WP P) (hL : LG P L) (hl : L.length ≤ 3000) (hQ : QG Q) : ∀ (u i : Nat) (w : zW) (v : zV), i + u = L.length → v.1 ≠ 1 → CL w L → CSg w Q → ∃ w', Rn (d + 3) 56 5 [(2, 41), (2, 38), (0, b), (0, cB b Q L i), (0, (i : Int)), v] [] 92 w = some ((0, cB b Q L L.length), 92, w') ∧ CL w' L ∧ FR 45 w w' := by
  have zo41 := zo_41; have zo42 := zo_42; have zl42 := zl_42; have zo38 := zo_38; have zo45 := zo_45
  intro u
  induction u with
  | zero =>
    intro i w v hi hv hC hG
    obtain rfl : i = L.length := by omega
    have c1 := hC.1
    refine ⟨w, ?_, hC, FR.rf⟩
    by_cases c : (L.length : Int) < 3000
    · simp (disch := first | assumption | omega | (simp only [zcat_0, zcat_i, zcat_l, zcat_r, zcat_t]; omega) | simp) only [e_X3_endsThatFit_5, e_X3_endsThatFit_7, e_X3_endsThatFit_10, e_X3_endsThatFit_13, e_X3_endsThatFit_15, e_X3_endsThatFit_16, e_X3_endsThatFit_19, e_X3_endsThatFit_84, e_X3_endsThatFit_85, zpush_i, zpush_l, zpush_v, Option.bind_some, ↓if_pos, ↓if_neg, Int.reduceAdd, w32_id, c1]
    · simp (disch := first | assumption | omega | (simp only [zcat_0, zcat_i, zcat_l, zcat_r, zcat_t]; omega) | simp) only [e_X3_endsThatFit_5, e_X3_endsThatFit_7, e_X3_endsThatFit_10, e_X3_endsThatFit_84, e_X3_endsThatFit_85, zpush_i, zpush_l, zpush_v, Option.bind_some, ↓if_pos, ↓if_neg, Int.reduceAdd, w32_id]
  | succ u ih =>
    intro i w v hi hv hC hG
    have hil : i < L.length := by omega
    obtain ⟨c1, c2, c3, c4⟩ := id hC
    obtain ⟨s1, -⟩ := c3 i hil (by omega)
    have hW := hL.2.1 i hil
    obtain ⟨w1, q1, q2, q3, q4⟩ := r_unpack (d := d + 2) (k := 45) (w := w) (by omega) hP hW.1
    have he := r_isEnd (d := d + 2) (k := 45) (by omega) hW.1 q2
    have hs := r_isStuck (d := d + 1) (k := 45) (by omega) hW.1 q2
    have G1 := hG.kk (q3.kk (by omega))
    have hf := r_fit (d := d + 1) (k := 45) (by omega) hQ G1 q2
    have hff := fF_in Q (eS L i) Q.length
    have bF := cF_in Q L i
    have bK := cK_in Q L i
    have C1 := hC.fr q3 (by omega)
    have go : ∀ x : Int, ∃ w', Rn (d + 3) 56 5 [(2, 41), (2, 38), (0, b), (0, cB b Q L (i + 1)), (0, (i : Int) + 1), (0, x)] [] 92 w1 = some ((0, cB b Q L L.length), 92, w') ∧ CL w' L ∧ FR 45 w w' := fun x => by
      obtain ⟨w', g1, g2, g3⟩ := ih (i + 1) w1 (0, x) (by omega) (by simp) C1 G1
      refine ⟨w', ?_, g2, q3.tr g3⟩
      rw [← g1, show ((i + 1 : Nat) : Int) = (i : Int) + 1 by omega]
    have hin : 0 ≤ cB b Q L i ∧ cB b Q L i ≤ i := by
      unfold cB
      split
      · exact bF
      · exact bK
    rcases hb with rfl | rfl
    · have st : cB 0 Q L (i + 1) = cB 0 Q L i + (if bEnd (eS L i) ∧ fF Q (eS L i) Q.length = 1 then 1 else 0) := rfl
      by_cases h1 : bEnd (eS L i)
      · rw [if_pos h1] at he
        obtain ⟨w', g1, g2, g3⟩ := go 1
        refine ⟨w', ?_, g2, g3⟩
        rw [← g1, st, e_X3_endsThatFit_5]
        clear h1
        rcases hff with z | z
        · rw [z] at hf
          rw [if_neg (fun y => by have := y.2; omega), Int.add_zero]
          simp (disch := first | assumption | omega | (simp only [zcat_0, zcat_i, zcat_l, zcat_r, zcat_t]; omega) | simp) only [e_X3_endsThatFit_7, e_X3_endsThatFit_10, e_X3_endsThatFit_13, e_X3_endsThatFit_15, e_X3_endsThatFit_16, e_X3_endsThatFit_19, e_X3_endsThatFit_22, e_X3_endsThatFit_23, e_X3_endsThatFit_26, e_X3_endsThatFit_27, e_X3_endsThatFit_30, e_X3_endsThatFit_32, e_X3_endsThatFit_33, e_X3_endsThatFit_36, e_X3_endsThatFit_37, e_X3_endsThatFit_40, e_X3_endsThatFit_41, e_X3_endsThatFit_44, e_X3_endsThatFit_47, e_X3_endsThatFit_50, e_X3_endsThatFit_51, e_X3_endsThatFit_54, e_X3_endsThatFit_57, e_X3_endsThatFit_59, e_X3_endsThatFit_61, e_X3_endsThatFit_64, e_X3_endsThatFit_65, e_X3_endsThatFit_66, e_X3_endsThatFit_69, e_X3_endsThatFit_72, e_X3_endsThatFit_75, e_X3_endsThatFit_78, e_X3_endsThatFit_81, zpush_i, zpush_l, zpush_v, Option.bind_some, ↓if_pos, ↓if_neg, Int.reduceAdd, w32_id, c1, s1, q1, he, hf]
        · rw [z] at hf
          have h1 : bEnd (eS L i) := by
            by_cases h1 : bEnd (eS L i)
            · exact h1
            · exfalso
              have := r_isEnd (d := d + 2) (k := 45) (by omega) hW.1 q2
              rw [if_neg h1, he] at this
              simp at this
          rw [if_pos ⟨h1, z⟩]
          clear h1
          simp (disch := first | assumption | omega | (simp only [zcat_0, zcat_i, zcat_l, zcat_r, zcat_t]; omega) | simp) only [e_X3_endsThatFit_7, e_X3_endsThatFit_10, e_X3_endsThatFit_13, e_X3_endsThatFit_15, e_X3_endsThatFit_16, e_X3_endsThatFit_19, e_X3_endsThatFit_22, e_X3_endsThatFit_23, e_X3_endsThatFit_26, e_X3_endsThatFit_27, e_X3_endsThatFit_30, e_X3_endsThatFit_32, e_X3_endsThatFit_33, e_X3_endsThatFit_36, e_X3_endsThatFit_37, e_X3_endsThatFit_40, e_X3_endsThatFit_41, e_X3_endsThatFit_44, e_X3_endsThatFit_47, e_X3_endsThatFit_50, e_X3_endsThatFit_51, e_X3_endsThatFit_54, e_X3_endsThatFit_57, e_X3_endsThatFit_59, e_X3_endsThatFit_61, e_X3_endsThatFit_64, e_X3_endsThatFit_65, e_X3_endsThatFit_66, e_X3_endsThatFit_69, e_X3_endsThatFit_72, e_X3_endsThatFit_75, e_X3_endsThatFit_78, e_X3_endsThatFit_81, zpush_i, zpush_l, zpush_v, Option.bind_some, ↓if_pos, ↓if_neg, Int.reduceAdd, w32_id, c1, s1, q1, he, hf]
      · rw [if_neg h1] at he
        obtain ⟨w', g1, g2, g3⟩ := go 0
        refine ⟨w', ?_, g2, g3⟩
        rw [← g1, st, if_neg (fun y => h1 y.1), Int.add_zero, e_X3_endsThatFit_5]
        clear h1
        simp (disch := first | assumption | omega | (simp only [zcat_0, zcat_i, zcat_l, zcat_r, zcat_t]; omega) | simp) only [e_X3_endsThatFit_7, e_X3_endsThatFit_10, e_X3_endsThatFit_13, e_X3_endsThatFit_15, e_X3_endsThatFit_16, e_X3_endsThatFit_19, e_X3_endsThatFit_22, e_X3_endsThatFit_23, e_X3_endsThatFit_26, e_X3_endsThatFit_27, e_X3_endsThatFit_30, e_X3_endsThatFit_32, e_X3_endsThatFit_33, e_X3_endsThatFit_36, e_X3_endsThatFit_37, e_X3_endsThatFit_40, e_X3_endsThatFit_41, e_X3_endsThatFit_44, e_X3_endsThatFit_47, e_X3_endsThatFit_50, e_X3_endsThatFit_51, e_X3_endsThatFit_54, e_X3_endsThatFit_57, e_X3_endsThatFit_59, e_X3_endsThatFit_61, e_X3_endsThatFit_64, e_X3_endsThatFit_65, e_X3_endsThatFit_66, e_X3_endsThatFit_69, e_X3_endsThatFit_72, e_X3_endsThatFit_75, e_X3_endsThatFit_78, e_X3_endsThatFit_81, zpush_i, zpush_l, zpush_v, Option.bind_some, ↓if_pos, ↓if_neg, Int.reduceAdd, w32_id, c1, s1, q1, he]
    · have st : cB 1 Q L (i + 1) = cB 1 Q L i + (if (bEnd (eS L i) ∧ ¬ bDn (eS L i)) ∧ fF Q (eS L i) Q.length = 1 then 1 else 0) := rfl
      generalize hg : (if (bEnd (eS L i) ∧ ¬ bDn (eS L i)) ∧ fF Q (eS L i) Q.length = 1 then (1 : Int) else 0) = g at st
      by_cases h1 : bEnd (eS L i) ∧ ¬ bDn (eS L i)
      · rw [if_pos h1] at hs
        obtain ⟨w', g1, g2, g3⟩ := go 1
        refine ⟨w', ?_, g2, g3⟩
        rw [← g1, st, e_X3_endsThatFit_5]
        rcases hff with z | z
        · rw [z] at hf
          rw [if_neg (fun y => by have := y.2; omega)] at hg
          subst hg
          clear h1
          rw [Int.add_zero]
          simp (disch := first | assumption | omega | (simp only [zcat_0, zcat_i, zcat_l, zcat_r, zcat_t]; omega) | simp) only [e_X3_endsThatFit_7, e_X3_endsThatFit_10, e_X3_endsThatFit_13, e_X3_endsThatFit_15, e_X3_endsThatFit_16, e_X3_endsThatFit_19, e_X3_endsThatFit_22, e_X3_endsThatFit_23, e_X3_endsThatFit_26, e_X3_endsThatFit_27, e_X3_endsThatFit_30, e_X3_endsThatFit_32, e_X3_endsThatFit_33, e_X3_endsThatFit_36, e_X3_endsThatFit_37, e_X3_endsThatFit_40, e_X3_endsThatFit_41, e_X3_endsThatFit_44, e_X3_endsThatFit_47, e_X3_endsThatFit_50, e_X3_endsThatFit_51, e_X3_endsThatFit_54, e_X3_endsThatFit_57, e_X3_endsThatFit_59, e_X3_endsThatFit_61, e_X3_endsThatFit_64, e_X3_endsThatFit_65, e_X3_endsThatFit_66, e_X3_endsThatFit_69, e_X3_endsThatFit_72, e_X3_endsThatFit_75, e_X3_endsThatFit_78, e_X3_endsThatFit_81, zpush_i, zpush_l, zpush_v, Option.bind_some, ↓if_pos, ↓if_neg, Int.reduceAdd, w32_id, c1, s1, q1, hs, hf]
        · rw [z] at hf
          rw [if_pos ⟨h1, z⟩] at hg
          subst hg
          clear h1
          simp (disch := first | assumption | omega | (simp only [zcat_0, zcat_i, zcat_l, zcat_r, zcat_t]; omega) | simp) only [e_X3_endsThatFit_7, e_X3_endsThatFit_10, e_X3_endsThatFit_13, e_X3_endsThatFit_15, e_X3_endsThatFit_16, e_X3_endsThatFit_19, e_X3_endsThatFit_22, e_X3_endsThatFit_23, e_X3_endsThatFit_26, e_X3_endsThatFit_27, e_X3_endsThatFit_30, e_X3_endsThatFit_32, e_X3_endsThatFit_33, e_X3_endsThatFit_36, e_X3_endsThatFit_37, e_X3_endsThatFit_40, e_X3_endsThatFit_41, e_X3_endsThatFit_44, e_X3_endsThatFit_47, e_X3_endsThatFit_50, e_X3_endsThatFit_51, e_X3_endsThatFit_54, e_X3_endsThatFit_57, e_X3_endsThatFit_59, e_X3_endsThatFit_61, e_X3_endsThatFit_64, e_X3_endsThatFit_65, e_X3_endsThatFit_66, e_X3_endsThatFit_69, e_X3_endsThatFit_72, e_X3_endsThatFit_75, e_X3_endsThatFit_78, e_X3_endsThatFit_81, zpush_i, zpush_l, zpush_v, Option.bind_some, ↓if_pos, ↓if_neg, Int.reduceAdd, w32_id, c1, s1, q1, hs, hf]
      · rw [if_neg h1] at hs
        obtain ⟨w', g1, g2, g3⟩ := go 0
        refine ⟨w', ?_, g2, g3⟩
        rw [if_neg (fun y => h1 y.1)] at hg
        subst hg
        rw [← g1, st, Int.add_zero, e_X3_endsThatFit_5]
        clear h1
        simp (disch := first | assumption | omega | (simp only [zcat_0, zcat_i, zcat_l, zcat_r, zcat_t]; omega) | simp) only [e_X3_endsThatFit_7, e_X3_endsThatFit_10, e_X3_endsThatFit_13, e_X3_endsThatFit_15, e_X3_endsThatFit_16, e_X3_endsThatFit_19, e_X3_endsThatFit_22, e_X3_endsThatFit_23, e_X3_endsThatFit_26, e_X3_endsThatFit_27, e_X3_endsThatFit_30, e_X3_endsThatFit_32, e_X3_endsThatFit_33, e_X3_endsThatFit_36, e_X3_endsThatFit_37, e_X3_endsThatFit_40, e_X3_endsThatFit_41, e_X3_endsThatFit_44, e_X3_endsThatFit_47, e_X3_endsThatFit_50, e_X3_endsThatFit_51, e_X3_endsThatFit_54, e_X3_endsThatFit_57, e_X3_endsThatFit_59, e_X3_endsThatFit_61, e_X3_endsThatFit_64, e_X3_endsThatFit_65, e_X3_endsThatFit_66, e_X3_endsThatFit_69, e_X3_endsThatFit_72, e_X3_endsThatFit_75, e_X3_endsThatFit_78, e_X3_endsThatFit_81, zpush_i, zpush_l, zpush_v, Option.bind_some, ↓if_pos, ↓if_neg, Int.reduceAdd, w32_id, c1, s1, q1, hs]
theorem r_etf {b : Int} (hb : b = 0 ∨ b = 1) (hP : WP P) (hL : LG P L) (hl : L.length ≤ 3000) (hQ : QG Q) (hC : CL w L) (hG : CSg w Q) : ∃ w', Cl (d + 3) 56 [(2, 41), (2, 38), (0, b)] 92 w = some ((0, cB b Q L L.length), 92, w') ∧ CL w' L ∧ FR 45 w w' := by
  have zo41 := zo_41
  obtain ⟨w', g1, g2, g3⟩ := r_etf_l (d := d) hb hP hL hl hQ L.length 0 w (9, 0) (by omega) (by simp) hC hG
  refine ⟨w', ?_, g2, g3⟩
  show Rn (d + 3) 56 0 [(2, 41), (2, 38), (0, b), (9, 0), (9, 0), (9, 0)] [] 92 w = _
  rw [← g1]
  have e0 : cB b Q L 0 = 0 := by unfold cB; split <;> rfl
  rw [e0]
  simp (disch := first | assumption | omega | (simp only [zcat_0, zcat_i, zcat_l, zcat_r, zcat_t]; omega) | simp) only [e_X3_endsThatFit_0, e_X3_endsThatFit_1, e_X3_endsThatFit_2, e_X3_endsThatFit_3, zpush_i, zpush_l, zpush_v, Option.bind_some, ↓if_pos, ↓if_neg, Int.reduceAdd, w32_id]
  rfl
end G1
