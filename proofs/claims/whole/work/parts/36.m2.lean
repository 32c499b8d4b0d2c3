theorem rE_q (r : List Int) (i : Nat) : rE r i = (r[i]?.map (fun x => x + 1)).getD 0 := by
  unfold rE
  by_cases h : i < r.length
  · rw [if_pos h, List.getElem?_eq_getElem h, List.getD_eq_getElem?_getD, List.getElem?_eq_getElem h]
    rfl
  · rw [if_neg h, List.getElem?_eq_none (by omega)]
    rfl
theorem rE_er (r : List Int) (i y : Nat) : rE (r.eraseIdx i) y = if y < i then rE r y else rE r (y + 1) := by
  rw [rE_q, rE_q, rE_q, List.getElem?_eraseIdx]
  split <;> rfl
theorem er_fil : ∀ {r : List Int} {i : Nat}, r.Nodup → i < r.length → r.eraseIdx i = r.filter (fun x => x ≠ r.getD i 0)
  | [], i, _, h => absurd h (Nat.not_lt_zero _)
  | a :: r, 0, hn, _ => by
    have h1 := (List.nodup_cons.mp hn).1
    show r = List.filter (fun x => x ≠ a) (a :: r)
    rw [List.filter_cons_of_neg (by simp)]
    symm
    rw [List.filter_eq_self]
    intro x hx
    simp only [ne_eq, decide_eq_true_eq]
    rintro rfl
    exact h1 hx
  | a :: r, i + 1, hn, h => by
    have h1 := (List.nodup_cons.mp hn).1
    have h2 := (List.nodup_cons.mp hn).2
    have hi : i < r.length := by simpa using h
    show a :: r.eraseIdx i = List.filter (fun x => x ≠ r.getD i 0) (a :: r)
    rw [List.filter_cons_of_pos, er_fil h2 hi]
    simp only [ne_eq, decide_eq_true_eq]
    rintro rfl
    exact h1 (getD_mem hi)
section M2
variable {d : Nat} {w : zW} {t p q n : Int} {S : Sc} {P : Pg}
theorem m_shift {i : Nat} (hi : i < 4) {b : Int} (hb : w 72 (21 + i) = b) (h1 : -1000 < b) (h2 : b < 1000) : ∃ w', Cl d 103 [(2, 67), (0, (i : Int))] 92 w = Rn d 103 53 [(2, 67), (0, (i : Int)), (0, b - 1), (0, 3)] [] 92 w' ∧ (∀ y : Nat, y < 4 → w' 72 (21 + y) = if y < i then w 72 (21 + y) else if y = 3 then 0 else w 72 (21 + y + 1)) ∧ (∀ a j, (a ≠ 72 ∨ j < 21) → w' a j = w a j) := by
  have zo67 := zo_67; have zo72 := zo_72; have zl72 := zl_72
  have hi' : i = 0 ∨ i = 1 ∨ i = 2 ∨ i = 3 := by omega
  rcases hi' with rfl | rfl | rfl | rfl
  · refine ⟨zup (zup (zup (zup w 72 21 (w 72 22)) 72 22 (w 72 23)) 72 23 (w 72 24)) 72 24 0, ?_, fun y hy => ?_, fun a j h => ?_⟩
    · show Rn d 103 0 [(2, 67), (0, 0), (9, 0), (9, 0)] [] 92 w = Rn d 103 53 [(2, 67), (0, 0), (0, b - 1), (0, 3)] [] 92 _
      have hb' : w 72 21 = b := hb
      simp (disch := first | assumption | omega | (simp only [zcat_0, zcat_i, zcat_l, zcat_r, zcat_t]; omega) | simp) only [e_X8_wakeFrom_0, e_X8_wakeFrom_1, e_X8_wakeFrom_4, e_X8_wakeFrom_6, e_X8_wakeFrom_7, e_X8_wakeFrom_8, e_X8_wakeFrom_9, e_X8_wakeFrom_10, e_X8_wakeFrom_11, e_X8_wakeFrom_12, e_X8_wakeFrom_13, e_X8_wakeFrom_14, e_X8_wakeFrom_15, e_X8_wakeFrom_16, e_X8_wakeFrom_19, e_X8_wakeFrom_20, e_X8_wakeFrom_23, e_X8_wakeFrom_25, e_X8_wakeFrom_26, e_X8_wakeFrom_27, e_X8_wakeFrom_28, e_X8_wakeFrom_31, e_X8_wakeFrom_33, e_X8_wakeFrom_34, e_X8_wakeFrom_35, e_X8_wakeFrom_36, e_X8_wakeFrom_37, e_X8_wakeFrom_38, e_X8_wakeFrom_39, e_X8_wakeFrom_42, e_X8_wakeFrom_45, e_X8_wakeFrom_46, e_X8_wakeFrom_49, e_X8_wakeFrom_51, e_X8_wakeFrom_52, zpush_i, zpush_l, zpush_v, Option.bind_some, ↓if_pos, ↓if_neg, Int.reduceAdd, w32_id, zup_off, hb']
    · have : y = 0 ∨ y = 1 ∨ y = 2 ∨ y = 3 := by omega
      rcases this with rfl | rfl | rfl | rfl <;> rfl
    · simp (disch := omega) only [zup_off]
  · refine ⟨zup (zup (zup w 72 22 (w 72 23)) 72 23 (w 72 24)) 72 24 0, ?_, fun y hy => ?_, fun a j h => ?_⟩
    · show Rn d 103 0 [(2, 67), (0, 1), (9, 0), (9, 0)] [] 92 w = Rn d 103 53 [(2, 67), (0, 1), (0, b - 1), (0, 3)] [] 92 _
      have hb' : w 72 22 = b := hb
      simp (disch := first | assumption | omega | (simp only [zcat_0, zcat_i, zcat_l, zcat_r, zcat_t]; omega) | simp) only [e_X8_wakeFrom_0, e_X8_wakeFrom_1, e_X8_wakeFrom_4, e_X8_wakeFrom_6, e_X8_wakeFrom_7, e_X8_wakeFrom_8, e_X8_wakeFrom_9, e_X8_wakeFrom_10, e_X8_wakeFrom_11, e_X8_wakeFrom_12, e_X8_wakeFrom_13, e_X8_wakeFrom_14, e_X8_wakeFrom_15, e_X8_wakeFrom_16, e_X8_wakeFrom_19, e_X8_wakeFrom_20, e_X8_wakeFrom_23, e_X8_wakeFrom_25, e_X8_wakeFrom_26, e_X8_wakeFrom_27, e_X8_wakeFrom_28, e_X8_wakeFrom_31, e_X8_wakeFrom_33, e_X8_wakeFrom_34, e_X8_wakeFrom_35, e_X8_wakeFrom_36, e_X8_wakeFrom_37, e_X8_wakeFrom_38, e_X8_wakeFrom_39, e_X8_wakeFrom_42, e_X8_wakeFrom_45, e_X8_wakeFrom_46, e_X8_wakeFrom_49, e_X8_wakeFrom_51, e_X8_wakeFrom_52, zpush_i, zpush_l, zpush_v, Option.bind_some, ↓if_pos, ↓if_neg, Int.reduceAdd, w32_id, zup_off, hb']
    · have : y = 0 ∨ y = 1 ∨ y = 2 ∨ y = 3 := by omega
      rcases this with rfl | rfl | rfl | rfl <;> rfl
    · simp (disch := omega) only [zup_off]
  · refine ⟨zup (zup w 72 23 (w 72 24)) 72 24 0, ?_, fun y hy => ?_, fun a j h => ?_⟩
    · show Rn d 103 0 [(2, 67), (0, 2), (9, 0), (9, 0)] [] 92 w = Rn d 103 53 [(2, 67), (0, 2), (0, b - 1), (0, 3)] [] 92 _
      have hb' : w 72 23 = b := hb
      simp (disch := first | assumption | omega | (simp only [zcat_0, zcat_i, zcat_l, zcat_r, zcat_t]; omega) | simp) only [e_X8_wakeFrom_0, e_X8_wakeFrom_1, e_X8_wakeFrom_4, e_X8_wakeFrom_6, e_X8_wakeFrom_7, e_X8_wakeFrom_8, e_X8_wakeFrom_9, e_X8_wakeFrom_10, e_X8_wakeFrom_11, e_X8_wakeFrom_12, e_X8_wakeFrom_13, e_X8_wakeFrom_14, e_X8_wakeFrom_15, e_X8_wakeFrom_16, e_X8_wakeFrom_19, e_X8_wakeFrom_20, e_X8_wakeFrom_23, e_X8_wakeFrom_25, e_X8_wakeFrom_26, e_X8_wakeFrom_27, e_X8_wakeFrom_28, e_X8_wakeFrom_31, e_X8_wakeFrom_33, e_X8_wakeFrom_34, e_X8_wakeFrom_35, e_X8_wakeFrom_36, e_X8_wakeFrom_37, e_X8_wakeFrom_38, e_X8_wakeFrom_39, e_X8_wakeFrom_42, e_X8_wakeFrom_45, e_X8_wakeFrom_46, e_X8_wakeFrom_49, e_X8_wakeFrom_51, e_X8_wakeFrom_52, zpush_i, zpush_l, zpush_v, Option.bind_some, ↓if_pos, ↓if_neg, Int.reduceAdd, w32_id, zup_off, hb']
    · have : y = 0 ∨ y = 1 ∨ y = 2 ∨ y = 3 := by omega
      rcases this with rfl | rfl | rfl | rfl <;> rfl
    · simp (disch := omega) only [zup_off]
  · refine ⟨zup w 72 24 0, ?_, fun y hy => ?_, fun a j h => ?_⟩
    · show Rn d 103 0 [(2, 67), (0, 3), (9, 0), (9, 0)] [] 92 w = Rn d 103 53 [(2, 67), (0, 3), (0, b - 1), (0, 3)] [] 92 _
      have hb' : w 72 24 = b := hb
      simp (disch := first | assumption | omega | (simp only [zcat_0, zcat_i, zcat_l, zcat_r, zcat_t]; omega) | simp) only [e_X8_wakeFrom_0, e_X8_wakeFrom_1, e_X8_wakeFrom_4, e_X8_wakeFrom_6, e_X8_wakeFrom_7, e_X8_wakeFrom_8, e_X8_wakeFrom_9, e_X8_wakeFrom_10, e_X8_wakeFrom_11, e_X8_wakeFrom_12, e_X8_wakeFrom_13, e_X8_wakeFrom_14, e_X8_wakeFrom_15, e_X8_wakeFrom_16, e_X8_wakeFrom_19, e_X8_wakeFrom_20, e_X8_wakeFrom_23, e_X8_wakeFrom_25, e_X8_wakeFrom_26, e_X8_wakeFrom_27, e_X8_wakeFrom_28, e_X8_wakeFrom_31, e_X8_wakeFrom_33, e_X8_wakeFrom_34, e_X8_wakeFrom_35, e_X8_wakeFrom_36, e_X8_wakeFrom_37, e_X8_wakeFrom_38, e_X8_wakeFrom_39, e_X8_wakeFrom_42, e_X8_wakeFrom_45, e_X8_wakeFrom_46, e_X8_wakeFrom_49, e_X8_wakeFrom_51, e_X8_wakeFrom_52, zpush_i, zpush_l, zpush_v, Option.bind_some, ↓if_pos, ↓if_neg, Int.reduceAdd, w32_id, zup_off, hb']
    · have : y = 0 ∨ y = 1 ∨ y = 2 ∨ y = 3 := by omega
      rcases this with rfl | rfl | rfl | rfl <;> rfl
    · simp (disch := omega) only [zup_off]
theorem m_wkf {i : Nat} (hi : i < S.2.length) (hP : WP P) (hW : WS0 P S) (hR : RS w (P 0 6) S) (hO : PO w P) : ∃ w', Cl (d + 1) 103 [(2, 67), (0, (i : Int))] 92 w = some ((9, 0), 92, w') ∧ RS w' (P 0 6) (sRl P (S.2.getD i 0) S) ∧ FQ w w' ∧ w' 67 6 = w 67 6 := by
  have zo67 := zo_67; have zo72 := zo_72; have zl72 := zl_72
  have hl := row_len hW
  have hin := getD_mem (l := S.2) (i := i) hi
  obtain ⟨t0, tn, t4⟩ := row_lt hW hP hin
  obtain ⟨b1, b2, b3⟩ := hR
  have e := b3 i (by omega)
  rw [rE_pos hi] at e
  obtain ⟨w1, q1, q2, q3⟩ := m_shift (d := d + 1) (w := w) (i := i) (by omega) e (by omega) (by omega)
  have R1 : RS w1 (P 0 6) (S.1, S.2.eraseIdx i) := by
    refine ⟨fun j j0 j1 => ?_, fun u u0 u4 => ?_, fun y hy => ?_⟩
    · rw [q3 72 j (by omega)]; exact b1 j j0 j1
    · rw [q3 72 (13 + u) (by omega), q3 72 (17 + u) (by omega)]; exact b2 u u0 u4
    · rw [q2 y hy]
      show _ = rE (S.2.eraseIdx i) y
      rw [rE_er]
      by_cases h1 : y < i
      · rw [if_pos h1, if_pos h1, b3 y hy]
      · rw [if_neg h1, if_neg h1]
        by_cases h3 : y = 3
        · rw [if_pos h3, rE_no (by omega)]
        · rw [if_neg h3, ← b3 (y + 1) (by omega)]
          congr 1
  have F1 : FQ w w1 := fun a j h1 h2 h3 => q3 a j (Or.inl h1)
  obtain ⟨f1, f2, f3, f4, f5, f6⟩ := hW.2.1 _ t0 t4
  have hm := (hW.2.2.2 _).mp hin
  obtain ⟨w2, g1, g2, g3, g4⟩ := m_goOn (d := d) (t := S.2.getD i 0) ⟨t0, tn⟩ hP R1 (hO.fq F1) ⟨f1, f5 (by omega)⟩
  rw [er_fil hW.2.2.1 hi] at g2
  refine ⟨w2, ?_, g2, F1.tr g3, by rw [g4, q3 67 6 (by omega)]⟩
  rw [q1, show S.2.getD i 0 + 1 - 1 = S.2.getD i 0 by omega]
  simp (disch := first | assumption | omega | (simp only [zcat_0, zcat_i, zcat_l, zcat_r, zcat_t]; omega) | simp) only [e_X8_wakeFrom_53, e_X8_wakeFrom_54, e_X8_wakeFrom_55, e_X8_wakeFrom_58, zpush_i, zpush_l, zpush_v, Option.bind_some, ↓if_pos, ↓if_neg, Int.reduceAdd, w32_id, g1]
theorem sWk_none : ∀ (m : Nat), sFa S.1 p S.2 = 4 → sWk P p m S = S
  | 0, _ => rfl
  | m + 1, h => by
    rw [sWk, if_pos h]
    exact sWk_none m h
theorem sFa_drop {s : Int → Int} : ∀ (r : List Int) (i : Nat), (∀ x, x < i → x < r.length → s (13 + r.getD x 0) ≠ 1 + p) → sFa s p r = sFa s p (r.drop i)
  | [], i, _ => by rw [List.drop_nil]
  | a :: r, 0, _ => rfl
  | a :: r, i + 1, h => by
    have h0 : s (13 + a) ≠ 1 + p := h 0 (by omega) (by simp)
    rw [List.drop_succ_cons, sFa, if_neg h0]
    exact sFa_drop r i (fun x h1 h2 => h (x + 1) (by omega) (by simpa using h2))
theorem m_wake_l (hP : WP P) (hp : 0 ≤ p ∧ p < 3) {N : Int} : ∀ (m l i : Nat) (w : zW) (S : Sc), l ≤ 3 → i ≤ S.2.length → m = l + (S.2.length - i) → RS w (P 0 6) S → PO w P → WS0 P S → (∀ x, x < i → x < S.2.length → S.1 (13 + S.2.getD x 0) ≠ 1 + p) → ∃ w', Rn (d + 2) 106 5 [(2, 67), (0, p), (0, N), (0, (l : Int)), (0, (i : Int))] [] 92 w = some ((9, 0), 92, w') ∧ RS w' (P 0 6) (sWk P p l S) ∧ FQ w w' ∧ w' 67 6 = w 67 6 := by
  have zo67 := zo_67; have zo72 := zo_72; have zl72 := zl_72
  intro m
  induction m using Nat.strongRecOn with
  | ind m ih =>
    intro l i w S hl hi hm hR hO hW hx
    have hl4 := row_len hW
    have hlt : ∀ u, u ∈ S.2 → 0 ≤ u ∧ u < P 0 6 ∧ u < 4 := fun u hu => row_lt hW hP hu
    obtain ⟨b1, b2, b3⟩ := id hR
    by_cases h1 : i < S.2.length
    · have e := b3 i (by omega)
      rw [rE_pos h1] at e
      have hin := getD_mem (l := S.2) (i := i) h1
      obtain ⟨t0, tn, t4⟩ := hlt _ hin
      by_cases h2 : l = 0
      · subst h2
        refine ⟨w, ?_, hR, FQ.rf, rfl⟩
        simp (disch := first | assumption | omega | (simp only [zcat_0, zcat_i, zcat_l, zcat_r, zcat_t]; omega) | simp) only [e_X8_wake_5, e_X8_wake_7, e_X8_wake_8, e_X8_wake_11, e_X8_wake_12, e_X8_wake_15, e_X8_wake_17, e_X8_wake_19, e_X8_wake_20, e_X8_wake_21, e_X8_wake_24, e_X8_wake_25, e_X8_wake_72, zpush_i, zpush_l, zpush_v, Option.bind_some, ↓if_pos, ↓if_neg, Int.reduceAdd, w32_id, e, Int.natCast_zero]
      · have e2 := (b2 (S.2.getD i 0) t0 t4).1
        rw [if_pos tn] at e2
        have hfa := sFa_drop (s := S.1) (p := p) S.2 i hx
        rw [drop_cons h1, sFa] at hfa
        by_cases h3 : S.1 (13 + S.2.getD i 0) = 1 + p
        · rw [if_pos h3] at hfa
          obtain ⟨w1, q1, q2, q3, q4⟩ := m_wkf (d := d) h1 hP hW hR hO
          have W1 := hW.rl hin
          have er : (sRl P (S.2.getD i 0) S).2 = S.2.eraseIdx i := (er_fil hW.2.2.1 h1).symm
          have el : (sRl P (S.2.getD i 0) S).2.length = S.2.length - 1 := by rw [er, List.length_eraseIdx_of_lt h1]
          obtain ⟨w2, g1, g2, g3, g4⟩ := ih (m - 2) (by omega) (l - 1) i w1 (sRl P (S.2.getD i 0) S) (by omega) (by omega) (by omega) q2 (hO.fq q3) W1 (fun x x1 x2 => by
            have ex : (sRl P (S.2.getD i 0) S).2.getD x 0 = S.2.getD x 0 := by
              rw [er, List.getD_eq_getElem?_getD, List.getD_eq_getElem?_getD, List.getElem?_eraseIdx, if_pos x1]
            rw [ex]
            have hxm := getD_mem (l := S.2) (i := x) (by omega)
            have hne : S.2.getD x 0 ≠ S.2.getD i 0 := by
              intro q
              rw [List.getD_eq_getElem?_getD, List.getD_eq_getElem?_getD, List.getElem?_eq_getElem (by omega : x < S.2.length), List.getElem?_eq_getElem h1] at q
              exact List.pairwise_iff_getElem.mp hW.2.2.1 x i (by omega) h1 x1 (by simpa using q)
            have hx0 := hlt _ hxm
            rw [(sRl_off hne hx0.1 hx0.2.2 t0 t4).2.1]
            exact hx x x1 (by omega))
          have el1 : l = (l - 1) + 1 := by omega
          refine ⟨w2, ?_, ?_, q3.tr g3, by rw [g4, q4]⟩
          · rw [← g1, e_X8_wake_5, show ((l - 1 : Nat) : Int) = (l : Int) + -1 by omega]
            have e3 : 13 + (S.2.getD i 0 + 1) - 1 = 13 + S.2.getD i 0 := by omega
            simp (disch := first | assumption | omega | (simp only [zcat_0, zcat_i, zcat_l, zcat_r, zcat_t]; omega) | simp) only [e_X8_wake_7, e_X8_wake_8, e_X8_wake_11, e_X8_wake_12, e_X8_wake_15, e_X8_wake_17, e_X8_wake_19, e_X8_wake_20, e_X8_wake_21, e_X8_wake_24, e_X8_wake_25, e_X8_wake_28, e_X8_wake_29, e_X8_wake_32, e_X8_wake_34, e_X8_wake_35, e_X8_wake_38, e_X8_wake_40, e_X8_wake_42, e_X8_wake_43, e_X8_wake_44, e_X8_wake_45, e_X8_wake_46, e_X8_wake_47, e_X8_wake_48, e_X8_wake_49, e_X8_wake_50, e_X8_wake_51, e_X8_wake_54, e_X8_wake_55, e_X8_wake_57, e_X8_wake_60, e_X8_wake_63, zpush_i, zpush_l, zpush_v, Option.bind_some, ↓if_pos, ↓if_neg, Int.reduceAdd, w32_id, e, e2, e3, h3, q1]
          · rw [el1, sWk, hfa, if_neg (by omega)]
            exact g2
        · obtain ⟨w2, g1, g2, g3, g4⟩ := ih (m - 1) (by omega) l (i + 1) w S hl (by omega) (by omega) hR hO hW (fun x x1 x2 => by
            by_cases ex : x = i
            · subst ex; exact h3
            · exact hx x (by omega) x2)
          refine ⟨w2, ?_, g2, g3, g4⟩
          rw [← g1, e_X8_wake_5, show ((i + 1 : Nat) : Int) = (i : Int) + 1 by omega]
          have e3 : 13 + (S.2.getD i 0 + 1) - 1 = 13 + S.2.getD i 0 := by omega
          simp (disch := first | assumption | omega | (simp only [zcat_0, zcat_i, zcat_l, zcat_r, zcat_t]; omega) | simp) only [e_X8_wake_7, e_X8_wake_8, e_X8_wake_11, e_X8_wake_12, e_X8_wake_15, e_X8_wake_17, e_X8_wake_19, e_X8_wake_20, e_X8_wake_21, e_X8_wake_24, e_X8_wake_25, e_X8_wake_28, e_X8_wake_29, e_X8_wake_32, e_X8_wake_34, e_X8_wake_35, e_X8_wake_38, e_X8_wake_40, e_X8_wake_42, e_X8_wake_43, e_X8_wake_44, e_X8_wake_45, e_X8_wake_46, e_X8_wake_47, e_X8_wake_48, e_X8_wake_49, e_X8_wake_50, e_X8_wake_51, e_X8_wake_54, e_X8_wake_55, e_X8_wake_57, e_X8_wake_60, e_X8_wake_63, e_X8_wake_66, e_X8_wake_69, zpush_i, zpush_l, zpush_v, Option.bind_some, ↓if_pos, ↓if_neg, Int.reduceAdd, w32_id, e, e2, e3]
    · have hfa := sFa_drop (s := S.1) (p := p) S.2 i hx
      rw [List.drop_eq_nil_of_le (by omega), sFa] at hfa
      refine ⟨w, ?_, by rw [sWk_none l hfa]; exact hR, FQ.rf, rfl⟩
      by_cases h4 : i < 4
      · have e := b3 i h4
        rw [rE_no (by omega)] at e
        simp (disch := first | assumption | omega | (simp only [zcat_0, zcat_i, zcat_l, zcat_r, zcat_t]; omega) | simp) only [e_X8_wake_5, e_X8_wake_7, e_X8_wake_8, e_X8_wake_11, e_X8_wake_12, e_X8_wake_15, e_X8_wake_17, e_X8_wake_19, e_X8_wake_20, e_X8_wake_21, e_X8_wake_72, zpush_i, zpush_l, zpush_v, Option.bind_some, ↓if_pos, ↓if_neg, Int.reduceAdd, w32_id, e]
      · simp (disch := first | assumption | omega | (simp only [zcat_0, zcat_i, zcat_l, zcat_r, zcat_t]; omega) | simp) only [e_X8_wake_5, e_X8_wake_7, e_X8_wake_8, e_X8_wake_72, zpush_i, zpush_l, zpush_v, Option.bind_some, ↓if_pos, ↓if_neg, Int.reduceAdd, w32_id]
theorem m_wake (hP : WP P) (hp : 0 ≤ p ∧ p < 3) {N : Int} (hN : 0 ≤ N ∧ N ≤ 3) (hR : RS w (P 0 6) S) (hO : PO w P) (hW : WS0 P S) : ∃ w', Cl (d + 2) 106 [(2, 67), (0, p), (0, N)] 92 w = some ((9, 0), 92, w') ∧ RS w' (P 0 6) (sWk P p N.toNat S) ∧ FQ w w' ∧ w' 67 6 = w 67 6 := by
  obtain ⟨w1, q1, q2, q3, q4⟩ := m_wake_l (d := d) (N := N) hP hp _ N.toNat 0 w S (by omega) (by omega) rfl hR hO hW (fun x h => absurd h (Nat.not_lt_zero _))
  refine ⟨w1, ?_, q2, q3, q4⟩
  show Rn (d + 2) 106 0 [(2, 67), (0, p), (0, N), (9, 0), (9, 0)] [] 92 w = _
  rw [show ((N.toNat : Nat) : Int) = N by omega] at q1
  have q1' : Rn (d + 2) 106 5 [(2, 67), (0, p), (0, N), (0, N), (0, 0)] [] 92 w = _ := q1
  simp (disch := first | assumption | omega | (simp only [zcat_0, zcat_i, zcat_l, zcat_r, zcat_t]; omega) | simp) only [e_X8_wake_0, e_X8_wake_1, e_X8_wake_2, e_X8_wake_3, zpush_i, zpush_l, zpush_v, Option.bind_some, ↓if_pos, ↓if_neg, Int.reduceAdd, w32_id, q1']
end M2
