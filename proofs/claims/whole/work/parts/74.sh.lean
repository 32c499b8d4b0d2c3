section R1
variable {d : Nat} {w : zW} {x i : Int} {S : Sc} {P : Pg}
/-- shelves: 30 with 12 places, 34 with 2 -/
abbrev isH (q n : Int) : Prop := q = 30 ∧ n = 12 ∨ q = 34 ∧ n = 2
theorem r_put {q n : Int} (hq : isH q n) (hi : 0 ≤ i ∧ i < n) (hP : WP P) (hW : WS0 P S) (hC : CS w 19 S) : Cl (d + 1) 60 [(2, q), (0, i), (2, 19)] 92 w = some ((9, 0), 92, zup (zup (zup w (q + 1) i (packC S)) (q + 2) i (w 19 10)) (q + 3) i 1) := by
  have zo30 := zo_30; have zo31 := zo_31; have zl31 := zl_31; have zo32 := zo_32; have zl32 := zl_32; have zo33 := zo_33; have zl33 := zl_33; have zo34 := zo_34; have zo35 := zo_35; have zl35 := zl_35; have zo36 := zo_36; have zl36 := zl_36; have zo37 := zo_37; have zl37 := zl_37; have zo19 := zo_19
  have k31 : 20 ≤ (zsh 31).1 ∧ (zsh 31).1 ≤ 22 := by decide +kernel
  have k32 : 20 ≤ (zsh 32).1 ∧ (zsh 32).1 ≤ 22 := by decide +kernel
  have k33 : 20 ≤ (zsh 33).1 ∧ (zsh 33).1 ≤ 22 := by decide +kernel
  have k35 : 20 ≤ (zsh 35).1 ∧ (zsh 35).1 ≤ 22 := by decide +kernel
  have k36 : 20 ≤ (zsh 36).1 ∧ (zsh 36).1 ≤ 22 := by decide +kernel
  have k37 : 20 ≤ (zsh 37).1 ∧ (zsh 37).1 ≤ 22 := by decide +kernel
  have hpk := r_packed (d := d) (k := 19) (by omega) hP hW hC
  show Rn (d + 1) 60 0 [(2, q), (0, i), (2, 19)] [] 92 w = _
  rcases hq with ⟨rfl, rfl⟩ | ⟨rfl, rfl⟩
  · simp (disch := first | assumption | omega | (simp only [zcat_0, zcat_i, zcat_l, zcat_r, zcat_t]; omega) | simp) only [e_X4_put_0, e_X4_put_1, e_X4_put_4, e_X4_put_5, e_X4_put_6, e_X4_put_9, e_X4_put_10, e_X4_put_13, e_X4_put_14, e_X4_put_15, e_X4_put_18, e_X4_put_19, e_X4_put_22, e_X4_put_23, e_X4_put_24, e_X4_put_27, e_X4_put_28, e_X4_put_31, e_X4_put_32, e_X4_put_33, e_X4_put_36, e_X4_put_37, e_X4_put_38, e_X4_put_41, e_X4_put_42, e_X4_put_43, e_X4_put_46, e_X4_put_47, e_X4_put_48, e_X4_put_51, e_X4_put_52, e_X4_put_53, e_X4_put_56, e_X4_put_57, e_X4_put_58, e_X4_put_59, zpush_i, zpush_l, zpush_v, Option.bind_some, ↓if_pos, ↓if_neg, Int.reduceAdd, w32_id, hpk, zup_off]
  · simp (disch := first | assumption | omega | (simp only [zcat_0, zcat_i, zcat_l, zcat_r, zcat_t]; omega) | simp) only [e_X4_put_0, e_X4_put_1, e_X4_put_4, e_X4_put_5, e_X4_put_6, e_X4_put_9, e_X4_put_10, e_X4_put_13, e_X4_put_14, e_X4_put_15, e_X4_put_18, e_X4_put_19, e_X4_put_22, e_X4_put_23, e_X4_put_24, e_X4_put_27, e_X4_put_28, e_X4_put_31, e_X4_put_32, e_X4_put_33, e_X4_put_36, e_X4_put_37, e_X4_put_38, e_X4_put_41, e_X4_put_42, e_X4_put_43, e_X4_put_46, e_X4_put_47, e_X4_put_48, e_X4_put_51, e_X4_put_52, e_X4_put_53, e_X4_put_56, e_X4_put_57, e_X4_put_58, e_X4_put_59, zpush_i, zpush_l, zpush_v, Option.bind_some, ↓if_pos, ↓if_neg, Int.reduceAdd, w32_id, hpk, zup_off]
theorem r_holds {q n : Int} (hq : isH q n) (hi : 0 ≤ i ∧ i < n) (hb : w (q + 3) i = 0 ∨ w (q + 3) i = 1) : Cl d 59 [(2, q), (0, i)] 92 w = some ((0, w (q + 3) i), 92, w) := by
  have zo30 := zo_30; have zo31 := zo_31; have zl31 := zl_31; have zo32 := zo_32; have zl32 := zl_32; have zo33 := zo_33; have zl33 := zl_33; have zo34 := zo_34; have zo35 := zo_35; have zl35 := zl_35; have zo36 := zo_36; have zl36 := zl_36; have zo37 := zo_37; have zl37 := zl_37
  have k31 : 20 ≤ (zsh 31).1 ∧ (zsh 31).1 ≤ 22 := by decide +kernel
  have k32 : 20 ≤ (zsh 32).1 ∧ (zsh 32).1 ≤ 22 := by decide +kernel
  have k33 : 20 ≤ (zsh 33).1 ∧ (zsh 33).1 ≤ 22 := by decide +kernel
  have k35 : 20 ≤ (zsh 35).1 ∧ (zsh 35).1 ≤ 22 := by decide +kernel
  have k36 : 20 ≤ (zsh 36).1 ∧ (zsh 36).1 ≤ 22 := by decide +kernel
  have k37 : 20 ≤ (zsh 37).1 ∧ (zsh 37).1 ≤ 22 := by decide +kernel
  show Rn d 59 0 [(2, q), (0, i)] [] 92 w = _
  rcases hq with ⟨rfl, rfl⟩ | ⟨rfl, rfl⟩
  · simp only [Int.reduceAdd] at hb ⊢
    rcases hb with z | z
    · rw [z]
      simp (disch := first | assumption | omega | (simp only [zcat_0, zcat_i, zcat_l, zcat_r, zcat_t]; omega) | simp) only [e_X4_holds_0, e_X4_holds_1, e_X4_holds_4, e_X4_holds_5, e_X4_holds_6, e_X4_holds_9, e_X4_holds_10, e_X4_holds_13, e_X4_holds_14, e_X4_holds_17, e_X4_holds_18, e_X4_holds_19, e_X4_holds_22, e_X4_holds_23, e_X4_holds_26, e_X4_holds_27, zpush_i, zpush_l, zpush_v, Option.bind_some, ↓if_pos, ↓if_neg, Int.reduceAdd, w32_id, z]
    · rw [z]
      simp (disch := first | assumption | omega | (simp only [zcat_0, zcat_i, zcat_l, zcat_r, zcat_t]; omega) | simp) only [e_X4_holds_0, e_X4_holds_1, e_X4_holds_4, e_X4_holds_5, e_X4_holds_6, e_X4_holds_9, e_X4_holds_10, e_X4_holds_13, e_X4_holds_14, e_X4_holds_17, e_X4_holds_18, e_X4_holds_19, e_X4_holds_22, e_X4_holds_23, e_X4_holds_26, e_X4_holds_27, zpush_i, zpush_l, zpush_v, Option.bind_some, ↓if_pos, ↓if_neg, Int.reduceAdd, w32_id, z]
  · simp only [Int.reduceAdd] at hb ⊢
    rcases hb with z | z
    · rw [z]
      simp (disch := first | assumption | omega | (simp only [zcat_0, zcat_i, zcat_l, zcat_r, zcat_t]; omega) | simp) only [e_X4_holds_0, e_X4_holds_1, e_X4_holds_4, e_X4_holds_5, e_X4_holds_6, e_X4_holds_9, e_X4_holds_10, e_X4_holds_13, e_X4_holds_14, e_X4_holds_17, e_X4_holds_18, e_X4_holds_19, e_X4_holds_22, e_X4_holds_23, e_X4_holds_26, e_X4_holds_27, zpush_i, zpush_l, zpush_v, Option.bind_some, ↓if_pos, ↓if_neg, Int.reduceAdd, w32_id, z]
    · rw [z]
      simp (disch := first | assumption | omega | (simp only [zcat_0, zcat_i, zcat_l, zcat_r, zcat_t]; omega) | simp) only [e_X4_holds_0, e_X4_holds_1, e_X4_holds_4, e_X4_holds_5, e_X4_holds_6, e_X4_holds_9, e_X4_holds_10, e_X4_holds_13, e_X4_holds_14, e_X4_holds_17, e_X4_holds_18, e_X4_holds_19, e_X4_holds_22, e_X4_holds_23, e_X4_holds_26, e_X4_holds_27, zpush_i, zpush_l, zpush_v, Option.bind_some, ↓if_pos, ↓if_neg, Int.reduceAdd, w32_id, z]
end R1
