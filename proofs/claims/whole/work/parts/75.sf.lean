section R2
variable {d : Nat} {w : zW} {x i : Int} {S : Sc} {P : Pg}
theorem r_fetch {q n : Int} (hq : isH q n) (hi : 0 ≤ i ∧ i < n) (hP : WP P) (hW : WS0 P S) (h1 : w (q + 1) i = packC S) (h3 : w (q + 3) i = 1) : ∃ w', Cl (d + 1) 61 [(2, q), (0, i), (2, 19)] 92 w = some ((9, 0), 92, w') ∧ CS w' 19 S ∧ FR 19 w w' ∧ w' 19 10 = w (q + 2) i := by
  have zo30 := zo_30; have zo31 := zo_31; have zl31 := zl_31; have zo32 := zo_32; have zl32 := zl_32; have zo33 := zo_33; have zl33 := zl_33; have zo34 := zo_34; have zo35 := zo_35; have zl35 := zl_35; have zo36 := zo_36; have zl36 := zl_36; have zo37 := zo_37; have zl37 := zl_37; have zo19 := zo_19
  have k31 : 20 ≤ (zsh 31).1 ∧ (zsh 31).1 ≤ 22 := by decide +kernel
  have k32 : 20 ≤ (zsh 32).1 ∧ (zsh 32).1 ≤ 22 := by decide +kernel
  have k35 : 20 ≤ (zsh 35).1 ∧ (zsh 35).1 ≤ 22 := by decide +kernel
  have k36 : 20 ≤ (zsh 36).1 ∧ (zsh 36).1 ≤ 22 := by decide +kernel
  have hh := r_holds (d := d) (w := w) hq hi (Or.inr h3)
  rw [h3] at hh
  obtain ⟨w1, q1, q2, q3, q4⟩ := r_unpack (d := d) (k := 19) (w := w) (by omega) hP hW
  have e2 : w1 (q + 2) i = w (q + 2) i := by rw [q3 (q + 2) (by omega)]
  refine ⟨zup w1 19 10 (w (q + 2) i), ?_, ?_, q3.up (by omega) (by omega), zup_self ..⟩
  · show Rn (d + 1) 61 0 [(2, q), (0, i), (2, 19)] [] 92 w = _
    rcases hq with ⟨rfl, rfl⟩ | ⟨rfl, rfl⟩
    · simp only [Int.reduceAdd] at h1 e2 ⊢
      simp (disch := first | assumption | omega | (simp only [zcat_0, zcat_i, zcat_l, zcat_r, zcat_t]; omega) | simp) only [e_X4_fetch_0, e_X4_fetch_1, e_X4_fetch_2, e_X4_fetch_5, e_X4_fetch_8, e_X4_fetch_9, e_X4_fetch_10, e_X4_fetch_13, e_X4_fetch_14, e_X4_fetch_17, e_X4_fetch_18, e_X4_fetch_19, e_X4_fetch_22, e_X4_fetch_23, e_X4_fetch_26, e_X4_fetch_27, e_X4_fetch_28, e_X4_fetch_29, e_X4_fetch_32, e_X4_fetch_33, e_X4_fetch_34, e_X4_fetch_37, e_X4_fetch_38, e_X4_fetch_39, e_X4_fetch_42, e_X4_fetch_43, e_X4_fetch_44, e_X4_fetch_47, zpush_i, zpush_l, zpush_v, Option.bind_some, ↓if_pos, ↓if_neg, Int.reduceAdd, w32_id, hh, h1, q1, e2]
    · simp only [Int.reduceAdd] at h1 e2 ⊢
      simp (disch := first | assumption | omega | (simp only [zcat_0, zcat_i, zcat_l, zcat_r, zcat_t]; omega) | simp) only [e_X4_fetch_0, e_X4_fetch_1, e_X4_fetch_2, e_X4_fetch_5, e_X4_fetch_8, e_X4_fetch_9, e_X4_fetch_10, e_X4_fetch_13, e_X4_fetch_14, e_X4_fetch_17, e_X4_fetch_18, e_X4_fetch_19, e_X4_fetch_22, e_X4_fetch_23, e_X4_fetch_26, e_X4_fetch_27, e_X4_fetch_28, e_X4_fetch_29, e_X4_fetch_32, e_X4_fetch_33, e_X4_fetch_34, e_X4_fetch_37, e_X4_fetch_38, e_X4_fetch_39, e_X4_fetch_42, e_X4_fetch_43, e_X4_fetch_44, e_X4_fetch_47, zpush_i, zpush_l, zpush_v, Option.bind_some, ↓if_pos, ↓if_neg, Int.reduceAdd, w32_id, hh, h1, q1, e2]
  · obtain ⟨a1, a2, a3, a4⟩ := q2
    refine ⟨fun p h0 h3 => ?_, fun t h0 h4 => ?_, ?_, fun m hm => ?_⟩
    · rw [zup_ne (by omega), zup_ne (by omega), zup_ne (by omega)]; exact a1 p h0 h3
    · rw [zup_ne (by omega), zup_ne (by omega), zup_ne (by omega), zup_ne (by omega)]; exact a2 t h0 h4
    · rw [zup_off _ (Or.inr (by omega))]; exact a3
    · rw [zup_ne (by omega)]; exact a4 m hm
end R2
