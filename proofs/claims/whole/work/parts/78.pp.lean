section R5
variable {d : Nat} {w : zW} {j x i : Int} {S : Sc} {P : Pg} {H : Hs} {e : Sc × Int}
theorem r_pop (hP : WP P) (hW : WS0 P e.1) (hX : CPa w (H ++ [e])) : ∃ w', Cl (d + 2) 3 [(2, 29), (2, 19)] 92 w = some ((9, 0), 92, w') ∧ CPa w' H ∧ CS w' 19 e.1 ∧ w' 19 10 = e.2 ∧ (∀ a, a ≠ 29 → (a < 19 ∨ 28 < a) → w' a = w a) := by
  have zo29 := zo_29; have zo30 := zo_30; have zo19 := zo_19
  obtain ⟨h1, h2, h3, h4, h5⟩ := id hX
  have hl : (H ++ [e]).length = H.length + 1 := by simp
  rw [hl] at h1 h2
  have hq := h5 H.length (by rw [hl]; omega)
  rw [hl, hH_at] at hq
  obtain ⟨w1, e1⟩ : ∃ w1, zup (zup w 29 1 (if 0 < w 29 1 then w 29 1 - 1 else 11)) 29 2 (H.length : Int) = w1 := ⟨_, rfl⟩
  have o1 : ∀ a, a ≠ 29 → w1 a = w a := fun a h => by rw [← e1, zup_ne h, zup_ne h]
  have f1 : w1 29 1 = (w 29 1 - 1) % 12 := by
    rw [← e1, zup_off _ (by omega), zup_self]
    split <;> omega
  have f2 : w1 29 2 = H.length := by rw [← e1, zup_self]
  have ep : (w 29 1 - ((H.length + 1 : Nat) : Int) + (H.length : Int)) % 12 = (w 29 1 - 1) % 12 := by omega
  rw [ep] at hq
  obtain ⟨w2, q1, q2, q3, q4⟩ := r_fetch (d := d) (w := w1) (q := 30) (n := 12) (i := (w 29 1 - 1) % 12) (S := e.1) (Or.inl ⟨rfl, rfl⟩) (by omega) hP hW (by rw [o1 (30 + 1) (by omega)]; exact hq.1) (by rw [o1 (30 + 3) (by omega)]; exact hq.2.2)
  refine ⟨w2, ?_, ?_, q2, ?_, fun a n1 n2 => by rw [q3 a (by omega), o1 a n1]⟩
  · show Rn (d + 2) 3 0 [(2, 29), (2, 19)] [] 92 w = _
    have hs : (H.length : Int) + 1 - 1 = H.length := by omega
    have h1' : w 29 2 = (H.length : Int) + 1 := by rw [h1]; rfl
    have a1 : Rn (d + 2) 3 0 [(2, 29), (2, 19)] [] 92 w = Rn (d + 2) 3 40 [(2, 29), (2, 19)] [] 92 w1 := by
      rw [← e1]
      by_cases c : 0 < w 29 1
      · rw [if_pos c]
        simp (disch := first | assumption | omega | (simp only [zcat_0, zcat_i, zcat_l, zcat_r, zcat_t]; omega) | simp) only [e_X0_pop_0, e_X0_pop_1, e_X0_pop_4, e_X0_pop_7, e_X0_pop_8, e_X0_pop_9, e_X0_pop_10, e_X0_pop_13, e_X0_pop_16, e_X0_pop_17, e_X0_pop_20, e_X0_pop_21, e_X0_pop_22, e_X0_pop_25, e_X0_pop_27, e_X0_pop_30, e_X0_pop_31, e_X0_pop_32, e_X0_pop_35, e_X0_pop_36, e_X0_pop_37, zpush_i, zpush_l, zpush_v, Option.bind_some, ↓if_pos, ↓if_neg, Int.reduceAdd, w32_id, h1', hs, zup_off]
      · rw [if_neg c]
        simp (disch := first | assumption | omega | (simp only [zcat_0, zcat_i, zcat_l, zcat_r, zcat_t]; omega) | simp) only [e_X0_pop_0, e_X0_pop_1, e_X0_pop_4, e_X0_pop_7, e_X0_pop_8, e_X0_pop_9, e_X0_pop_10, e_X0_pop_13, e_X0_pop_16, e_X0_pop_17, e_X0_pop_20, e_X0_pop_21, e_X0_pop_22, e_X0_pop_25, e_X0_pop_27, e_X0_pop_30, e_X0_pop_31, e_X0_pop_32, e_X0_pop_35, e_X0_pop_36, e_X0_pop_37, zpush_i, zpush_l, zpush_v, Option.bind_some, ↓if_pos, ↓if_neg, Int.reduceAdd, w32_id, h1', hs, zup_off]
    rw [a1]
    simp (disch := first | assumption | omega | (simp only [zcat_0, zcat_i, zcat_l, zcat_r, zcat_t]; omega) | simp) only [e_X0_pop_40, e_X0_pop_41, e_X0_pop_44, e_X0_pop_45, e_X0_pop_48, e_X0_pop_49, e_X0_pop_52, zpush_i, zpush_l, zpush_v, Option.bind_some, ↓if_pos, ↓if_neg, Int.reduceAdd, w32_id, f1, q1]
  · have g : ∀ a, a < 19 ∨ 28 < a → w2 a = w1 a := fun a ha => q3 a (by omega)
    refine ⟨by rw [g 29 (by omega), f2], by omega, by rw [g 29 (by omega), f1]; omega, by rw [g 29 (by omega), f1]; omega, fun i hi => ?_⟩
    have z := h5 i (by rw [hl]; omega)
    rw [hH_lt hi, hl] at z
    rw [g 29 (by omega), f1, g 31 (by omega), g 32 (by omega), g 33 (by omega), o1 31 (by omega), o1 32 (by omega), o1 33 (by omega)]
    have ez : ((w 29 1 - 1) % 12 - (H.length : Int) + (i : Int)) % 12 = (w 29 1 - ((H.length + 1 : Nat) : Int) + (i : Int)) % 12 := by omega
    rw [ez]
    exact z
  · rw [q4, o1 (30 + 2) (by omega)]
    exact hq.2.1
end R5
