section R6
variable {d : Nat} {w : zW} {j x t : Int} {S : Sc} {P : Pg} {H : Hs} {e : Sc × Int}
theorem m_sh : ∀ (u i : Nat) (w' : zW), i + u = 11 → (∀ a, a ≠ 79 → a ≠ 80 → w' a = w a) → (∀ y : Int, 0 ≤ y → y < 12 → w' 79 y = (if y < (i : Int) then w 79 (y + 1) else w 79 y) ∧ w' 80 y = (if y < (i : Int) then w 80 (y + 1) else w 80 y)) → ∃ w'', Rn d 126 36 [(2, 67), (0, t), (0, (i : Int))] [] 92 w' = Rn d 126 76 [(2, 67), (0, t), (0, 11)] [] 92 w'' ∧ (∀ a, a ≠ 79 → a ≠ 80 → w'' a = w a) ∧ (∀ y : Int, 0 ≤ y → y < 11 → w'' 79 y = w 79 (y + 1) ∧ w'' 80 y = w 80 (y + 1)) := by
  have zo67 := zo_67; have zo79 := zo_79; have zl79 := zl_79; have zo80 := zo_80; have zl80 := zl_80
  intro u
  induction u with
  | zero =>
    intro i w' hi h1 h2
    refine ⟨w', ?_, h1, fun y y0 y1 => ?_⟩
    · rw [show (i : Int) = 11 by omega]
      simp (disch := first | assumption | omega | (simp only [zcat_0, zcat_i, zcat_l, zcat_r, zcat_t]; omega) | simp) only [e_X8_step_36, e_X8_step_37, e_X8_step_39, zpush_i, zpush_l, zpush_v, Option.bind_some, ↓if_pos, ↓if_neg, Int.reduceAdd, w32_id]
    · have := h2 y y0 (by omega)
      rw [if_pos (by omega), if_pos (by omega)] at this
      exact this
  | succ u ih =>
    intro i w' hi h1 h2
    have z := h2 ((i : Int) + 1) (by omega) (by omega)
    rw [if_neg (by omega), if_neg (by omega)] at z
    obtain ⟨w2, g1, g2, g3⟩ := ih (i + 1) (zup (zup w' 79 i (w 79 (i + 1))) 80 i (w 80 (i + 1))) (by omega) (fun a n1 n2 => by rw [zup_ne n2, zup_ne n1]; exact h1 a n1 n2) (fun y y0 y1 => by
      have q := h2 y y0 y1
      by_cases c : y = i
      · subst c
        rw [if_pos (by omega), if_pos (by omega)]
        simp (disch := omega) only [zup_off, zup_self, and_self]
      · by_cases c2 : y < i
        · rw [if_pos (by omega), if_pos (by omega)]
          rw [if_pos c2, if_pos c2] at q
          simp (disch := omega) only [zup_off]
          exact q
        · rw [if_neg (by omega), if_neg (by omega)]
          rw [if_neg c2, if_neg c2] at q
          simp (disch := omega) only [zup_off]
          exact q)
    refine ⟨w2, ?_, g2, g3⟩
    rw [← g1, show ((i + 1 : Nat) : Int) = (i : Int) + 1 by omega, e_X8_step_36]
    simp (disch := first | assumption | omega | (simp only [zcat_0, zcat_i, zcat_l, zcat_r, zcat_t]; omega) | simp) only [e_X8_step_37, e_X8_step_39, e_X8_step_42, e_X8_step_43, e_X8_step_46, e_X8_step_47, e_X8_step_48, e_X8_step_51, e_X8_step_52, e_X8_step_53, e_X8_step_54, e_X8_step_55, e_X8_step_56, e_X8_step_57, e_X8_step_60, e_X8_step_61, e_X8_step_62, e_X8_step_65, e_X8_step_66, e_X8_step_67, e_X8_step_68, e_X8_step_69, e_X8_step_70, e_X8_step_73, zpush_i, zpush_l, zpush_v, Option.bind_some, ↓if_pos, ↓if_neg, Int.reduceAdd, w32_id, zup_off, z.1, z.2]
end R6
