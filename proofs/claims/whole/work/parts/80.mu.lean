section R7
variable {d : Nat} {w : zW} {j x t : Int} {S : Sc} {P : Pg} {H : Hs} {e : Sc × Int}
theorem m_push (hP : WP P) (hW : WS0 P S) (hR : RS w (P 0 6) S) (hX : MPa w (P 0 6) H) {v : zV} (hv : v.1 ≠ 1) : ∃ w' v', Rn (d + 1) 126 25 [(2, 67), (0, t), v] [] 92 w = Rn (d + 1) 126 122 [(2, 67), (0, t), v'] [] 92 w' ∧ MPa w' (P 0 6) (aPu H (S, w 67 6)) ∧ (∀ a i, a ≠ 79 → a ≠ 80 → (a ≠ 67 ∨ i ≠ 22) → w' a i = w a i) := by
  have zo67 := zo_67; have zo79 := zo_79; have zl79 := zl_79; have zo80 := zo_80; have zl80 := zl_80
  obtain ⟨h1, h2, h3⟩ := id hX
  unfold aPu
  by_cases c : H.length = 12
  · rw [if_pos c]
    obtain ⟨w1, q1, q2, q3⟩ := m_sh (d := d + 1) (w := w) (t := t) 11 0 w rfl (fun _ _ _ => rfl) (fun y y0 y1 => by rw [if_neg (by omega), if_neg (by omega)]; exact ⟨rfl, rfl⟩)
    have q1' : Rn (d + 1) 126 36 [(2, 67), (0, t), (0, 0)] [] 92 w = _ := q1
    have R1 : RS (zup w1 67 22 11) (P 0 6) S := hR.at (by rw [zup_ne (by omega), q2 72 (by omega) (by omega)])
    have hpk := m_packed (d := d) hP hW R1
    have f6 : w1 67 6 = w 67 6 := by rw [q2 67 (by omega) (by omega)]
    have f22 : w1 67 22 = 12 := by rw [q2 67 (by omega) (by omega), h1, c]; rfl
    have h22 : w 67 22 = 12 := by rw [h1, c]; rfl
    have a1 : Rn (d + 1) 126 25 [(2, 67), (0, t), v] [] 92 w = Rn (d + 1) 126 36 [(2, 67), (0, t), (0, 0)] [] 92 w := by
      simp (disch := first | assumption | omega | (simp only [zcat_0, zcat_i, zcat_l, zcat_r, zcat_t]; omega) | simp) only [e_X8_step_25, e_X8_step_26, e_X8_step_29, e_X8_step_31, e_X8_step_34, e_X8_step_35, zpush_i, zpush_l, zpush_v, Option.bind_some, ↓if_pos, ↓if_neg, Int.reduceAdd, w32_id, h22]
    have hpk' : Cl d 98 [(2, 67)] 92 (zup w1 67 22 11) = some ((1, packR (P 0 6) S), 92, zup w1 67 22 11) := hpk
    have e11 : (12 : Int) - 1 = 11 := rfl
    have e12 : (11 : Int) + 1 = 12 := rfl
    refine ⟨zup (zup (zup (zup w1 67 22 11) 79 11 (packR (P 0 6) S)) 80 11 (w 67 6)) 67 22 12, (0, 11), ?_, ?_, fun a i n1 n2 n3 => by rw [zup_off _ n3, zup_ne n2, zup_ne n1, zup_off _ n3, q2 a n1 n2]⟩
    · rw [a1, q1']
      simp (disch := first | assumption | omega | (simp only [zcat_0, zcat_i, zcat_l, zcat_r, zcat_t]; omega) | simp) only [e_X8_step_76, e_X8_step_77, e_X8_step_78, e_X8_step_81, e_X8_step_82, e_X8_step_83, e_X8_step_86, e_X8_step_87, e_X8_step_90, e_X8_step_91, e_X8_step_94, e_X8_step_95, e_X8_step_98, e_X8_step_99, e_X8_step_100, e_X8_step_103, e_X8_step_104, e_X8_step_107, e_X8_step_108, e_X8_step_111, e_X8_step_112, e_X8_step_113, e_X8_step_114, e_X8_step_117, e_X8_step_118, e_X8_step_119, zpush_i, zpush_l, zpush_v, Option.bind_some, ↓if_pos, ↓if_neg, Int.reduceAdd, w32_id, f22, e11, hpk', zup_off, zup_self, f6]
    · have hl1 : (H.drop 1).length = 11 := by simp; omega
      have hl : (H.drop 1 ++ [(S, w 67 6)]).length = 12 := by simp; omega
      refine ⟨by rw [zup_self, hl]; rfl, by omega, fun i hi => ?_⟩
      rw [hl] at hi
      by_cases ci : i < 11
      · have z := h3 (i + 1) (by omega)
        rw [hH_lt (by omega), hH_drop, ← z.1, ← z.2]
        have q := q3 i (by omega) (by omega)
        rw [show ((i + 1 : Nat) : Int) = (i : Int) + 1 by omega, ← q.1, ← q.2]
        simp (disch := omega) only [zup_off, and_self]
      · rw [show i = (H.drop 1).length by omega, hH_at, hl1, show ((11 : Nat) : Int) = 11 from rfl]
        simp (disch := omega) only [zup_off, zup_self, and_self]
  · rw [if_neg c]
    have hpk := m_packed (d := d) hP hW hR
    refine ⟨zup (zup (zup w 79 H.length (packR (P 0 6) S)) 80 H.length (w 67 6)) 67 22 (H.length + 1), v, ?_, ?_, fun a i n1 n2 n3 => by rw [zup_off _ n3, zup_ne n2, zup_ne n1]⟩
    · simp (disch := first | assumption | omega | (simp only [zcat_0, zcat_i, zcat_l, zcat_r, zcat_t]; omega) | simp) only [e_X8_step_25, e_X8_step_26, e_X8_step_29, e_X8_step_31, e_X8_step_86, e_X8_step_87, e_X8_step_90, e_X8_step_91, e_X8_step_94, e_X8_step_95, e_X8_step_98, e_X8_step_99, e_X8_step_100, e_X8_step_103, e_X8_step_104, e_X8_step_107, e_X8_step_108, e_X8_step_111, e_X8_step_112, e_X8_step_113, e_X8_step_114, e_X8_step_117, e_X8_step_118, e_X8_step_119, zpush_i, zpush_l, zpush_v, Option.bind_some, ↓if_pos, ↓if_neg, Int.reduceAdd, w32_id, h1, hpk, zup_off, zup_self]
    · have hl : (H ++ [(S, w 67 6)]).length = H.length + 1 := by simp
      refine ⟨by rw [zup_self, hl]; rfl, by omega, fun i hi => ?_⟩
      rw [hl] at hi
      by_cases ci : i < H.length
      · rw [hH_lt ci]
        simp (disch := omega) only [zup_off]
        exact h3 i ci
      · rw [show i = H.length by omega, hH_at]
        simp (disch := omega) only [zup_off, zup_self, and_self]
end R7
