/-! THE PAST: at most twelve, the newest last -/
abbrev Hs : Type := List (Sc × Int)
def hH (H : Hs) (i : Nat) : Sc × Int := H.getD i ((fun _ => 0, []), 0)
def CPa (w : zW) (H : Hs) : Prop := w 29 2 = H.length ∧ H.length ≤ 12 ∧ 0 ≤ w 29 1 ∧ w 29 1 < 12 ∧ ∀ i : Nat, i < H.length → w 31 ((w 29 1 - H.length + i) % 12) = packC (hH H i).1 ∧ w 32 ((w 29 1 - H.length + i) % 12) = (hH H i).2 ∧ w 33 ((w 29 1 - H.length + i) % 12) = 1
def MPa (w : zW) (n : Int) (H : Hs) : Prop := w 67 22 = H.length ∧ H.length ≤ 12 ∧ ∀ i : Nat, i < H.length → w 79 i = packR n (hH H i).1 ∧ w 80 i = (hH H i).2
def aPu (H : Hs) (e : Sc × Int) : Hs := if H.length = 12 then H.drop 1 ++ [e] else H ++ [e]
section R4
variable {d : Nat} {w : zW} {j x i : Int} {S : Sc} {P : Pg} {H : Hs} {e : Sc × Int}
theorem hH_lt {i : Nat} (h : i < H.length) : hH (H ++ [e]) i = hH H i := by
  unfold hH
  rw [List.getD_eq_getElem?_getD, List.getD_eq_getElem?_getD, List.getElem?_append_left h]
theorem hH_at : hH (H ++ [e]) H.length = e := by
  unfold hH
  rw [List.getD_eq_getElem?_getD, List.getElem?_append_right (by omega), Nat.sub_self]
  rfl
theorem hH_drop {i : Nat} : hH (H.drop 1) i = hH H (i + 1) := by
  unfold hH
  rw [List.getD_eq_getElem?_getD, List.getD_eq_getElem?_getD, List.getElem?_drop, Nat.add_comm]
theorem aPu_len : (aPu H e).length ≤ 12 ↔ H.length ≤ 12 := by
  unfold aPu
  split
  · simp <;> omega
  · simp <;> omega
theorem r_push (hP : WP P) (hW : WS0 P S) (hC : CS w 19 S) (hX : CPa w H) : ∃ w', Cl (d + 2) 2 [(2, 29), (2, 19)] 92 w = some ((9, 0), 92, w') ∧ CPa w' (aPu H (S, w 19 10)) ∧ (∀ a, a ≠ 29 → a ≠ 31 → a ≠ 32 → a ≠ 33 → w' a = w a) := by
  have zo29 := zo_29; have zo30 := zo_30; have zo19 := zo_19
  obtain ⟨h1, h2, h3, h4, h5⟩ := id hX
  have hp : Cl (d + 1) 60 [(2, 30), (0, w 29 1), (2, 19)] 92 w = some ((9, 0), 92, zup (zup (zup w 31 (w 29 1) (packC S)) 32 (w 29 1) (w 19 10)) 33 (w 29 1) 1) := r_put (Or.inl ⟨rfl, rfl⟩) ⟨h3, h4⟩ hP hW hC
  obtain ⟨w1, e1⟩ : ∃ w1, zup (zup (zup w 31 (w 29 1) (packC S)) 32 (w 29 1) (w 19 10)) 33 (w 29 1) 1 = w1 := ⟨_, rfl⟩
  rw [e1] at hp
  have o1 : ∀ a, a ≠ 31 → a ≠ 32 → a ≠ 33 → w1 a = w a := fun a n1 n2 n3 => by rw [← e1, zup_ne n3, zup_ne n2, zup_ne n1]
  have f1 : w1 29 1 = w 29 1 := by rw [o1 29 (by omega) (by omega) (by omega)]
  have f2 : w1 29 2 = H.length := by rw [o1 29 (by omega) (by omega) (by omega), h1]
  obtain ⟨w2, e2⟩ : ∃ w2, zup (zup w1 29 1 (if w 29 1 + 1 < 12 then w 29 1 + 1 else 0)) 29 2 (if H.length = 12 then 12 else H.length + 1) = w2 := ⟨_, rfl⟩
  refine ⟨w2, ?_, ?_, fun a n0 n1 n2 n3 => by rw [← e2, zup_ne n0, zup_ne n0, o1 a n1 n2 n3]⟩
  · show Rn (d + 2) 2 0 [(2, 29), (2, 19)] [] 92 w = _
    rw [← e2]
    by_cases c1 : w 29 1 + 1 < 12
    · rw [if_pos c1]
      by_cases c2 : H.length = 12
      · rw [if_pos c2, show (12 : Int) = w1 29 2 by omega]
        rw [show zup (zup w1 29 1 (w 29 1 + 1)) 29 2 (w1 29 2) = zup w1 29 1 (w 29 1 + 1) by
          have : w1 29 2 = (zup w1 29 1 (w 29 1 + 1)) 29 2 := (zup_off _ (by omega)).symm
          rw [this, zup_id]]
        simp (disch := first | assumption | omega | (simp only [zcat_0, zcat_i, zcat_l, zcat_r, zcat_t]; omega) | simp) only [e_X0_push_0, e_X0_push_1, e_X0_push_4, e_X0_push_5, e_X0_push_8, e_X0_push_9, e_X0_push_12, e_X0_push_13, e_X0_push_14, e_X0_push_17, e_X0_push_18, e_X0_push_19, e_X0_push_21, e_X0_push_24, e_X0_push_25, e_X0_push_28, e_X0_push_29, e_X0_push_30, e_X0_push_33, e_X0_push_34, e_X0_push_37, e_X0_push_38, e_X0_push_41, e_X0_push_43, e_X0_push_46, e_X0_push_47, e_X0_push_48, e_X0_push_51, e_X0_push_52, e_X0_push_53, e_X0_push_56, zpush_i, zpush_l, zpush_v, Option.bind_some, ↓if_pos, ↓if_neg, Int.reduceAdd, w32_id, hp, f1, f2, zup_off]
      · rw [if_neg c2]
        simp (disch := first | assumption | omega | (simp only [zcat_0, zcat_i, zcat_l, zcat_r, zcat_t]; omega) | simp) only [e_X0_push_0, e_X0_push_1, e_X0_push_4, e_X0_push_5, e_X0_push_8, e_X0_push_9, e_X0_push_12, e_X0_push_13, e_X0_push_14, e_X0_push_17, e_X0_push_18, e_X0_push_19, e_X0_push_21, e_X0_push_24, e_X0_push_25, e_X0_push_28, e_X0_push_29, e_X0_push_30, e_X0_push_33, e_X0_push_34, e_X0_push_37, e_X0_push_38, e_X0_push_41, e_X0_push_43, e_X0_push_46, e_X0_push_47, e_X0_push_48, e_X0_push_51, e_X0_push_52, e_X0_push_53, e_X0_push_56, zpush_i, zpush_l, zpush_v, Option.bind_some, ↓if_pos, ↓if_neg, Int.reduceAdd, w32_id, hp, f1, f2, zup_off]
    · rw [if_neg c1]
      by_cases c2 : H.length = 12
      · rw [if_pos c2, show (12 : Int) = w1 29 2 by omega]
        rw [show zup (zup w1 29 1 0) 29 2 (w1 29 2) = zup w1 29 1 0 by
          have : w1 29 2 = (zup w1 29 1 0) 29 2 := (zup_off _ (by omega)).symm
          rw [this, zup_id]]
        simp (disch := first | assumption | omega | (simp only [zcat_0, zcat_i, zcat_l, zcat_r, zcat_t]; omega) | simp) only [e_X0_push_0, e_X0_push_1, e_X0_push_4, e_X0_push_5, e_X0_push_8, e_X0_push_9, e_X0_push_12, e_X0_push_13, e_X0_push_14, e_X0_push_17, e_X0_push_18, e_X0_push_19, e_X0_push_21, e_X0_push_24, e_X0_push_25, e_X0_push_28, e_X0_push_29, e_X0_push_30, e_X0_push_33, e_X0_push_34, e_X0_push_37, e_X0_push_38, e_X0_push_41, e_X0_push_43, e_X0_push_46, e_X0_push_47, e_X0_push_48, e_X0_push_51, e_X0_push_52, e_X0_push_53, e_X0_push_56, zpush_i, zpush_l, zpush_v, Option.bind_some, ↓if_pos, ↓if_neg, Int.reduceAdd, w32_id, hp, f1, f2, zup_off]
      · rw [if_neg c2]
        simp (disch := first | assumption | omega | (simp only [zcat_0, zcat_i, zcat_l, zcat_r, zcat_t]; omega) | simp) only [e_X0_push_0, e_X0_push_1, e_X0_push_4, e_X0_push_5, e_X0_push_8, e_X0_push_9, e_X0_push_12, e_X0_push_13, e_X0_push_14, e_X0_push_17, e_X0_push_18, e_X0_push_19, e_X0_push_21, e_X0_push_24, e_X0_push_25, e_X0_push_28, e_X0_push_29, e_X0_push_30, e_X0_push_33, e_X0_push_34, e_X0_push_37, e_X0_push_38, e_X0_push_41, e_X0_push_43, e_X0_push_46, e_X0_push_47, e_X0_push_48, e_X0_push_51, e_X0_push_52, e_X0_push_53, e_X0_push_56, zpush_i, zpush_l, zpush_v, Option.bind_some, ↓if_pos, ↓if_neg, Int.reduceAdd, w32_id, hp, f1, f2, zup_off]
  · have g1 : w2 29 1 = (w 29 1 + 1) % 12 := by
      rw [← e2, zup_off _ (by omega), zup_self]
      split <;> omega
    have g2 : w2 29 2 = (if H.length = 12 then 12 else (H.length : Int) + 1) := by rw [← e2, zup_self]
    have v : ∀ y : Int, 0 ≤ y → y < 12 → y ≠ w 29 1 → w2 31 y = w 31 y ∧ w2 32 y = w 32 y ∧ w2 33 y = w 33 y := fun y y0 y1 yn => by
      rw [← e2, zup_ne (by omega), zup_ne (by omega), zup_ne (by omega), zup_ne (by omega), zup_ne (by omega), zup_ne (by omega), ← e1]
      simp (disch := omega) only [zup_off, and_self]
    have u : w2 31 (w 29 1) = packC S ∧ w2 32 (w 29 1) = w 19 10 ∧ w2 33 (w 29 1) = 1 := by
      rw [← e2, zup_ne (by omega), zup_ne (by omega), zup_ne (by omega), zup_ne (by omega), zup_ne (by omega), zup_ne (by omega), ← e1]
      simp (disch := omega) only [zup_off, zup_self, and_self]
    unfold aPu
    by_cases c : H.length = 12
    · rw [if_pos c] at g2 ⊢
      have hl : (H.drop 1 ++ [(S, w 19 10)]).length = 12 := by simp; omega
      have hl1 : (H.drop 1).length = 11 := by simp; omega
      refine ⟨by rw [g2, hl]; rfl, by omega, by omega, by omega, fun i hi => ?_⟩
      rw [hl] at hi ⊢
      rw [g1]
      by_cases ci : i < 11
      · have z := h5 (i + 1) (by omega)
        rw [hH_lt (by omega), hH_drop]
        have ez : ((w 29 1 + 1) % 12 - ((12 : Nat) : Int) + (i : Int)) % 12 = (w 29 1 - (H.length : Int) + ((i + 1 : Nat) : Int)) % 12 := by omega
        rw [ez]
        obtain ⟨v1, v2, v3⟩ := v _ (by omega) (by omega) (show (w 29 1 - (H.length : Int) + ((i + 1 : Nat) : Int)) % 12 ≠ w 29 1 by omega)
        rw [v1, v2, v3]
        exact z
      · have ez : ((w 29 1 + 1) % 12 - ((12 : Nat) : Int) + (i : Int)) % 12 = w 29 1 := by omega
        rw [ez, show i = (H.drop 1).length by omega, hH_at]
        exact u
    · rw [if_neg c] at g2 ⊢
      have hl : (H ++ [(S, w 19 10)]).length = H.length + 1 := by simp
      refine ⟨by rw [g2, hl]; rfl, by omega, by omega, by omega, fun i hi => ?_⟩
      rw [hl] at hi ⊢
      rw [g1]
      by_cases ci : i < H.length
      · have z := h5 i ci
        rw [hH_lt ci]
        have ez : ((w 29 1 + 1) % 12 - ((H.length + 1 : Nat) : Int) + (i : Int)) % 12 = (w 29 1 - (H.length : Int) + (i : Int)) % 12 := by omega
        rw [ez]
        obtain ⟨v1, v2, v3⟩ := v _ (by omega) (by omega) (show (w 29 1 - (H.length : Int) + (i : Int)) % 12 ≠ w 29 1 by omega)
        rw [v1, v2, v3]
        exact z
      · have ez : ((w 29 1 + 1) % 12 - ((H.length + 1 : Nat) : Int) + (i : Int)) % 12 = w 29 1 := by omega
        rw [ez, show i = H.length by omega, hH_at]
        exact u
end R4
