section T4
variable {d : Nat} {w : zW} {T : List Int}
abbrev aT0 (T : List Int) : Nat → Int := fun i => T.getD i 0
/-- the tokens that are laid -/
def CT (w : zW) (L : Tk) : Prop := w 16 2 = L.length ∧ ∀ i : Nat, i < L.length → w 17 i = (L.getD i (-1, 0)).1 ∧ w 18 i = (L.getD i (-1, 0)).2
/-- nothing but the tokens -/
def FT (w w' : zW) : Prop := ∀ a i, a ≠ 17 → a ≠ 18 → (a ≠ 16 ∨ i ≠ 2) → w' a i = w a i
theorem FT.tr {w' w'' : zW} (h : FT w w') (h' : FT w' w'') : FT w w'' := fun a i h1 h2 h3 => (h' a i h1 h2 h3).trans (h a i h1 h2 h3)
theorem r_addTok {L : Tk} {k s : Int} (h : CT w L) (hl : L.length ≤ 120) : ∃ w', Cl d 8 [(2, 16), (0, k), (0, s)] 92 w = some ((9, 0), 92, w') ∧ CT w' (L ++ [(k, s)]) ∧ FT w w' := by
  have zo16 := zo_16; have zo17 := zo_17; have zl17 := zl_17; have zo18 := zo_18; have zl18 := zl_18
  have e := h.1
  refine ⟨zup (zup (zup w 17 L.length k) 18 L.length s) 16 2 (L.length + 1), ?_, ⟨?_, fun i hi => ?_⟩, fun a i h1 h2 h3 => by rw [zup_off _ h3, zup_ne h2, zup_ne h1]⟩
  · show Rn d 8 0 [(2, 16), (0, k), (0, s)] [] 92 w = _
    simp (disch := first | assumption | omega | (simp only [zcat_0, zcat_i, zcat_l, zcat_r, zcat_t]; omega) | simp) only [e_X1_addToken_0, e_X1_addToken_1, e_X1_addToken_4, e_X1_addToken_7, e_X1_addToken_8, e_X1_addToken_11, e_X1_addToken_13, e_X1_addToken_16, e_X1_addToken_17, e_X1_addToken_18, e_X1_addToken_21, e_X1_addToken_22, e_X1_addToken_25, e_X1_addToken_26, e_X1_addToken_27, e_X1_addToken_28, e_X1_addToken_31, e_X1_addToken_32, e_X1_addToken_35, e_X1_addToken_36, e_X1_addToken_37, e_X1_addToken_38, e_X1_addToken_39, e_X1_addToken_42, e_X1_addToken_43, e_X1_addToken_44, e_X1_addToken_47, zpush_i, zpush_l, zpush_v, Option.bind_some, ↓if_pos, ↓if_neg, Int.reduceAdd, w32_id, e, zup_off]
  · rw [zup_self, List.length_append]
    rfl
  · rw [zup_ne (a := 16) (a' := 17) (by omega), zup_ne (a := 18) (a' := 17) (by omega), zup_ne (a := 16) (a' := 18) (by omega)]
    rw [List.length_append] at hi
    have hi' : i < L.length + 1 := hi
    by_cases c : i < L.length
    · rw [zup_off _ (by omega), zup_off _ (by omega), List.getD_eq_getElem?_getD, List.getElem?_append_left c, ← List.getD_eq_getElem?_getD]
      exact h.2 i c
    · have : i = L.length := by omega
      subst this
      rw [zup_self, zup_self, List.getD_eq_getElem?_getD, List.getElem?_append_right (Nat.le_refl _), Nat.sub_self]
      exact ⟨rfl, rfl⟩
theorem r_sp_d (hT : ∀ i : Nat, i < T.length → w 1 i = T.getD i 0) (hl : T.length ≤ 120) {fi : Int} : ∀ (u i : Nat) (k : Int), i + u = T.length → Rn d 6 38 [(2, 16), (2, 1), (0, (T.length : Int)), (0, (i : Int)), (0, fi), (0, k)] [] 92 w = Rn d 6 69 [(2, 16), (2, 1), (0, (T.length : Int)), (0, (dE (aT0 T) T.length i : Int)), (0, fi), (0, if dE (aT0 T) T.length i = i then k else -2)] [] 92 w := by
  have zo1 := zo_1; have zl1 := zl_1
  intro u
  induction u with
  | zero =>
    intro i k hi
    rw [dE_no (by omega), if_pos rfl]
    rw [e_X1_split_38]
    simp (disch := first | assumption | omega | (simp only [zcat_0, zcat_i, zcat_l, zcat_r, zcat_t]; omega) | simp) only [e_X1_split_39, e_X1_split_40, zpush_i, zpush_l, zpush_v, Option.bind_some, ↓if_pos, ↓if_neg, Int.reduceAdd, w32_id]
  | succ u ih =>
    intro i k hi
    have e := hT i (by omega)
    rw [e_X1_split_38]
    by_cases c : dg (T.getD i 0)
    · have h2 := ih (i + 1) (-2) (by omega)
      have hd := dE_in (a := aT0 T) (n := T.length) (i := i + 1) (by omega)
      rw [dE_yes (a := aT0 T) (by omega) c, if_neg (by omega)]
      rw [show (if dE (aT0 T) T.length (i + 1) = i + 1 then (-2 : Int) else -2) = -2 by split <;> rfl, show ((i + 1 : Nat) : Int) = (i : Int) + 1 by omega] at h2
      simp (disch := first | assumption | omega | (simp only [zcat_0, zcat_i, zcat_l, zcat_r, zcat_t]; omega) | simp) only [e_X1_split_39, e_X1_split_40, e_X1_split_43, e_X1_split_44, e_X1_split_45, e_X1_split_46, e_X1_split_48, e_X1_split_51, e_X1_split_52, e_X1_split_53, e_X1_split_54, e_X1_split_56, e_X1_split_59, e_X1_split_61, e_X1_split_63, e_X1_split_66, zpush_i, zpush_l, zpush_v, Option.bind_some, ↓if_pos, ↓if_neg, Int.reduceAdd, w32_id, e]
      exact h2
    · rw [dE_no (a := aT0 T) (fun z => c z.2), if_pos rfl]
      by_cases c1 : T.getD i 0 < 48
      · simp (disch := first | assumption | omega | (simp only [zcat_0, zcat_i, zcat_l, zcat_r, zcat_t]; omega) | simp) only [e_X1_split_39, e_X1_split_40, e_X1_split_43, e_X1_split_44, e_X1_split_45, e_X1_split_46, e_X1_split_48, e_X1_split_51, e_X1_split_52, e_X1_split_53, e_X1_split_54, e_X1_split_56, e_X1_split_59, e_X1_split_61, e_X1_split_63, e_X1_split_66, zpush_i, zpush_l, zpush_v, Option.bind_some, ↓if_pos, ↓if_neg, Int.reduceAdd, w32_id, e]
      · simp (disch := first | assumption | omega | (simp only [zcat_0, zcat_i, zcat_l, zcat_r, zcat_t]; omega) | simp) only [e_X1_split_39, e_X1_split_40, e_X1_split_43, e_X1_split_44, e_X1_split_45, e_X1_split_46, e_X1_split_48, e_X1_split_51, e_X1_split_52, e_X1_split_53, e_X1_split_54, e_X1_split_56, e_X1_split_59, e_X1_split_61, e_X1_split_63, e_X1_split_66, zpush_i, zpush_l, zpush_v, Option.bind_some, ↓if_pos, ↓if_neg, Int.reduceAdd, w32_id, e]
theorem r_sp_l (hT : ∀ x, x ∈ T → 0 ≤ x ∧ x ≤ 255) (hl : T.length ≤ 120) : ∀ (u i : Nat) (w : zW) (L : Tk) (v5 v6 : zV), T.length - i ≤ u → i ≤ T.length → L.length ≤ i → (∀ i : Nat, i < T.length → w 1 i = T.getD i 0) → CT w L → ∃ w', Rn (d + 6) 6 7 [(2, 16), (2, 1), (0, (T.length : Int)), (0, (i : Int)), v5, v6] [] 92 w = some ((9, 0), 92, w') ∧ CT w' (L ++ tk (aT0 T) T.length i) ∧ FT w w' := by
  have zo1 := zo_1; have zl1 := zl_1; have zo16 := zo_16
  intro u
  have fin : ∀ (i : Nat) (w : zW) (L : Tk) (v5 v6 : zV), i = T.length → L.length ≤ i → CT w L → ∃ w', Rn (d + 6) 6 7 [(2, 16), (2, 1), (0, (T.length : Int)), (0, (i : Int)), v5, v6] [] 92 w = some ((9, 0), 92, w') ∧ CT w' (L ++ tk (aT0 T) T.length i) ∧ FT w w' := fun i w L v5 v6 hi hL hC => by
    subst hi
    obtain ⟨w1, q1, q2, q3⟩ := r_addTok (d := d + 5) (k := -1) (s := T.length) hC (by omega)
    rw [tk_over (Nat.le_refl _)]
    refine ⟨w1, ?_, q2, q3⟩
    rw [e_X1_split_7]
    simp (disch := first | assumption | omega | (simp only [zcat_0, zcat_i, zcat_l, zcat_r, zcat_t]; omega) | simp) only [e_X1_split_8, e_X1_split_9, e_X1_split_87, e_X1_split_88, e_X1_split_89, e_X1_split_90, e_X1_split_93, zpush_i, zpush_l, zpush_v, Option.bind_some, ↓if_pos, ↓if_neg, Int.reduceAdd, w32_id, q1]
  induction u with
  | zero =>
    intro i w L v5 v6 hu hi hL hw hC
    exact fin i w L v5 v6 (by omega) hL hC
  | succ u ih =>
    intro i w L v5 v6 hu hi hL hw hC
    by_cases ce : i = T.length
    · exact fin i w L v5 v6 ce hL hC
    have hx := hT _ (getD_mem (l := T) (i := i) (by omega))
    have e := hw i (by omega)
    have hk := r_kindOf (d := d) (w := w) hx.1 hx.2
    rw [e_X1_split_7]
    by_cases c1 : T.getD i 0 = 32
    · rw [if_pos c1] at hk
      obtain ⟨w1, q1, q2, q3⟩ := ih (i + 1) w L (0, (i : Int)) (0, -3) (by omega) (by omega) (by omega) hw hC
      rw [show ((i + 1 : Nat) : Int) = (i : Int) + 1 by omega] at q1
      rw [tk_blank (a := aT0 T) (by omega) c1]
      refine ⟨w1, ?_, q2, q3⟩
      simp (disch := first | assumption | omega | (simp only [zcat_0, zcat_i, zcat_l, zcat_r, zcat_t]; omega) | simp) only [e_X1_split_8, e_X1_split_9, e_X1_split_12, e_X1_split_13, e_X1_split_15, e_X1_split_16, e_X1_split_17, e_X1_split_18, e_X1_split_21, e_X1_split_23, e_X1_split_26, e_X1_split_28, e_X1_split_31, e_X1_split_33, e_X1_split_35, e_X1_split_38, e_X1_split_39, e_X1_split_40, e_X1_split_43, e_X1_split_44, e_X1_split_45, e_X1_split_46, e_X1_split_48, e_X1_split_51, e_X1_split_52, e_X1_split_53, e_X1_split_54, e_X1_split_56, e_X1_split_59, e_X1_split_61, e_X1_split_63, e_X1_split_66, e_X1_split_69, e_X1_split_71, e_X1_split_73, e_X1_split_76, e_X1_split_77, e_X1_split_79, e_X1_split_81, e_X1_split_84, zpush_i, zpush_l, zpush_v, Option.bind_some, ↓if_pos, ↓if_neg, Int.reduceAdd, w32_id, e, hk]
      exact q1
    rw [if_neg c1] at hk
    by_cases c2 : dg (T.getD i 0)
    · rw [if_pos c2] at hk
      have hd := dE_in (a := aT0 T) (n := T.length) (i := i + 1) (by omega)
      have hr := r_sp_d (d := d + 6) (w := w) (T := T) hw hl (fi := i) (T.length - (i + 1)) (i + 1) (T.getD i 0 - 48) (by omega)
      rw [show ((i + 1 : Nat) : Int) = (i : Int) + 1 by omega] at hr
      obtain ⟨m, em⟩ : ∃ m, dE (aT0 T) T.length (i + 1) = m := ⟨_, rfl⟩
      obtain ⟨kk, ek⟩ : ∃ kk : Int, (if m = i + 1 then T.getD i 0 - 48 else -2) = kk := ⟨_, rfl⟩
      have hkk : kk ≠ -3 := by
        rw [← ek]
        split <;> omega
      rw [em] at hr hd
      rw [ek] at hr
      obtain ⟨w0, r1, r2, r3⟩ := r_addTok (d := d + 5) (k := kk) (s := i) hC (by omega)
      have hw0 : ∀ i : Nat, i < T.length → w0 1 i = T.getD i 0 := fun i hi => by rw [r3 1 i (by omega) (by omega) (by omega), hw i hi]
      obtain ⟨w1, q1, q2, q3⟩ := ih m w0 (L ++ [(kk, (i : Int))]) (0, (i : Int)) (0, kk) (by omega) (by omega) (by rw [List.length_append]; show L.length + 1 ≤ m; omega) hw0 r2
      rw [tk_dig (a := aT0 T) (by omega) c2, em, show (if m = i + 1 then aT0 T i - 48 else (-2 : Int)) = kk from ek]
      rw [List.append_assoc] at q2
      refine ⟨w1, ?_, q2, r3.tr q3⟩
      simp (disch := first | assumption | omega | (simp only [zcat_0, zcat_i, zcat_l, zcat_r, zcat_t]; omega) | simp) only [e_X1_split_8, e_X1_split_9, e_X1_split_12, e_X1_split_13, e_X1_split_15, e_X1_split_16, e_X1_split_17, e_X1_split_18, e_X1_split_21, e_X1_split_23, e_X1_split_26, e_X1_split_28, e_X1_split_31, e_X1_split_33, e_X1_split_35, zpush_i, zpush_l, zpush_v, Option.bind_some, ↓if_pos, ↓if_neg, Int.reduceAdd, w32_id, e, hk]
      rw [hr]
      simp (disch := first | assumption | omega | (simp only [zcat_0, zcat_i, zcat_l, zcat_r, zcat_t]; omega) | simp) only [e_X1_split_69, e_X1_split_71, e_X1_split_73, e_X1_split_76, e_X1_split_77, e_X1_split_79, e_X1_split_81, e_X1_split_84, zpush_i, zpush_l, zpush_v, Option.bind_some, ↓if_pos, ↓if_neg, Int.reduceAdd, w32_id, r1]
      exact q1
    · rw [if_neg c2] at hk
      have hkd := kd_in (T.getD i 0)
      obtain ⟨w0, r1, r2, r3⟩ := r_addTok (d := d + 5) (k := kd (T.getD i 0)) (s := i) hC (by omega)
      have hw0 : ∀ i : Nat, i < T.length → w0 1 i = T.getD i 0 := fun i hi => by rw [r3 1 i (by omega) (by omega) (by omega), hw i hi]
      obtain ⟨w1, q1, q2, q3⟩ := ih (i + 1) w0 (L ++ [(kd (T.getD i 0), (i : Int))]) (0, (i : Int)) (0, kd (T.getD i 0)) (by omega) (by omega) (by rw [List.length_append]; show L.length + 1 ≤ i + 1; omega) hw0 r2
      rw [tk_let (a := aT0 T) (by omega) c1 c2]
      rw [List.append_assoc] at q2
      rw [show ((i + 1 : Nat) : Int) = (i : Int) + 1 by omega] at q1
      refine ⟨w1, ?_, q2, r3.tr q3⟩
      by_cases c4 : kd (T.getD i 0) < 0
      · simp (disch := first | assumption | omega | (simp only [zcat_0, zcat_i, zcat_l, zcat_r, zcat_t]; omega) | simp) only [e_X1_split_8, e_X1_split_9, e_X1_split_12, e_X1_split_13, e_X1_split_15, e_X1_split_16, e_X1_split_17, e_X1_split_18, e_X1_split_21, e_X1_split_23, e_X1_split_26, e_X1_split_28, e_X1_split_69, e_X1_split_71, e_X1_split_73, e_X1_split_76, e_X1_split_77, e_X1_split_79, e_X1_split_81, e_X1_split_84, zpush_i, zpush_l, zpush_v, Option.bind_some, ↓if_pos, ↓if_neg, Int.reduceAdd, w32_id, e, hk, r1]
        exact q1
      · simp (disch := first | assumption | omega | (simp only [zcat_0, zcat_i, zcat_l, zcat_r, zcat_t]; omega) | simp) only [e_X1_split_8, e_X1_split_9, e_X1_split_12, e_X1_split_13, e_X1_split_15, e_X1_split_16, e_X1_split_17, e_X1_split_18, e_X1_split_21, e_X1_split_23, e_X1_split_26, e_X1_split_28, e_X1_split_31, e_X1_split_33, e_X1_split_35, e_X1_split_69, e_X1_split_71, e_X1_split_73, e_X1_split_76, e_X1_split_77, e_X1_split_79, e_X1_split_81, e_X1_split_84, zpush_i, zpush_l, zpush_v, Option.bind_some, ↓if_pos, ↓if_neg, Int.reduceAdd, w32_id, e, hk, r1]
        exact q1
theorem r_split (hT : ∀ x, x ∈ T → 0 ≤ x ∧ x ≤ 255) (hl : T.length ≤ 120) (hw : ∀ i : Nat, i < T.length → w 1 i = T.getD i 0) : ∃ w', Cl (d + 6) 6 [(2, 16), (2, 1), (0, (T.length : Int))] 92 w = some ((9, 0), 92, w') ∧ CT w' (tk (aT0 T) T.length 0) ∧ FT w w' := by
  have zo16 := zo_16
  obtain ⟨w1, q1, q2, q3⟩ := r_sp_l (d := d) hT hl T.length 0 (zup w 16 2 0) [] (9, 0) (9, 0) (by omega) (by omega) (Nat.le_refl _) (fun i hi => by rw [zup_ne (by omega), hw i hi]) ⟨zup_self .., fun i hi => absurd hi (Nat.not_lt_zero _)⟩
  refine ⟨w1, ?_, q2, fun a i h1 h2 h3 => by rw [q3 a i h1 h2 h3, zup_off _ h3]⟩
  show Rn (d + 6) 6 0 [(2, 16), (2, 1), (0, (T.length : Int)), (9, 0), (9, 0), (9, 0)] [] 92 w = _
  simp (disch := first | assumption | omega | (simp only [zcat_0, zcat_i, zcat_l, zcat_r, zcat_t]; omega) | simp) only [e_X1_split_0, e_X1_split_1, e_X1_split_2, e_X1_split_5, e_X1_split_6, zpush_i, zpush_l, zpush_v, Option.bind_some, ↓if_pos, ↓if_neg, Int.reduceAdd, w32_id]
  exact q1
end T4
