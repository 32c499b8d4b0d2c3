/-! the reference's word of a scene -/
def rcl (n : Int) (S : Sc) (i : Nat) : Int := if i < 13 then S.1 i else if i < 17 then (if (i : Int) - 13 < n then S.1 i else 0) else if i < 21 then S.1 i else rE S.2 (i - 21)
def mW (i : Nat) : Int := if i < 3 then 4 else if i < 6 then 8 else if i < 9 then 2 else if i < 17 then 8 else if i < 21 then 2 else 8
def pB : Nat → Int
  | 0 => 1
  | i + 1 => pB i * mW i
def pR (n : Int) (S : Sc) : Nat → Int
  | 0 => 0
  | i + 1 => pR n S i * mW i + rcl n S i
def packR (n : Int) (S : Sc) : Int := pR n S 25
theorem pR_s (n : Int) (S : Sc) (i : Nat) : pR n S (i + 1) = pR n S i * mW i + rcl n S i := rfl
theorem pB_le : ∀ i : Nat, i < 26 → pB i ≤ 288230376151711744 := by decide +kernel
theorem mW_in (i : Nat) : mW i = 4 ∧ i < 3 ∨ mW i = 8 ∧ 3 ≤ i ∧ i < 6 ∨ mW i = 2 ∧ 6 ≤ i ∧ i < 9 ∨ mW i = 8 ∧ 9 ≤ i ∧ i < 17 ∨ mW i = 2 ∧ 17 ≤ i ∧ i < 21 ∨ mW i = 8 ∧ 21 ≤ i := by
  unfold mW
  by_cases h1 : i < 3
  · rw [if_pos h1]; omega
  rw [if_neg h1]
  by_cases h2 : i < 6
  · rw [if_pos h2]; omega
  rw [if_neg h2]
  by_cases h3 : i < 9
  · rw [if_pos h3]; omega
  rw [if_neg h3]
  by_cases h4 : i < 17
  · rw [if_pos h4]; omega
  rw [if_neg h4]
  by_cases h5 : i < 21
  · rw [if_pos h5]; omega
  rw [if_neg h5]
  omega
section K4
variable {d : Nat} {w : zW} {k j p q n x : Int} {S S' : Sc} {P : Pg}
theorem rcl_a {i : Nat} (h : i < 13) : rcl n S i = S.1 i := by unfold rcl; rw [if_pos h]
theorem rcl_b {i : Nat} (h : 13 ≤ i) (h2 : i < 17) : rcl n S i = if (i : Int) - 13 < n then S.1 i else 0 := by unfold rcl; rw [if_neg (by omega), if_pos h2]
theorem rcl_c {i : Nat} (h : 17 ≤ i) (h2 : i < 21) : rcl n S i = S.1 i := by unfold rcl; rw [if_neg (by omega), if_neg (by omega), if_pos h2]
theorem rcl_d {i : Nat} (h : 21 ≤ i) : rcl n S i = rE S.2 (i - 21) := by unfold rcl; rw [if_neg (by omega), if_neg (by omega), if_neg (by omega)]
theorem RS.cell (h : RS w n S) {i : Nat} (hi : i < 25) : w 72 i = rcl n S i := by
  obtain ⟨a1, a2, a3⟩ := h
  by_cases h1 : i < 13
  · rw [rcl_a h1]
    exact a1 i (by omega) (by omega)
  by_cases h2 : i < 17
  · rw [rcl_b (by omega) h2]
    have := (a2 ((i : Int) - 13) (by omega) (by omega)).1
    rw [show 13 + ((i : Int) - 13) = i by omega] at this
    exact this
  by_cases h3 : i < 21
  · rw [rcl_c (by omega) h3]
    have := (a2 ((i : Int) - 17) (by omega) (by omega)).2
    rw [show 17 + ((i : Int) - 17) = i by omega] at this
    exact this
  · rw [rcl_d (by omega)]
    have := a3 (i - 21) (by omega)
    rw [show 21 + ((i - 21 : Nat) : Int) = i by omega] at this
    exact this
theorem RS.of (h : ∀ i : Nat, i < 25 → w 72 i = rcl n S i) : RS w n S := by
  refine ⟨fun i i0 i1 => ?_, fun t t0 t4 => ⟨?_, ?_⟩, fun i hi => ?_⟩
  · have := h i.toNat (by omega)
    rw [rcl_a (by omega), show ((i.toNat : Nat) : Int) = i by omega] at this
    exact this
  · have := h (13 + t).toNat (by omega)
    rw [rcl_b (by omega) (by omega), show (((13 + t).toNat : Nat) : Int) = 13 + t by omega, show 13 + t - 13 = t by omega] at this
    exact this
  · have := h (17 + t).toNat (by omega)
    rw [rcl_c (by omega) (by omega), show (((17 + t).toNat : Nat) : Int) = 17 + t by omega] at this
    exact this
  · have := h (21 + i) (by omega)
    rw [rcl_d (by omega), show 21 + i - 21 = i by omega, show ((21 + i : Nat) : Int) = 21 + (i : Int) by omega] at this
    exact this
theorem rcl_in (hP : WP P) (hW : WS0 P S) {i : Nat} (hi : i < 25) : 0 ≤ rcl (P 0 6) S i ∧ rcl (P 0 6) S i < mW i := by
  have hP4 := hP.2.1
  have hm := mW_in i
  by_cases h1 : i < 13
  · rw [rcl_a h1]
    by_cases c1 : i < 3
    · have := hW.1 i (by omega) (by omega)
      omega
    by_cases c2 : i < 6
    · have := hW.1 ((i : Int) - 3) (by omega) (by omega)
      rw [show 3 + ((i : Int) - 3) = i by omega] at this
      omega
    by_cases c3 : i < 9
    · have := hW.1 ((i : Int) - 6) (by omega) (by omega)
      rw [show 6 + ((i : Int) - 6) = i by omega] at this
      omega
    · have h := hW.2.1 ((i : Int) - 9) (by omega) (by omega)
      have g := hP.2.2.2.1 ((i : Int) - 9) (by omega) (by omega)
      rw [show 9 + ((i : Int) - 9) = i by omega] at h
      omega
  by_cases h2 : i < 17
  · rw [rcl_b (by omega) h2]
    have h := hW.2.1 ((i : Int) - 13) (by omega) (by omega)
    rw [show 13 + ((i : Int) - 13) = i by omega] at h
    split <;> omega
  by_cases h3 : i < 21
  · rw [rcl_c (by omega) h3]
    have h := hW.2.1 ((i : Int) - 17) (by omega) (by omega)
    rw [show 17 + ((i : Int) - 17) = i by omega] at h
    omega
  · rw [rcl_d (by omega)]
    by_cases c : i - 21 < S.2.length
    · rw [rE_pos c]
      have := (hW.2.2.2 _).mp (getD_mem c)
      omega
    · rw [rE_no (by omega)]
      omega
theorem pR_in (hP : WP P) (hW : WS0 P S) : ∀ i : Nat, i < 26 → 0 ≤ pR (P 0 6) S i ∧ pR (P 0 6) S i < pB i
  | 0, _ => by
    have e1 : pR (P 0 6) S 0 = 0 := rfl
    have e2 : pB 0 = 1 := rfl
    omega
  | i + 1, h => by
    have ih := pR_in hP hW i (by omega)
    have hc := rcl_in hP hW (i := i) (by omega)
    have e1 := pR_s (P 0 6) S i
    have e2 : pB (i + 1) = pB i * mW i := rfl
    rcases mW_in i with ⟨e, -⟩ | ⟨e, -⟩ | ⟨e, -⟩ | ⟨e, -⟩ | ⟨e, -⟩ | ⟨e, -⟩ <;> rw [e] at e1 e2 hc <;> omega
theorem m_pk_i (hP : WP P) (hW : WS0 P S) (hR : RS w (P 0 6) S) {i : Nat} (hi : i < 25) {v : zV} : ∃ v', Rn d 98 4 [(2, 67), (1, pR (P 0 6) S i), (9, 0), (0, (i : Int)), v] [] 92 w = Rn d 98 4 [(2, 67), (1, pR (P 0 6) S (i + 1)), (9, 0), (0, (i : Int) + 1), v'] [] 92 w := by
  have zo67 := zo_67; have zo72 := zo_72; have zl72 := zl_72
  have hc := hR.cell hi
  have h1 := pR_in hP hW i (by omega)
  have h2 := rcl_in hP hW hi
  have h3 := pB_le i (by omega)
  have e1 := pR_s (P 0 6) S i
  rcases mW_in i with ⟨e, c1⟩ | ⟨e, c1, c2⟩ | ⟨e, c1, c2⟩ | ⟨e, c1, c2⟩ | ⟨e, c1, c2⟩ | ⟨e, c1⟩ <;> rw [e] at e1 h2
  · refine ⟨(0, 2), ?_⟩
    rw [e_X8_packed_4]
    simp (disch := first | assumption | omega | (simp only [zcat_0, zcat_i, zcat_l, zcat_r, zcat_t]; omega) | simp) only [e_X8_packed_5, e_X8_packed_7, e_X8_packed_10, e_X8_packed_11, e_X8_packed_12, e_X8_packed_15, e_X8_packed_16, e_X8_packed_19, e_X8_packed_20, e_X8_packed_22, e_X8_packed_25, e_X8_packed_26, e_X8_packed_29, e_X8_packed_30, e_X8_packed_32, e_X8_packed_35, e_X8_packed_36, e_X8_packed_39, e_X8_packed_40, e_X8_packed_42, e_X8_packed_45, e_X8_packed_46, e_X8_packed_49, e_X8_packed_50, e_X8_packed_52, e_X8_packed_55, e_X8_packed_56, e_X8_packed_59, e_X8_packed_60, e_X8_packed_62, e_X8_packed_63, e_X8_packed_65, e_X8_packed_66, e_X8_packed_67, e_X8_packed_70, e_X8_packed_71, e_X8_packed_72, e_X8_packed_73, e_X8_packed_74, e_X8_packed_75, e_X8_packed_78, zpush_i, zpush_l, zpush_v, Option.bind_some, ↓if_pos, ↓if_neg, Int.reduceAdd, w32_id, hc, pk2, e1]
  · refine ⟨(0, 3), ?_⟩
    rw [e_X8_packed_4]
    simp (disch := first | assumption | omega | (simp only [zcat_0, zcat_i, zcat_l, zcat_r, zcat_t]; omega) | simp) only [e_X8_packed_5, e_X8_packed_7, e_X8_packed_10, e_X8_packed_11, e_X8_packed_12, e_X8_packed_15, e_X8_packed_16, e_X8_packed_19, e_X8_packed_20, e_X8_packed_22, e_X8_packed_25, e_X8_packed_26, e_X8_packed_29, e_X8_packed_30, e_X8_packed_32, e_X8_packed_35, e_X8_packed_36, e_X8_packed_39, e_X8_packed_40, e_X8_packed_42, e_X8_packed_45, e_X8_packed_46, e_X8_packed_49, e_X8_packed_50, e_X8_packed_52, e_X8_packed_55, e_X8_packed_56, e_X8_packed_59, e_X8_packed_60, e_X8_packed_62, e_X8_packed_63, e_X8_packed_65, e_X8_packed_66, e_X8_packed_67, e_X8_packed_70, e_X8_packed_71, e_X8_packed_72, e_X8_packed_73, e_X8_packed_74, e_X8_packed_75, e_X8_packed_78, zpush_i, zpush_l, zpush_v, Option.bind_some, ↓if_pos, ↓if_neg, Int.reduceAdd, w32_id, hc, pk3, e1]
  · refine ⟨(0, 1), ?_⟩
    rw [e_X8_packed_4]
    simp (disch := first | assumption | omega | (simp only [zcat_0, zcat_i, zcat_l, zcat_r, zcat_t]; omega) | simp) only [e_X8_packed_5, e_X8_packed_7, e_X8_packed_10, e_X8_packed_11, e_X8_packed_12, e_X8_packed_15, e_X8_packed_16, e_X8_packed_19, e_X8_packed_20, e_X8_packed_22, e_X8_packed_25, e_X8_packed_26, e_X8_packed_29, e_X8_packed_30, e_X8_packed_32, e_X8_packed_35, e_X8_packed_36, e_X8_packed_39, e_X8_packed_40, e_X8_packed_42, e_X8_packed_45, e_X8_packed_46, e_X8_packed_49, e_X8_packed_50, e_X8_packed_52, e_X8_packed_55, e_X8_packed_56, e_X8_packed_59, e_X8_packed_60, e_X8_packed_62, e_X8_packed_63, e_X8_packed_65, e_X8_packed_66, e_X8_packed_67, e_X8_packed_70, e_X8_packed_71, e_X8_packed_72, e_X8_packed_73, e_X8_packed_74, e_X8_packed_75, e_X8_packed_78, zpush_i, zpush_l, zpush_v, Option.bind_some, ↓if_pos, ↓if_neg, Int.reduceAdd, w32_id, hc, pk1, e1]
  · refine ⟨(0, 3), ?_⟩
    rw [e_X8_packed_4]
    simp (disch := first | assumption | omega | (simp only [zcat_0, zcat_i, zcat_l, zcat_r, zcat_t]; omega) | simp) only [e_X8_packed_5, e_X8_packed_7, e_X8_packed_10, e_X8_packed_11, e_X8_packed_12, e_X8_packed_15, e_X8_packed_16, e_X8_packed_19, e_X8_packed_20, e_X8_packed_22, e_X8_packed_25, e_X8_packed_26, e_X8_packed_29, e_X8_packed_30, e_X8_packed_32, e_X8_packed_35, e_X8_packed_36, e_X8_packed_39, e_X8_packed_40, e_X8_packed_42, e_X8_packed_45, e_X8_packed_46, e_X8_packed_49, e_X8_packed_50, e_X8_packed_52, e_X8_packed_55, e_X8_packed_56, e_X8_packed_59, e_X8_packed_60, e_X8_packed_62, e_X8_packed_63, e_X8_packed_65, e_X8_packed_66, e_X8_packed_67, e_X8_packed_70, e_X8_packed_71, e_X8_packed_72, e_X8_packed_73, e_X8_packed_74, e_X8_packed_75, e_X8_packed_78, zpush_i, zpush_l, zpush_v, Option.bind_some, ↓if_pos, ↓if_neg, Int.reduceAdd, w32_id, hc, pk3, e1]
  · refine ⟨(0, 1), ?_⟩
    rw [e_X8_packed_4]
    simp (disch := first | assumption | omega | (simp only [zcat_0, zcat_i, zcat_l, zcat_r, zcat_t]; omega) | simp) only [e_X8_packed_5, e_X8_packed_7, e_X8_packed_10, e_X8_packed_11, e_X8_packed_12, e_X8_packed_15, e_X8_packed_16, e_X8_packed_19, e_X8_packed_20, e_X8_packed_22, e_X8_packed_25, e_X8_packed_26, e_X8_packed_29, e_X8_packed_30, e_X8_packed_32, e_X8_packed_35, e_X8_packed_36, e_X8_packed_39, e_X8_packed_40, e_X8_packed_42, e_X8_packed_45, e_X8_packed_46, e_X8_packed_49, e_X8_packed_50, e_X8_packed_52, e_X8_packed_55, e_X8_packed_56, e_X8_packed_59, e_X8_packed_60, e_X8_packed_62, e_X8_packed_63, e_X8_packed_65, e_X8_packed_66, e_X8_packed_67, e_X8_packed_70, e_X8_packed_71, e_X8_packed_72, e_X8_packed_73, e_X8_packed_74, e_X8_packed_75, e_X8_packed_78, zpush_i, zpush_l, zpush_v, Option.bind_some, ↓if_pos, ↓if_neg, Int.reduceAdd, w32_id, hc, pk1, e1]
  · refine ⟨(0, 3), ?_⟩
    rw [e_X8_packed_4]
    simp (disch := first | assumption | omega | (simp only [zcat_0, zcat_i, zcat_l, zcat_r, zcat_t]; omega) | simp) only [e_X8_packed_5, e_X8_packed_7, e_X8_packed_10, e_X8_packed_11, e_X8_packed_12, e_X8_packed_15, e_X8_packed_16, e_X8_packed_19, e_X8_packed_20, e_X8_packed_22, e_X8_packed_25, e_X8_packed_26, e_X8_packed_29, e_X8_packed_30, e_X8_packed_32, e_X8_packed_35, e_X8_packed_36, e_X8_packed_39, e_X8_packed_40, e_X8_packed_42, e_X8_packed_45, e_X8_packed_46, e_X8_packed_49, e_X8_packed_50, e_X8_packed_52, e_X8_packed_55, e_X8_packed_56, e_X8_packed_59, e_X8_packed_60, e_X8_packed_62, e_X8_packed_63, e_X8_packed_65, e_X8_packed_66, e_X8_packed_67, e_X8_packed_70, e_X8_packed_71, e_X8_packed_72, e_X8_packed_73, e_X8_packed_74, e_X8_packed_75, e_X8_packed_78, zpush_i, zpush_l, zpush_v, Option.bind_some, ↓if_pos, ↓if_neg, Int.reduceAdd, w32_id, hc, pk3, e1]
theorem m_pk_l (hP : WP P) (hW : WS0 P S) (hR : RS w (P 0 6) S) : ∀ (m i : Nat) (v : zV), i + m = 25 → Rn d 98 4 [(2, 67), (1, pR (P 0 6) S i), (9, 0), (0, (i : Int)), v] [] 92 w = some ((1, packR (P 0 6) S), 92, w) := by
  intro m
  induction m with
  | zero =>
    intro i v hi
    obtain rfl : i = 25 := by omega
    show Rn d 98 4 [(2, 67), (1, packR (P 0 6) S), (9, 0), (0, 25), v] [] 92 w = _
    simp (disch := first | assumption | omega | (simp only [zcat_0, zcat_i, zcat_l, zcat_r, zcat_t]; omega) | simp) only [e_X8_packed_4, e_X8_packed_5, e_X8_packed_7, e_X8_packed_81, e_X8_packed_82, zpush_i, zpush_l, zpush_v, Option.bind_some, ↓if_pos, ↓if_neg, Int.reduceAdd, w32_id]
  | succ m ih =>
    intro i v hi
    obtain ⟨v', e⟩ := m_pk_i (d := d) (v := v) hP hW hR (i := i) (by omega)
    rw [e]
    exact ih (i + 1) v' (by omega)
theorem m_packed (hP : WP P) (hW : WS0 P S) (hR : RS w (P 0 6) S) : Cl d 98 [(2, 67)] 92 w = some ((1, packR (P 0 6) S), 92, w) := by
  show Rn d 98 0 [(2, 67), (9, 0), (9, 0), (9, 0), (9, 0)] [] 92 w = _
  rw [← m_pk_l (d := d) hP hW hR 25 0 (9, 0) rfl]
  simp (disch := first | assumption | omega | (simp only [zcat_0, zcat_i, zcat_l, zcat_r, zcat_t]; omega) | simp) only [e_X8_packed_0, e_X8_packed_1, e_X8_packed_2, e_X8_packed_3, zpush_i, zpush_l, zpush_v, Option.bind_some, ↓if_pos, ↓if_neg, Int.reduceAdd, w32_id]
  rfl
theorem ms1 : z_lsub (z_lshl 1 1) 1 = 1 := by decide +kernel
theorem ms2 : z_lsub (z_lshl 1 2) 1 = 3 := by decide +kernel
theorem ms3 : z_lsub (z_lshl 1 3) 1 = 7 := by decide +kernel
theorem la1 (h0 : 0 ≤ x) (h : x < 9223372036854775808) : z_l2i (z_land x 1) = x % 2 := l_land (m := 1) (by omega) h0 h rfl
theorem la3 (h0 : 0 ≤ x) (h : x < 9223372036854775808) : z_l2i (z_land x 3) = x % 4 := l_land (m := 2) (by omega) h0 h rfl
theorem la7 (h0 : 0 ≤ x) (h : x < 9223372036854775808) : z_l2i (z_land x 7) = x % 8 := l_land (m := 3) (by omega) h0 h rfl
theorem m_op_i (hP : WP P) (hW : WS0 P S) {i : Nat} (hi : i < 25) {v : zV} : ∃ v', Rn d 99 6 [(2, 67), (1, x), (9, 0), (1, pR (P 0 6) S (i + 1)), (9, 0), (0, (i : Int)), v] [] 92 w = Rn d 99 6 [(2, 67), (1, x), (9, 0), (1, pR (P 0 6) S i), (9, 0), (0, (i : Int) + -1), v'] [] 92 (zup w 72 i (rcl (P 0 6) S i)) := by
  have zo67 := zo_67; have zo72 := zo_72; have zl72 := zl_72
  have h1 := pR_in hP hW i (by omega)
  have h2 := rcl_in hP hW hi
  have h3 := pB_le i (by omega)
  have e1 := pR_s (P 0 6) S i
  generalize hy : pR (P 0 6) S (i + 1) = y at *
  rcases mW_in i with ⟨e, c1⟩ | ⟨e, c1, c2⟩ | ⟨e, c1, c2⟩ | ⟨e, c1, c2⟩ | ⟨e, c1, c2⟩ | ⟨e, c1⟩ <;> rw [e] at e1 h2
  · refine ⟨(0, 2), ?_⟩
    have a1 : y % 4 = rcl (P 0 6) S i := by omega
    have a2 : y / 4 = pR (P 0 6) S i := by omega
    rw [e_X8_open_6]
    simp (disch := first | assumption | omega | (simp only [zcat_0, zcat_i, zcat_l, zcat_r, zcat_t]; omega) | simp) only [e_X8_open_8, e_X8_open_11, e_X8_open_13, e_X8_open_14, e_X8_open_17, e_X8_open_18, e_X8_open_21, e_X8_open_23, e_X8_open_25, e_X8_open_28, e_X8_open_29, e_X8_open_32, e_X8_open_34, e_X8_open_36, e_X8_open_39, e_X8_open_40, e_X8_open_43, e_X8_open_45, e_X8_open_47, e_X8_open_50, e_X8_open_51, e_X8_open_54, e_X8_open_56, e_X8_open_58, e_X8_open_61, e_X8_open_62, e_X8_open_65, e_X8_open_66, e_X8_open_68, e_X8_open_69, e_X8_open_72, e_X8_open_74, e_X8_open_75, e_X8_open_76, e_X8_open_78, e_X8_open_79, e_X8_open_80, e_X8_open_81, e_X8_open_82, e_X8_open_83, e_X8_open_84, e_X8_open_85, e_X8_open_87, e_X8_open_88, e_X8_open_89, e_X8_open_92, zpush_i, zpush_l, zpush_v, Option.bind_some, ↓if_pos, ↓if_neg, Int.reduceAdd, w32_id, ms2, la3, sr2, a1, a2]
  · refine ⟨(0, 3), ?_⟩
    have a1 : y % 8 = rcl (P 0 6) S i := by omega
    have a2 : y / 8 = pR (P 0 6) S i := by omega
    rw [e_X8_open_6]
    simp (disch := first | assumption | omega | (simp only [zcat_0, zcat_i, zcat_l, zcat_r, zcat_t]; omega) | simp) only [e_X8_open_8, e_X8_open_11, e_X8_open_13, e_X8_open_14, e_X8_open_17, e_X8_open_18, e_X8_open_21, e_X8_open_23, e_X8_open_25, e_X8_open_28, e_X8_open_29, e_X8_open_32, e_X8_open_34, e_X8_open_36, e_X8_open_39, e_X8_open_40, e_X8_open_43, e_X8_open_45, e_X8_open_47, e_X8_open_50, e_X8_open_51, e_X8_open_54, e_X8_open_56, e_X8_open_58, e_X8_open_61, e_X8_open_62, e_X8_open_65, e_X8_open_66, e_X8_open_68, e_X8_open_69, e_X8_open_72, e_X8_open_74, e_X8_open_75, e_X8_open_76, e_X8_open_78, e_X8_open_79, e_X8_open_80, e_X8_open_81, e_X8_open_82, e_X8_open_83, e_X8_open_84, e_X8_open_85, e_X8_open_87, e_X8_open_88, e_X8_open_89, e_X8_open_92, zpush_i, zpush_l, zpush_v, Option.bind_some, ↓if_pos, ↓if_neg, Int.reduceAdd, w32_id, ms3, la7, sr3, a1, a2]
  · refine ⟨(0, 1), ?_⟩
    have a1 : y % 2 = rcl (P 0 6) S i := by omega
    have a2 : y / 2 = pR (P 0 6) S i := by omega
    rw [e_X8_open_6]
    simp (disch := first | assumption | omega | (simp only [zcat_0, zcat_i, zcat_l, zcat_r, zcat_t]; omega) | simp) only [e_X8_open_8, e_X8_open_11, e_X8_open_13, e_X8_open_14, e_X8_open_17, e_X8_open_18, e_X8_open_21, e_X8_open_23, e_X8_open_25, e_X8_open_28, e_X8_open_29, e_X8_open_32, e_X8_open_34, e_X8_open_36, e_X8_open_39, e_X8_open_40, e_X8_open_43, e_X8_open_45, e_X8_open_47, e_X8_open_50, e_X8_open_51, e_X8_open_54, e_X8_open_56, e_X8_open_58, e_X8_open_61, e_X8_open_62, e_X8_open_65, e_X8_open_66, e_X8_open_68, e_X8_open_69, e_X8_open_72, e_X8_open_74, e_X8_open_75, e_X8_open_76, e_X8_open_78, e_X8_open_79, e_X8_open_80, e_X8_open_81, e_X8_open_82, e_X8_open_83, e_X8_open_84, e_X8_open_85, e_X8_open_87, e_X8_open_88, e_X8_open_89, e_X8_open_92, zpush_i, zpush_l, zpush_v, Option.bind_some, ↓if_pos, ↓if_neg, Int.reduceAdd, w32_id, ms1, la1, sr1, a1, a2]
  · refine ⟨(0, 3), ?_⟩
    have a1 : y % 8 = rcl (P 0 6) S i := by omega
    have a2 : y / 8 = pR (P 0 6) S i := by omega
    rw [e_X8_open_6]
    simp (disch := first | assumption | omega | (simp only [zcat_0, zcat_i, zcat_l, zcat_r, zcat_t]; omega) | simp) only [e_X8_open_8, e_X8_open_11, e_X8_open_13, e_X8_open_14, e_X8_open_17, e_X8_open_18, e_X8_open_21, e_X8_open_23, e_X8_open_25, e_X8_open_28, e_X8_open_29, e_X8_open_32, e_X8_open_34, e_X8_open_36, e_X8_open_39, e_X8_open_40, e_X8_open_43, e_X8_open_45, e_X8_open_47, e_X8_open_50, e_X8_open_51, e_X8_open_54, e_X8_open_56, e_X8_open_58, e_X8_open_61, e_X8_open_62, e_X8_open_65, e_X8_open_66, e_X8_open_68, e_X8_open_69, e_X8_open_72, e_X8_open_74, e_X8_open_75, e_X8_open_76, e_X8_open_78, e_X8_open_79, e_X8_open_80, e_X8_open_81, e_X8_open_82, e_X8_open_83, e_X8_open_84, e_X8_open_85, e_X8_open_87, e_X8_open_88, e_X8_open_89, e_X8_open_92, zpush_i, zpush_l, zpush_v, Option.bind_some, ↓if_pos, ↓if_neg, Int.reduceAdd, w32_id, ms3, la7, sr3, a1, a2]
  · refine ⟨(0, 1), ?_⟩
    have a1 : y % 2 = rcl (P 0 6) S i := by omega
    have a2 : y / 2 = pR (P 0 6) S i := by omega
    rw [e_X8_open_6]
    simp (disch := first | assumption | omega | (simp only [zcat_0, zcat_i, zcat_l, zcat_r, zcat_t]; omega) | simp) only [e_X8_open_8, e_X8_open_11, e_X8_open_13, e_X8_open_14, e_X8_open_17, e_X8_open_18, e_X8_open_21, e_X8_open_23, e_X8_open_25, e_X8_open_28, e_X8_open_29, e_X8_open_32, e_X8_open_34, e_X8_open_36, e_X8_open_39, e_X8_open_40, e_X8_open_43, e_X8_open_45, e_X8_open_47, e_X8_open_50, e_X8_open_51, e_X8_open_54, e_X8_open_56, e_X8_open_58, e_X8_open_61, e_X8_open_62, e_X8_open_65, e_X8_open_66, e_X8_open_68, e_X8_open_69, e_X8_open_72, e_X8_open_74, e_X8_open_75, e_X8_open_76, e_X8_open_78, e_X8_open_79, e_X8_open_80, e_X8_open_81, e_X8_open_82, e_X8_open_83, e_X8_open_84, e_X8_open_85, e_X8_open_87, e_X8_open_88, e_X8_open_89, e_X8_open_92, zpush_i, zpush_l, zpush_v, Option.bind_some, ↓if_pos, ↓if_neg, Int.reduceAdd, w32_id, ms1, la1, sr1, a1, a2]
  · refine ⟨(0, 3), ?_⟩
    have a1 : y % 8 = rcl (P 0 6) S i := by omega
    have a2 : y / 8 = pR (P 0 6) S i := by omega
    rw [e_X8_open_6]
    simp (disch := first | assumption | omega | (simp only [zcat_0, zcat_i, zcat_l, zcat_r, zcat_t]; omega) | simp) only [e_X8_open_8, e_X8_open_11, e_X8_open_13, e_X8_open_14, e_X8_open_17, e_X8_open_18, e_X8_open_21, e_X8_open_23, e_X8_open_25, e_X8_open_28, e_X8_open_29, e_X8_open_32, e_X8_open_34, e_X8_open_36, e_X8_open_39, e_X8_open_40, e_X8_open_43, e_X8_open_45, e_X8_open_47, e_X8_open_50, e_X8_open_51, e_X8_open_54, e_X8_open_56, e_X8_open_58, e_X8_open_61, e_X8_open_62, e_X8_open_65, e_X8_open_66, e_X8_open_68, e_X8_open_69, e_X8_open_72, e_X8_open_74, e_X8_open_75, e_X8_open_76, e_X8_open_78, e_X8_open_79, e_X8_open_80, e_X8_open_81, e_X8_open_82, e_X8_open_83, e_X8_open_84, e_X8_open_85, e_X8_open_87, e_X8_open_88, e_X8_open_89, e_X8_open_92, zpush_i, zpush_l, zpush_v, Option.bind_some, ↓if_pos, ↓if_neg, Int.reduceAdd, w32_id, ms3, la7, sr3, a1, a2]
theorem m_op_l (hP : WP P) (hW : WS0 P S) : ∀ (i : Nat) (w : zW) (v : zV), i ≤ 25 → (∀ y : Nat, i ≤ y → y < 25 → w 72 y = rcl (P 0 6) S y) → ∃ w', Rn d 99 6 [(2, 67), (1, x), (9, 0), (1, pR (P 0 6) S i), (9, 0), (0, (i : Int) + -1), v] [] 92 w = some ((9, 0), 92, w') ∧ RS w' (P 0 6) S ∧ FQ w w' ∧ w' 67 6 = w 67 6 := by
  intro i
  induction i with
  | zero =>
    intro w v hi h
    refine ⟨w, ?_, RS.of (fun y hy => h y (by omega) hy), FQ.rf, rfl⟩
    show Rn d 99 6 [(2, 67), (1, x), (9, 0), (1, pR (P 0 6) S 0), (9, 0), (0, -1), v] [] 92 w = _
    simp (disch := first | assumption | omega | (simp only [zcat_0, zcat_i, zcat_l, zcat_r, zcat_t]; omega) | simp) only [e_X8_open_6, e_X8_open_8, e_X8_open_95, zpush_i, zpush_l, zpush_v, Option.bind_some, ↓if_pos, ↓if_neg, Int.reduceAdd, w32_id]
  | succ i ih =>
    intro w v hi h
    obtain ⟨v', e⟩ := m_op_i (d := d) (w := w) (x := x) (v := v) hP hW (i := i) (by omega)
    obtain ⟨w', g1, g2, g3, g4⟩ := ih (zup w 72 i (rcl (P 0 6) S i)) v' (by omega) (fun y h1 h2 => by
      by_cases ey : y = i
      · subst ey; rw [zup_self]
      · rw [zup_off _ (Or.inr (by omega))]; exact h y (by omega) h2)
    refine ⟨w', ?_, g2, FQ.rf.up.tr g3, by rw [g4, zup_off _ (Or.inl (by omega))]⟩
    rw [← g1, ← e, show ((i + 1 : Nat) : Int) + -1 = (i : Int) by omega]
theorem m_open (hP : WP P) (hW : WS0 P S) : ∃ w', Cl d 99 [(2, 67), (1, packR (P 0 6) S)] 92 w = some ((9, 0), 92, w') ∧ RS w' (P 0 6) S ∧ FQ w w' ∧ w' 67 6 = w 67 6 := by
  obtain ⟨w', g1, g2, g3, g4⟩ := m_op_l (d := d) (x := packR (P 0 6) S) hP hW 25 w (9, 0) (by omega) (fun y h1 h2 => by omega)
  refine ⟨w', ?_, g2, g3, g4⟩
  show Rn d 99 0 [(2, 67), (1, packR (P 0 6) S), (9, 0), (9, 0), (9, 0), (9, 0), (9, 0)] [] 92 w = _
  rw [← g1]
  simp (disch := first | assumption | omega | (simp only [zcat_0, zcat_i, zcat_l, zcat_r, zcat_t]; omega) | simp) only [e_X8_open_0, e_X8_open_1, e_X8_open_2, e_X8_open_4, zpush_i, zpush_l, zpush_v, Option.bind_some, ↓if_pos, ↓if_neg, Int.reduceAdd, w32_id]
  rfl
end K4
