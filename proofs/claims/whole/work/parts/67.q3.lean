section Q3
variable {d : Nat} {w : zW} {j x p t : Int} {S : Sc} {P : Pg} {Q : Sg}
def qRow (S : Sc) (x : Int) : Int := if x < 0 then -1 else if x < S.2.length then S.2.getD x.toNat 0 else -9
/-- how many threads are so -/
def cH (S : Sc) (v : Int) : Nat → Int
  | 0 => 0
  | t + 1 => cH S v t + (if S.1 (13 + t) = v then 1 else 0)
def qPl (S : Sc) (p x : Int) : Int := if ¬ (0 ≤ p ∧ p < 3) then -1 else if x = 0 then S.1 p else if x = 1 then (if S.1 (3 + p) = 0 then -9 else S.1 (3 + p) - 1) else if x = 2 then S.1 (6 + p) else if x = 3 then cH S (1 + p) 4 else if x = 4 then cH S (4 + p) 4 else -1
theorem cH_in (S : Sc) (v : Int) : ∀ t : Nat, 0 ≤ cH S v t ∧ cH S v t ≤ t
  | 0 => ⟨Int.le_refl 0, Int.le_refl 0⟩
  | t + 1 => by
    have := cH_in S v t
    rw [cH]
    split <;> omega
theorem r_row (hC : CS w 19 S) (hW : WS0 P S) : Cl d 78 [(2, 0), (0, x)] 92 w = some ((0, qRow S x), 92, w) := by
  have zo0 := zo_0; have zo19 := zo_19; have zo27 := zo_27; have zl27 := zl_27
  have hl := row_len hW
  have e9 := hC.2.2.1
  unfold qRow
  show Rn d 78 0 [(2, 0), (0, x)] [] 92 w = _
  by_cases c : x < 0
  · rw [if_pos c]
    simp (disch := first | assumption | omega | (simp only [zcat_0, zcat_i, zcat_l, zcat_r, zcat_t]; omega) | simp) only [e_X7_row_0, e_X7_row_1, e_X7_row_4, e_X7_row_5, zpush_i, zpush_l, zpush_v, Option.bind_some, ↓if_pos, ↓if_neg, Int.reduceAdd, w32_id]
  rw [if_neg c]
  by_cases c2 : x < S.2.length
  · rw [if_pos c2]
    have e8 : w 27 (x.toNat : Int) = S.2.getD x.toNat 0 := hC.2.2.2 x.toNat (by omega)
    rw [show ((x.toNat : Nat) : Int) = x by omega] at e8
    simp (disch := first | assumption | omega | (simp only [zcat_0, zcat_i, zcat_l, zcat_r, zcat_t]; omega) | simp) only [e_X7_row_0, e_X7_row_1, e_X7_row_4, e_X7_row_5, e_X7_row_6, e_X7_row_7, e_X7_row_8, e_X7_row_11, e_X7_row_12, e_X7_row_13, e_X7_row_16, e_X7_row_19, e_X7_row_22, e_X7_row_23, e_X7_row_26, e_X7_row_29, e_X7_row_30, e_X7_row_31, e_X7_row_34, e_X7_row_36, zpush_i, zpush_l, zpush_v, Option.bind_some, ↓if_pos, ↓if_neg, Int.reduceAdd, w32_id, e9, e8]
  · rw [if_neg c2]
    by_cases c4 : x < 4
    · simp (disch := first | assumption | omega | (simp only [zcat_0, zcat_i, zcat_l, zcat_r, zcat_t]; omega) | simp) only [e_X7_row_0, e_X7_row_1, e_X7_row_4, e_X7_row_5, e_X7_row_6, e_X7_row_7, e_X7_row_8, e_X7_row_11, e_X7_row_12, e_X7_row_13, e_X7_row_16, e_X7_row_19, e_X7_row_22, e_X7_row_23, e_X7_row_26, e_X7_row_29, e_X7_row_30, e_X7_row_31, e_X7_row_34, e_X7_row_36, zpush_i, zpush_l, zpush_v, Option.bind_some, ↓if_pos, ↓if_neg, Int.reduceAdd, w32_id, e9]
    · simp (disch := first | assumption | omega | (simp only [zcat_0, zcat_i, zcat_l, zcat_r, zcat_t]; omega) | simp) only [e_X7_row_0, e_X7_row_1, e_X7_row_4, e_X7_row_5, e_X7_row_6, e_X7_row_7, e_X7_row_8, e_X7_row_34, e_X7_row_36, zpush_i, zpush_l, zpush_v, Option.bind_some, ↓if_pos, ↓if_neg, Int.reduceAdd, w32_id]
theorem m_row (hR : RS w (P 0 6) S) (hW : WS0 P S) : Cl d 125 [(2, 67), (0, x)] 92 w = some ((0, qRow S x), 92, w) := by
  have zo67 := zo_67; have zo72 := zo_72; have zl72 := zl_72
  have hl := row_len hW
  unfold qRow
  show Rn d 125 0 [(2, 67), (0, x)] [] 92 w = _
  by_cases c : x < 0
  · rw [if_pos c]
    simp (disch := first | assumption | omega | (simp only [zcat_0, zcat_i, zcat_l, zcat_r, zcat_t]; omega) | simp) only [e_X8_row_0, e_X8_row_1, e_X8_row_4, e_X8_row_5, zpush_i, zpush_l, zpush_v, Option.bind_some, ↓if_pos, ↓if_neg, Int.reduceAdd, w32_id]
  rw [if_neg c]
  by_cases c4 : x < 4
  · have e := hR.2.2 x.toNat (by omega)
    rw [show ((x.toNat : Nat) : Int) = x by omega] at e
    by_cases c2 : x < S.2.length
    · rw [if_pos c2]
      rw [rE_pos (by omega)] at e
      have h0 := (hW.2.2.2 _).mp (getD_mem (l := S.2) (i := x.toNat) (by omega))
      have es : S.2.getD x.toNat 0 + 1 - 1 = S.2.getD x.toNat 0 := by omega
      simp (disch := first | assumption | omega | (simp only [zcat_0, zcat_i, zcat_l, zcat_r, zcat_t]; omega) | simp) only [e_X8_row_0, e_X8_row_1, e_X8_row_4, e_X8_row_5, e_X8_row_6, e_X8_row_7, e_X8_row_8, e_X8_row_11, e_X8_row_12, e_X8_row_15, e_X8_row_17, e_X8_row_18, e_X8_row_19, e_X8_row_20, e_X8_row_23, e_X8_row_24, e_X8_row_27, e_X8_row_29, e_X8_row_30, e_X8_row_31, e_X8_row_32, e_X8_row_33, e_X8_row_34, e_X8_row_37, e_X8_row_39, zpush_i, zpush_l, zpush_v, Option.bind_some, ↓if_pos, ↓if_neg, Int.reduceAdd, w32_id, e, es]
    · rw [if_neg c2]
      rw [rE_no (by omega)] at e
      simp (disch := first | assumption | omega | (simp only [zcat_0, zcat_i, zcat_l, zcat_r, zcat_t]; omega) | simp) only [e_X8_row_0, e_X8_row_1, e_X8_row_4, e_X8_row_5, e_X8_row_6, e_X8_row_7, e_X8_row_8, e_X8_row_11, e_X8_row_12, e_X8_row_15, e_X8_row_17, e_X8_row_18, e_X8_row_19, e_X8_row_20, e_X8_row_23, e_X8_row_24, e_X8_row_27, e_X8_row_29, e_X8_row_30, e_X8_row_31, e_X8_row_32, e_X8_row_33, e_X8_row_34, e_X8_row_37, e_X8_row_39, zpush_i, zpush_l, zpush_v, Option.bind_some, ↓if_pos, ↓if_neg, Int.reduceAdd, w32_id, e]
  · rw [if_neg (by omega)]
    simp (disch := first | assumption | omega | (simp only [zcat_0, zcat_i, zcat_l, zcat_r, zcat_t]; omega) | simp) only [e_X8_row_0, e_X8_row_1, e_X8_row_4, e_X8_row_5, e_X8_row_6, e_X8_row_7, e_X8_row_8, e_X8_row_37, e_X8_row_39, zpush_i, zpush_l, zpush_v, Option.bind_some, ↓if_pos, ↓if_neg, Int.reduceAdd, w32_id]
theorem r_hm_l {k h v : Int} (hk : isS k) (hC : CS w k S) (hW : WS0 P S) (hp : 0 ≤ p ∧ p < 3) (hv : h = 1 ∧ v = 1 + p ∨ h = 2 ∧ v = 4 + p) : ∀ (u t : Nat), t + u = 4 → Rn (d + 2) 24 5 [(2, k), (0, h), (0, p), (0, cH S v t), (0, (t : Int))] [] 92 w = some ((0, cH S v 4), 92, w) := by
  obtain ⟨z0, zn, z1, y1, z2, y2, z3, y3, z4, y4, z5, y5, z6, y6, z7, y7, z8, y8, z9, y9⟩ := sSall hk
  intro u
  induction u with
  | zero =>
    intro t ht
    obtain rfl : t = 4 := by omega
    show Rn (d + 2) 24 5 [(2, k), (0, h), (0, p), (0, cH S v 4), (0, 4)] [] 92 w = _
    simp (disch := first | assumption | omega | (simp only [zcat_0, zcat_i, zcat_l, zcat_r, zcat_t]; omega) | simp) only [e_X2_howMany_5, e_X2_howMany_7, e_X2_howMany_8, e_X2_howMany_31, e_X2_howMany_32, zpush_i, zpush_l, zpush_v, Option.bind_some, ↓if_pos, ↓if_neg, Int.reduceAdd, w32_id]
  | succ u ih =>
    intro t ht
    obtain ⟨f1, f2, f3, f4, f5, f6⟩ := hW.2.1 t (by omega) (by omega)
    have hb := cH_in S v t
    have his : Cl (d + 1) 28 [(2, k), (0, (t : Int)), (0, h), (0, p)] 92 w = some ((0, if S.1 (13 + t) = v then 1 else 0), 92, w) := by
      rcases hv with ⟨rfl, rfl⟩ | ⟨rfl, rfl⟩
      · exact r_is1 hk (by omega) (by omega) hC ⟨f3, f4⟩ hp
      · exact r_is2 hk (by omega) (by omega) hC ⟨f3, f4⟩ hp
    rw [← ih (t + 1) (by omega), show ((t + 1 : Nat) : Int) = (t : Int) + 1 by omega, e_X2_howMany_5, cH]
    by_cases c : S.1 (13 + (t : Int)) = v
    · rw [if_pos c] at his ⊢
      simp (disch := first | assumption | omega | (simp only [zcat_0, zcat_i, zcat_l, zcat_r, zcat_t]; omega) | simp) only [e_X2_howMany_7, e_X2_howMany_8, e_X2_howMany_11, e_X2_howMany_12, e_X2_howMany_14, e_X2_howMany_15, e_X2_howMany_16, e_X2_howMany_19, e_X2_howMany_22, e_X2_howMany_25, e_X2_howMany_28, zpush_i, zpush_l, zpush_v, Option.bind_some, ↓if_pos, ↓if_neg, Int.reduceAdd, w32_id, his]
    · rw [if_neg c] at his ⊢
      rw [Int.add_zero]
      simp (disch := first | assumption | omega | (simp only [zcat_0, zcat_i, zcat_l, zcat_r, zcat_t]; omega) | simp) only [e_X2_howMany_7, e_X2_howMany_8, e_X2_howMany_11, e_X2_howMany_12, e_X2_howMany_14, e_X2_howMany_15, e_X2_howMany_16, e_X2_howMany_19, e_X2_howMany_22, e_X2_howMany_25, e_X2_howMany_28, zpush_i, zpush_l, zpush_v, Option.bind_some, ↓if_pos, ↓if_neg, Int.reduceAdd, w32_id, his]
theorem r_howMany {k h v : Int} (hk : isS k) (hC : CS w k S) (hW : WS0 P S) (hp : 0 ≤ p ∧ p < 3) (hv : h = 1 ∧ v = 1 + p ∨ h = 2 ∧ v = 4 + p) : Cl (d + 2) 24 [(2, k), (0, h), (0, p)] 92 w = some ((0, cH S v 4), 92, w) := by
  show Rn (d + 2) 24 0 [(2, k), (0, h), (0, p), (9, 0), (9, 0)] [] 92 w = _
  rw [← r_hm_l (d := d) hk hC hW hp hv 4 0 rfl]
  simp (disch := first | assumption | omega | (simp only [zcat_0, zcat_i, zcat_l, zcat_r, zcat_t]; omega) | simp) only [e_X2_howMany_0, e_X2_howMany_1, e_X2_howMany_2, e_X2_howMany_3, zpush_i, zpush_l, zpush_v, Option.bind_some, ↓if_pos, ↓if_neg, Int.reduceAdd, w32_id]
  rfl
theorem r_place (hC : CS w 19 S) (hW : WS0 P S) (hP : WP P) : Cl (d + 3) 76 [(2, 0), (0, p), (0, x)] 92 w = some ((0, qPl S p x), 92, w) := by
  have zo0 := zo_0; have zo19 := zo_19; have zo20 := zo_20; have zl20 := zl_20; have zo21 := zo_21; have zl21 := zl_21; have zo22 := zo_22; have zl22 := zl_22
  unfold qPl
  show Rn (d + 3) 76 0 [(2, 0), (0, p), (0, x)] [] 92 w = _
  by_cases c : ¬ (0 ≤ p ∧ p < 3)
  · rw [if_pos c]
    have hip := c_isPlace0 (d := d + 2) (w := w) c
    simp (disch := first | assumption | omega | (simp only [zcat_0, zcat_i, zcat_l, zcat_r, zcat_t]; omega) | simp) only [e_X7_place_0, e_X7_place_1, e_X7_place_4, e_X7_place_7, e_X7_place_8, zpush_i, zpush_l, zpush_v, Option.bind_some, ↓if_pos, ↓if_neg, Int.reduceAdd, w32_id, hip]
  rw [if_neg c]
  have pp : 0 ≤ p ∧ p < 3 := by omega
  have hip := c_isPlace1 (d := d + 2) (w := w) pp.1 pp.2
  obtain ⟨e1, e2, e3⟩ := hC.1 p pp.1 pp.2
  have e1' : w 20 p = S.1 p := e1
  have e2' : w 21 p = ownC (S.1 (3 + p)) := e2
  have e3' : w 22 p = S.1 (6 + p) := e3
  have ho := ownC_in hP hW pp
  obtain ⟨p1, p2, p3, p4, p5⟩ := hW.1 p pp.1 pp.2
  have hP4 := hP.2.1
  have h1 := r_howMany (d := d) (k := 19) (h := 1) (v := 1 + p) (by omega) hC hW pp (Or.inl ⟨rfl, rfl⟩)
  have h2 := r_howMany (d := d) (k := 19) (h := 2) (v := 4 + p) (by omega) hC hW pp (Or.inr ⟨rfl, rfl⟩)
  have hd : Rn (d + 3) 76 0 [(2, 0), (0, p), (0, x)] [] 92 w = Rn (d + 3) 76 10 [(2, 0), (0, p), (0, x)] [(0, x)] 92 w := by
    simp (disch := first | assumption | omega | (simp only [zcat_0, zcat_i, zcat_l, zcat_r, zcat_t]; omega) | simp) only [e_X7_place_0, e_X7_place_1, e_X7_place_4, e_X7_place_7, e_X7_place_8, e_X7_place_9, zpush_i, zpush_l, zpush_v, Option.bind_some, ↓if_pos, ↓if_neg, Int.reduceAdd, w32_id, hip]
  rw [hd]
  by_cases x0 : x = 0
  · subst x0
    rw [if_pos rfl]
    simp (disch := first | assumption | omega | (simp only [zcat_0, zcat_i, zcat_l, zcat_r, zcat_t]; omega) | simp) only [e_X7_place_10_k0, e_X7_place_10_k1, e_X7_place_10_k2, e_X7_place_10_k3, e_X7_place_10_k4, e_X7_place_10_o, e_X7_place_44, e_X7_place_45, e_X7_place_48, e_X7_place_51, e_X7_place_52, e_X7_place_53, zpush_i, zpush_l, zpush_v, Option.bind_some, ↓if_pos, ↓if_neg, Int.reduceAdd, w32_id, e1']
  rw [if_neg x0]
  by_cases x1 : x = 1
  · subst x1
    rw [if_pos rfl]
    by_cases z : S.1 (3 + p) = 0
    · rw [if_pos z]
      rw [z] at e2'
      have e2'' : w 21 p = 4 := e2'
      simp (disch := first | assumption | omega | (simp only [zcat_0, zcat_i, zcat_l, zcat_r, zcat_t]; omega) | simp) only [e_X7_place_10_k1, e_X7_place_54, e_X7_place_55, e_X7_place_58, e_X7_place_61, e_X7_place_62, e_X7_place_63, e_X7_place_64, e_X7_place_67, e_X7_place_69, e_X7_place_72, e_X7_place_73, e_X7_place_76, e_X7_place_79, e_X7_place_80, e_X7_place_81, zpush_i, zpush_l, zpush_v, Option.bind_some, ↓if_pos, ↓if_neg, Int.reduceAdd, w32_id, e2'']
    · rw [if_neg z]
      have e2'' : w 21 p = S.1 (3 + p) - 1 := by rw [e2']; unfold ownC; rw [if_neg z]
      simp (disch := first | assumption | omega | (simp only [zcat_0, zcat_i, zcat_l, zcat_r, zcat_t]; omega) | simp) only [e_X7_place_10_k1, e_X7_place_54, e_X7_place_55, e_X7_place_58, e_X7_place_61, e_X7_place_62, e_X7_place_63, e_X7_place_64, e_X7_place_67, e_X7_place_69, e_X7_place_72, e_X7_place_73, e_X7_place_76, e_X7_place_79, e_X7_place_80, e_X7_place_81, zpush_i, zpush_l, zpush_v, Option.bind_some, ↓if_pos, ↓if_neg, Int.reduceAdd, w32_id, e2'']
  rw [if_neg x1]
  by_cases x2 : x = 2
  · subst x2
    rw [if_pos rfl]
    simp (disch := first | assumption | omega | (simp only [zcat_0, zcat_i, zcat_l, zcat_r, zcat_t]; omega) | simp) only [e_X7_place_10_k2, e_X7_place_82, e_X7_place_83, e_X7_place_86, e_X7_place_89, e_X7_place_90, e_X7_place_91, zpush_i, zpush_l, zpush_v, Option.bind_some, ↓if_pos, ↓if_neg, Int.reduceAdd, w32_id, e3']
  rw [if_neg x2]
  by_cases x3 : x = 3
  · subst x3
    rw [if_pos rfl]
    simp (disch := first | assumption | omega | (simp only [zcat_0, zcat_i, zcat_l, zcat_r, zcat_t]; omega) | simp) only [e_X7_place_10_k3, e_X7_place_92, e_X7_place_93, e_X7_place_96, e_X7_place_97, e_X7_place_98, e_X7_place_101, zpush_i, zpush_l, zpush_v, Option.bind_some, ↓if_pos, ↓if_neg, Int.reduceAdd, w32_id, h1]
  rw [if_neg x3]
  by_cases x4 : x = 4
  · subst x4
    rw [if_pos rfl]
    simp (disch := first | assumption | omega | (simp only [zcat_0, zcat_i, zcat_l, zcat_r, zcat_t]; omega) | simp) only [e_X7_place_10_k4, e_X7_place_102, e_X7_place_103, e_X7_place_106, e_X7_place_107, e_X7_place_108, e_X7_place_111, zpush_i, zpush_l, zpush_v, Option.bind_some, ↓if_pos, ↓if_neg, Int.reduceAdd, w32_id, h2]
  rw [if_neg x4, e_X7_place_10_o (by omega)]
  simp (disch := first | assumption | omega | (simp only [zcat_0, zcat_i, zcat_l, zcat_r, zcat_t]; omega) | simp) only [e_X7_place_112, e_X7_place_113, zpush_i, zpush_l, zpush_v, Option.bind_some, ↓if_pos, ↓if_neg, Int.reduceAdd, w32_id]
end Q3
