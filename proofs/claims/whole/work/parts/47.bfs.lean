/-! WHAT HAS BEEN FOUND: a scene, where it came from, by whom, how deep -/
abbrev Ent : Type := Sc × Int × Int × Int
abbrev BL : Type := List Ent
def e00 : Ent := ((fun _ => 0, []), 0, 0, 0)
def eS (L : BL) (i : Nat) : Sc := (L.getD i e00).1
def eP (L : BL) (i : Nat) : Int := (L.getD i e00).2.1
def eB (L : BL) (i : Nat) : Int := (L.getD i e00).2.2.1
def eD (L : BL) (i : Nat) : Int := (L.getD i e00).2.2.2
def hasC (L : BL) (x : Int) : Bool := L.any (fun e => decide (packC e.1 = x))
theorem hasC_iff {L : BL} {x : Int} : hasC L x = true ↔ ∃ j : Nat, j < L.length ∧ packC (eS L j) = x := by
  unfold hasC
  rw [List.any_eq_true]
  constructor
  · rintro ⟨e, h1, h2⟩
    obtain ⟨j, hj, rfl⟩ := List.getElem_of_mem h1
    refine ⟨j, hj, ?_⟩
    unfold eS
    rw [List.getD_eq_getElem?_getD, List.getElem?_eq_getElem hj]
    exact of_decide_eq_true h2
  · rintro ⟨j, hj, h⟩
    refine ⟨L[j], List.getElem_mem hj, decide_eq_true ?_⟩
    unfold eS at h
    rw [List.getD_eq_getElem?_getD, List.getElem?_eq_getElem hj] at h
    exact h
def aCome (L : BL) (e : Ent) : BL := if hasC L (packC e.1) = true then L else if L.length ≤ 3000 then L ++ [e] else L
def LG (P : Pg) (L : BL) : Prop := L.length ≤ 3001 ∧ (∀ i : Nat, i < L.length → WS P (eS L i)) ∧
  (∀ i : Nat, 0 < i → i < L.length → 0 ≤ eP L i ∧ eP L i < i ∧ 0 ≤ eB L i ∧ eB L i < 4 ∧ eD L i = eD L (eP L i).toNat + 1) ∧ (0 < L.length → eP L 0 = -9 ∧ eB L 0 = -9 ∧ eD L 0 = 0)
def CL (w : zW) (L : BL) : Prop := w 41 9 = ((min L.length 3000 : Nat) : Int) ∧ w 41 8 = (if 3000 < L.length then 1 else 0) ∧
  (∀ i : Nat, i < L.length → i < 3000 → w 42 i = packC (eS L i) ∧ w 43 i = (if i = 0 then 0 else eP L i * 4 + eB L i)) ∧ HT (w 44) hsC (fun i => packC (eS L i)) (min L.length 3000)
def ML (w : zW) (n : Int) (L : BL) : Prop := w 67 28 = (L.length : Int) ∧
  (∀ i : Nat, i < L.length → w 81 i = packR n (eS L i) ∧ w 82 i = eP L i ∧ w 83 i = eB L i ∧ w 84 i = eD L i) ∧ HT (w 85) hsR (fun i => packR n (eS L i)) L.length
def FA (w w' : zW) : Prop := ∀ a i, a ≠ 42 → a ≠ 43 → a ≠ 44 → (a ≠ 41 ∨ i ≠ 8 ∧ i ≠ 9) → w' a i = w a i
def FB (w w' : zW) : Prop := ∀ a i, a ≠ 81 → a ≠ 82 → a ≠ 83 → a ≠ 84 → a ≠ 85 → (a ≠ 67 ∨ i ≠ 28) → w' a i = w a i
theorem getD_lt {L : BL} {e : Ent} {i : Nat} (h : i < L.length) : (L ++ [e]).getD i e00 = L.getD i e00 := by
  rw [List.getD_eq_getElem?_getD, List.getD_eq_getElem?_getD, List.getElem?_append_left h]
theorem getD_at (L : BL) (e : Ent) : (L ++ [e]).getD L.length e00 = e := by
  rw [List.getD_eq_getElem?_getD, List.getElem?_append_right (by omega), Nat.sub_self]
  rfl
section B1
variable {d : Nat} {w : zW} {n c x : Int} {S : Sc} {P : Pg} {L : BL} {e : Ent}
theorem eS_lt {i : Nat} (h : i < L.length) : eS (L ++ [e]) i = eS L i := by unfold eS; rw [getD_lt h]
theorem eP_lt {i : Nat} (h : i < L.length) : eP (L ++ [e]) i = eP L i := by unfold eP; rw [getD_lt h]
theorem eB_lt {i : Nat} (h : i < L.length) : eB (L ++ [e]) i = eB L i := by unfold eB; rw [getD_lt h]
theorem eD_lt {i : Nat} (h : i < L.length) : eD (L ++ [e]) i = eD L i := by unfold eD; rw [getD_lt h]
theorem eS_at : eS (L ++ [e]) L.length = e.1 := by unfold eS; rw [getD_at]
theorem eP_at : eP (L ++ [e]) L.length = e.2.1 := by unfold eP; rw [getD_at]
theorem eB_at : eB (L ++ [e]) L.length = e.2.2.1 := by unfold eB; rw [getD_at]
theorem eD_at : eD (L ++ [e]) L.length = e.2.2.2 := by unfold eD; rw [getD_at]
/-- the one that comes may come -/
def EG (P : Pg) (L : BL) (e : Ent) : Prop := WS P e.1 ∧ (0 < L.length → 0 ≤ e.2.1 ∧ e.2.1 < L.length ∧ 0 ≤ e.2.2.1 ∧ e.2.2.1 < 4 ∧ e.2.2.2 = eD L e.2.1.toNat + 1) ∧ (L.length = 0 → e.2.1 = -9 ∧ e.2.2.1 = -9 ∧ e.2.2.2 = 0)
theorem LG.snoc (h : LG P L) (he : EG P L e) (hl : L.length ≤ 3000) : LG P (L ++ [e]) := by
  obtain ⟨a1, a2, a3, a4⟩ := h
  obtain ⟨b1, b2, b3⟩ := he
  refine ⟨by simp; omega, fun i hi => ?_, fun i h0 hi => ?_, fun _ => ?_⟩
  · by_cases c : i < L.length
    · rw [eS_lt c]; exact a2 i c
    · have : i = L.length := by simp at hi; omega
      subst this
      rw [eS_at]; exact b1
  · by_cases c : i < L.length
    · obtain ⟨c1, c2, c3⟩ := a3 i h0 c
      rw [eP_lt c, eB_lt c, eD_lt c, eD_lt (by omega)]
      exact ⟨c1, c2, c3⟩
    · have : i = L.length := by simp at hi; omega
      subst this
      obtain ⟨c1, c2, c3⟩ := b2 h0
      rw [eP_at, eB_at, eD_at, eD_lt (by omega)]
      exact ⟨c1, c2, c3⟩
  · by_cases c : 0 < L.length
    · rw [eP_lt c, eB_lt c, eD_lt c]; exact a4 c
    · have h0 : L.length = 0 := by omega
      have := b3 h0
      have e1 : eP (L ++ [e]) 0 = e.2.1 := by rw [← eP_at (L := L) (e := e), h0]
      have e2 : eB (L ++ [e]) 0 = e.2.2.1 := by rw [← eB_at (L := L) (e := e), h0]
      have e3 : eD (L ++ [e]) 0 = e.2.2.2 := by rw [← eD_at (L := L) (e := e), h0]
      rw [e1, e2, e3]
      exact this
theorem LG.come (h : LG P L) (he : EG P L e) : LG P (aCome L e) := by
  unfold aCome
  split
  · exact h
  · split
    · next hl => exact h.snoc he hl
    · exact h
theorem r_isSt1 (h0 : 0 ≤ x) (h1 : x < 3000) (h2 : x < w 41 9) : Cl d 50 [(2, 41), (0, x)] 92 w = some ((0, 1), 92, w) := by
  have zo41 := zo_41
  show Rn d 50 0 [(2, 41), (0, x)] [] 92 w = _
  simp (disch := first | assumption | omega | (simp only [zcat_0, zcat_i, zcat_l, zcat_r, zcat_t]; omega) | simp) only [e_X3_isState_0, e_X3_isState_1, e_X3_isState_4, e_X3_isState_5, e_X3_isState_8, e_X3_isState_11, e_X3_isState_12, e_X3_isState_13, e_X3_isState_16, e_X3_isState_19, e_X3_isState_20, e_X3_isState_23, e_X3_isState_24, zpush_i, zpush_l, zpush_v, Option.bind_some, ↓if_pos, ↓if_neg, Int.reduceAdd, w32_id]
theorem r_isSt0 (h0 : ¬ (0 ≤ x ∧ x < 3000 ∧ x < w 41 9)) : Cl d 50 [(2, 41), (0, x)] 92 w = some ((0, 0), 92, w) := by
  have zo41 := zo_41
  show Rn d 50 0 [(2, 41), (0, x)] [] 92 w = _
  by_cases c1 : 0 ≤ x
  · by_cases c2 : x < 3000
    · simp (disch := first | assumption | omega | (simp only [zcat_0, zcat_i, zcat_l, zcat_r, zcat_t]; omega) | simp) only [e_X3_isState_0, e_X3_isState_1, e_X3_isState_4, e_X3_isState_5, e_X3_isState_8, e_X3_isState_11, e_X3_isState_12, e_X3_isState_13, e_X3_isState_16, e_X3_isState_19, e_X3_isState_20, e_X3_isState_23, e_X3_isState_24, zpush_i, zpush_l, zpush_v, Option.bind_some, ↓if_pos, ↓if_neg, Int.reduceAdd, w32_id]
    · simp (disch := first | assumption | omega | (simp only [zcat_0, zcat_i, zcat_l, zcat_r, zcat_t]; omega) | simp) only [e_X3_isState_0, e_X3_isState_1, e_X3_isState_4, e_X3_isState_5, e_X3_isState_8, e_X3_isState_11, e_X3_isState_12, e_X3_isState_13, e_X3_isState_16, e_X3_isState_19, e_X3_isState_20, e_X3_isState_23, e_X3_isState_24, zpush_i, zpush_l, zpush_v, Option.bind_some, ↓if_pos, ↓if_neg, Int.reduceAdd, w32_id]
  · simp (disch := first | assumption | omega | (simp only [zcat_0, zcat_i, zcat_l, zcat_r, zcat_t]; omega) | simp) only [e_X3_isState_0, e_X3_isState_1, e_X3_isState_4, e_X3_isState_5, e_X3_isState_8, e_X3_isState_11, e_X3_isState_12, e_X3_isState_13, e_X3_isState_16, e_X3_isState_19, e_X3_isState_20, e_X3_isState_23, e_X3_isState_24, zpush_i, zpush_l, zpush_v, Option.bind_some, ↓if_pos, ↓if_neg, Int.reduceAdd, w32_id]
theorem r_app1 {q : Int} (hs : 0 ≤ w 41 9 ∧ w 41 9 < 3000) (hq : 0 ≤ q ∧ q < 8192) : Cl d 49 [(2, 41), (1, x), (0, c), (0, q)] 92 w = some ((9, 0), 92, zup (zup (zup (zup w 42 (w 41 9) x) 43 (w 41 9) c) 41 9 (w 41 9 + 1)) 44 q (w 41 9 + 1)) := by
  have zo41 := zo_41; have zo42 := zo_42; have zl42 := zl_42; have zo43 := zo_43; have zl43 := zl_43; have zo44 := zo_44; have zl44 := zl_44
  show Rn d 49 0 [(2, 41), (1, x), (9, 0), (0, c), (0, q)] [] 92 w = _
  simp (disch := first | assumption | omega | (simp only [zcat_0, zcat_i, zcat_l, zcat_r, zcat_t]; omega) | simp) only [e_X3_append_0, e_X3_append_1, e_X3_append_4, e_X3_append_7, e_X3_append_8, e_X3_append_11, e_X3_append_14, e_X3_append_17, e_X3_append_19, e_X3_append_22, e_X3_append_24, e_X3_append_27, e_X3_append_30, e_X3_append_31, e_X3_append_32, e_X3_append_35, e_X3_append_36, e_X3_append_37, e_X3_append_40, e_X3_append_41, e_X3_append_44, e_X3_append_45, e_X3_append_46, e_X3_append_47, e_X3_append_50, e_X3_append_51, e_X3_append_54, e_X3_append_55, e_X3_append_56, e_X3_append_57, e_X3_append_58, e_X3_append_61, e_X3_append_62, e_X3_append_63, e_X3_append_66, e_X3_append_67, e_X3_append_70, e_X3_append_72, e_X3_append_73, e_X3_append_76, e_X3_append_77, zpush_i, zpush_l, zpush_v, Option.bind_some, ↓if_pos, ↓if_neg, Int.reduceAdd, w32_id, zup_off, zup_self]
theorem r_app0 {q : Int} (hs : 3000 ≤ w 41 9) : Cl d 49 [(2, 41), (1, x), (0, c), (0, q)] 92 w = some ((9, 0), 92, zup w 41 8 1) := by
  have zo41 := zo_41; have zo42 := zo_42; have zl42 := zl_42; have zo43 := zo_43; have zl43 := zl_43; have zo44 := zo_44; have zl44 := zl_44
  show Rn d 49 0 [(2, 41), (1, x), (9, 0), (0, c), (0, q)] [] 92 w = _
  simp (disch := first | assumption | omega | (simp only [zcat_0, zcat_i, zcat_l, zcat_r, zcat_t]; omega) | simp) only [e_X3_append_0, e_X3_append_1, e_X3_append_4, e_X3_append_7, e_X3_append_8, e_X3_append_11, e_X3_append_14, e_X3_append_17, e_X3_append_19, e_X3_append_22, e_X3_append_24, e_X3_append_27, e_X3_append_30, e_X3_append_31, e_X3_append_32, e_X3_append_35, e_X3_append_36, e_X3_append_37, e_X3_append_40, e_X3_append_41, e_X3_append_44, e_X3_append_45, e_X3_append_46, e_X3_append_47, e_X3_append_50, e_X3_append_51, e_X3_append_54, e_X3_append_55, e_X3_append_56, e_X3_append_57, e_X3_append_58, e_X3_append_61, e_X3_append_62, e_X3_append_63, e_X3_append_66, e_X3_append_67, e_X3_append_70, e_X3_append_72, e_X3_append_73, e_X3_append_76, e_X3_append_77, zpush_i, zpush_l, zpush_v, Option.bind_some, ↓if_pos, ↓if_neg, Int.reduceAdd, w32_id]
theorem r_add_l (hC : CL w L) {h : Int} (hh : 0 ≤ h ∧ h < 8192) {n : Nat} (hn : n < 8192) (hb : ∀ i : Nat, i < n → w 44 ((h + i) % 8192) ≠ 0 ∧ packC (eS L (w 44 ((h + i) % 8192) - 1).toNat) ≠ x) : ∀ (m i : Nat) (v6 v7 : zV), v6.1 ≠ 1 → v7.1 ≠ 1 → i + m = n → ∃ v6' v7' : zV, v6'.1 ≠ 1 ∧ v7'.1 ≠ 1 ∧ Rn (d + 1) 48 14 [(2, 41), (1, x), (9, 0), (0, c), (0, h), (0, (i : Int)), v6, v7] [] 92 w = Rn (d + 1) 48 14 [(2, 41), (1, x), (9, 0), (0, c), (0, h), (0, (n : Int)), v6', v7'] [] 92 w := by
  have zo41 := zo_41; have zo42 := zo_42; have zl42 := zl_42; have zo44 := zo_44; have zl44 := zl_44
  intro m
  induction m with
  | zero =>
    intro i v6 v7 t6 t7 hi
    obtain rfl : i = n := by omega
    exact ⟨v6, v7, t6, t7, rfl⟩
  | succ m ih =>
    intro i v6 v7 t6 t7 hi
    obtain ⟨b1, b2⟩ := hb i (by omega)
    obtain ⟨c1, c2, c3, c4⟩ := hC
    have r := c4.1 ((h + i) % 8192) (by omega) (by omega)
    generalize hp : (h + i) % 8192 = p at *
    obtain ⟨s1, -⟩ := c3 (w 44 p - 1).toNat (by omega) (by omega)
    rw [show (((w 44 p - 1).toNat : Nat) : Int) = w 44 p - 1 by omega] at s1
    obtain ⟨x6, x7, y6, y7, hr⟩ := ih (i + 1) (0, p) (0, w 44 p - 1) (by simp) (by simp) (by omega)
    refine ⟨x6, x7, y6, y7, ?_⟩
    have hst := r_isSt1 (d := d) (w := w) (x := w 44 p - 1) (by omega) (by omega) (by omega)
    rw [← hr, e_X3_add_14, show ((i + 1 : Nat) : Int) = (i : Int) + 1 by omega]
    rcases Int.lt_trichotomy (packC (eS L (w 44 p - 1).toNat)) x with g | g | g
    · simp (disch := first | assumption | omega | (simp only [zcat_0, zcat_i, zcat_l, zcat_r, zcat_t]; omega) | simp) only [e_X3_add_16, e_X3_add_19, e_X3_add_22, e_X3_add_24, e_X3_add_26, e_X3_add_27, e_X3_add_30, e_X3_add_31, e_X3_add_33, e_X3_add_34, e_X3_add_37, e_X3_add_39, e_X3_add_40, e_X3_add_41, e_X3_add_42, e_X3_add_44, e_X3_add_45, e_X3_add_47, e_X3_add_50, e_X3_add_53, e_X3_add_54, e_X3_add_55, e_X3_add_56, e_X3_add_58, e_X3_add_61, e_X3_add_62, e_X3_add_63, e_X3_add_66, e_X3_add_68, e_X3_add_69, e_X3_add_70, e_X3_add_71, e_X3_add_74, e_X3_add_75, e_X3_add_78, zpush_i, zpush_l, zpush_v, Option.bind_some, ↓if_pos, ↓if_neg, Int.reduceAdd, w32_id, an8191, hp, hst, s1, z_cmp1]
    · exact absurd g b2
    · simp (disch := first | assumption | omega | (simp only [zcat_0, zcat_i, zcat_l, zcat_r, zcat_t]; omega) | simp) only [e_X3_add_16, e_X3_add_19, e_X3_add_22, e_X3_add_24, e_X3_add_26, e_X3_add_27, e_X3_add_30, e_X3_add_31, e_X3_add_33, e_X3_add_34, e_X3_add_37, e_X3_add_39, e_X3_add_40, e_X3_add_41, e_X3_add_42, e_X3_add_44, e_X3_add_45, e_X3_add_47, e_X3_add_50, e_X3_add_53, e_X3_add_54, e_X3_add_55, e_X3_add_56, e_X3_add_58, e_X3_add_61, e_X3_add_62, e_X3_add_63, e_X3_add_66, e_X3_add_68, e_X3_add_69, e_X3_add_70, e_X3_add_71, e_X3_add_74, e_X3_add_75, e_X3_add_78, zpush_i, zpush_l, zpush_v, Option.bind_some, ↓if_pos, ↓if_neg, Int.reduceAdd, w32_id, an8191, hp, hst, s1, z_cmp2]
end B1
