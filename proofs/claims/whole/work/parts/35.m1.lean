/-! THE REFERENCE'S SCENE, at place 72; lent ranks at 73 -/
def rE (r : List Int) (i : Nat) : Int := if i < r.length then r.getD i 0 + 1 else 0
def RS (w : zW) (n : Int) (S : Sc) : Prop :=
  (∀ i, 0 ≤ i → i < 13 → w 72 i = S.1 i) ∧
  (∀ t, 0 ≤ t → t < 4 → w 72 (13 + t) = (if t < n then S.1 (13 + t) else 0) ∧ w 72 (17 + t) = S.1 (17 + t)) ∧
  (∀ i : Nat, i < 4 → w 72 (21 + i) = rE S.2 i)
def PO (w : zW) (P : Pg) : Prop :=
  w 67 1 = P 0 6 ∧ (∀ p, 0 ≤ p → p < 3 → w 68 p = P 1 p) ∧
  ∀ t, 0 ≤ t → t < P 0 6 → w 69 t = P 2 t ∧ w 70 t = P 3 t ∧ ∀ i, 0 ≤ i → i < P 3 t → w 71 (3 * (5 * t + i)) = P 4 (5 * t + i) ∧
    (P 4 (5 * t + i) ≠ 120 → w 71 (3 * (5 * t + i) + 1) = P 5 (5 * t + i)) ∧
    (P 4 (5 * t + i) = 115 ∨ P 4 (5 * t + i) = 119 ∨ P 4 (5 * t + i) = 98 ∨ P 4 (5 * t + i) = 107 ∨ P 4 (5 * t + i) = 113 → w 71 (3 * (5 * t + i) + 2) = P 6 (5 * t + i))
/-- nothing has changed but the reference's scene, lent ranks and count -/
def FQ (w w' : zW) : Prop := ∀ a i, a ≠ 72 → a ≠ 73 → (a ≠ 67 ∨ i ≠ 6) → w' a i = w a i
theorem FQ.rf {w : zW} : FQ w w := fun _ _ _ _ _ => rfl
theorem FQ.tr {w w' w'' : zW} (h : FQ w w') (h' : FQ w' w'') : FQ w w'' := fun a i h1 h2 h3 => (h' a i h1 h2 h3).trans (h a i h1 h2 h3)
theorem FQ.up {w w' : zW} {i x : Int} (h : FQ w w') : FQ w (zup w' 72 i x) := fun a j h1 h2 h3 => (zup_off _ (Or.inl h1)).trans (h a j h1 h2 h3)
theorem FQ.up3 {w w' : zW} {i x : Int} (h : FQ w w') : FQ w (zup w' 73 i x) := fun a j h1 h2 h3 => (zup_off _ (Or.inl h2)).trans (h a j h1 h2 h3)
theorem FQ.up6 {w w' : zW} {x : Int} (h : FQ w w') : FQ w (zup w' 67 6 x) := fun a j h1 h2 h3 => (zup_off _ h3).trans (h a j h1 h2 h3)
theorem PO.fq {w w' : zW} {P : Pg} (h : PO w P) (hF : FQ w w') : PO w' P := by
  refine ⟨?_, fun p h0 h3 => ?_, fun t h0 hn => ?_⟩
  · rw [hF 67 1 (by omega) (by omega) (by omega)]; exact h.1
  · rw [hF 68 p (by omega) (by omega) (by omega)]; exact h.2.1 p h0 h3
  · obtain ⟨a1, a2, a3⟩ := h.2.2 t h0 hn
    refine ⟨?_, ?_, fun i i0 i1 => ?_⟩
    · rw [hF 69 t (by omega) (by omega) (by omega)]; exact a1
    · rw [hF 70 t (by omega) (by omega) (by omega)]; exact a2
    · rw [hF 71 _ (by omega) (by omega) (by omega), hF 71 _ (by omega) (by omega) (by omega), hF 71 _ (by omega) (by omega) (by omega)]
      exact a3 i i0 i1
theorem RS.congr {w : zW} {n : Int} {S S' : Sc} (h : RS w n S) (e1 : ∀ i, 0 ≤ i → i < 21 → S'.1 i = S.1 i) (e2 : S'.2 = S.2) : RS w n S' := by
  obtain ⟨a1, a2, a3⟩ := h
  refine ⟨fun i h0 h1 => ?_, fun t h0 h4 => ?_, ?_⟩
  · rw [e1 i h0 (by omega)]; exact a1 i h0 h1
  · rw [e1 (13 + t) (by omega) (by omega), e1 (17 + t) (by omega) (by omega)]; exact a2 t h0 h4
  · rw [e2]; exact a3
section M1
variable {d : Nat} {w : zW} {t p q n : Int} {S : Sc} {P : Pg}
theorem mc_goOn (h0 : 0 ≤ t) (h4 : t < 4) (hb : 0 ≤ w 72 (9 + t) ∧ w 72 (9 + t) < 1000) : Cl d 101 [(2, 67), (0, t)] 92 w = some ((9, 0), 92, zup (zup (zup w 72 (9 + t) (w 72 (9 + t) + 1)) 72 (17 + t) 0) 72 (13 + t) (if w 72 (9 + t) + 1 = w 70 t then 7 else 0)) := by
  show Rn d 101 0 [(2, 67), (0, t)] [] 92 w = _
  have zo67 := zo_67; have zo70 := zo_70; have zl70 := zl_70; have zo72 := zo_72; have zl72 := zl_72
  by_cases e : w 72 (9 + t) + 1 = w 70 t
  · simp (disch := first | assumption | omega | (simp only [zcat_0, zcat_i, zcat_l, zcat_r, zcat_t]; omega) | simp) only [e_X8_goOn_0, e_X8_goOn_1, e_X8_goOn_4, e_X8_goOn_6, e_X8_goOn_7, e_X8_goOn_8, e_X8_goOn_9, e_X8_goOn_10, e_X8_goOn_11, e_X8_goOn_12, e_X8_goOn_13, e_X8_goOn_14, e_X8_goOn_17, e_X8_goOn_19, e_X8_goOn_20, e_X8_goOn_21, e_X8_goOn_22, e_X8_goOn_23, e_X8_goOn_24, e_X8_goOn_27, e_X8_goOn_29, e_X8_goOn_30, e_X8_goOn_31, e_X8_goOn_32, e_X8_goOn_35, e_X8_goOn_37, e_X8_goOn_38, e_X8_goOn_39, e_X8_goOn_40, e_X8_goOn_41, e_X8_goOn_44, e_X8_goOn_45, e_X8_goOn_46, e_X8_goOn_49, e_X8_goOn_51, e_X8_goOn_54, e_X8_goOn_55, e_X8_goOn_56, zpush_i, zpush_l, zpush_v, Option.bind_some, ↓if_pos, ↓if_neg, Int.reduceAdd, w32_id, zup_off, zup_self]
  · simp (disch := first | assumption | omega | (simp only [zcat_0, zcat_i, zcat_l, zcat_r, zcat_t]; omega) | simp) only [e_X8_goOn_0, e_X8_goOn_1, e_X8_goOn_4, e_X8_goOn_6, e_X8_goOn_7, e_X8_goOn_8, e_X8_goOn_9, e_X8_goOn_10, e_X8_goOn_11, e_X8_goOn_12, e_X8_goOn_13, e_X8_goOn_14, e_X8_goOn_17, e_X8_goOn_19, e_X8_goOn_20, e_X8_goOn_21, e_X8_goOn_22, e_X8_goOn_23, e_X8_goOn_24, e_X8_goOn_27, e_X8_goOn_29, e_X8_goOn_30, e_X8_goOn_31, e_X8_goOn_32, e_X8_goOn_35, e_X8_goOn_37, e_X8_goOn_38, e_X8_goOn_39, e_X8_goOn_40, e_X8_goOn_41, e_X8_goOn_44, e_X8_goOn_45, e_X8_goOn_46, e_X8_goOn_49, e_X8_goOn_51, e_X8_goOn_54, e_X8_goOn_55, e_X8_goOn_56, zpush_i, zpush_l, zpush_v, Option.bind_some, ↓if_pos, ↓if_neg, Int.reduceAdd, w32_id, zup_off, zup_self]
theorem m_goOn (hn : 0 ≤ t ∧ t < P 0 6) (hP : WP P) (hR : RS w (P 0 6) S) (hO : PO w P) (hb : 0 ≤ S.1 (9 + t) ∧ S.1 (9 + t) < P 3 t) : ∃ w', Cl d 101 [(2, 67), (0, t)] 92 w = some ((9, 0), 92, w') ∧ RS w' (P 0 6) (sGo P t S) ∧ FQ w w' ∧ w' 67 6 = w 67 6 := by
  have hP4 := hP.2.1
  obtain ⟨h0, hn⟩ := hn
  have h4 : t < 4 := by omega
  obtain ⟨-, -, -, g4, -⟩ := hP.2.2.2.1 t h0 h4
  obtain ⟨a1, a2, a3⟩ := hR
  have e9 := a1 (9 + t) (by omega) (by omega)
  have e70 := (hO.2.2 t h0 hn).2.1
  have hc := mc_goOn (d := d) (w := w) h0 h4 (by omega)
  refine ⟨_, hc, ?_, FQ.rf.up.up.up, by simp (disch := omega) only [zup_off]⟩
  rw [e9, e70]
  have eh : (if S.1 (9 + t) + 1 = P 3 t then (7 : Int) else 0) = if S.1 (9 + t) + 1 < P 3 t then 0 else 7 := by
    by_cases e : S.1 (9 + t) + 1 = P 3 t
    · rw [if_pos e, if_neg (by omega)]
    · rw [if_neg e, if_pos (by omega)]
  rw [eh]
  unfold sGo
  refine ⟨fun i i0 i1 => ?_, fun u u0 u4 => ?_, fun i hi => ?_⟩
  · have := a1 i i0 i1
    by_cases e : i = 9 + t
    · subst e
      simp (disch := omega) only [zup_off, zup_self, su_ne, su_self]
    · simp (disch := omega) only [zup_off, su_ne, this]
  · obtain ⟨c1, c2⟩ := a2 u u0 u4
    by_cases e : u = t
    · subst e
      simp (disch := omega) only [zup_off, zup_self, su_ne, su_self, if_pos hn]
      exact ⟨trivial, trivial⟩
    · simp (disch := omega) only [zup_off, su_ne, c1, c2, and_self]
  · have := a3 i hi
    simp (disch := omega) only [zup_off, this]
theorem rE_pos {r : List Int} {i : Nat} (h : i < r.length) : rE r i = r.getD i 0 + 1 := if_pos h
theorem rE_no {r : List Int} {i : Nat} (h : r.length ≤ i) : rE r i = 0 := if_neg (by omega)
theorem m_come_l (hR : RS w n S) (hr : S.2.length < 4) (hp : ∀ u, u ∈ S.2 → 0 ≤ u) {w' : zW} (hw : ∀ i : Nat, i < 4 → w' 72 (21 + i) = w 72 (21 + i)) {h : Int} : ∀ (m i : Nat), i + m = S.2.length → Rn d 102 12 [(2, 67), (0, t), (0, h), (0, (i : Int))] [] 92 w' = Rn d 102 30 [(2, 67), (0, t), (0, h), (0, (S.2.length : Int))] [] 92 w' := by
  have zo67 := zo_67; have zo72 := zo_72; have zl72 := zl_72
  intro m
  induction m with
  | zero =>
    intro i hi
    have e := hR.2.2 i (by omega)
    rw [← hw i (by omega), rE_no (by omega)] at e
    rw [show S.2.length = i by omega]
    simp (disch := first | assumption | omega | (simp only [zcat_0, zcat_i, zcat_l, zcat_r, zcat_t]; omega) | simp) only [e_X8_comeToRow_12, e_X8_comeToRow_13, e_X8_comeToRow_16, e_X8_comeToRow_18, e_X8_comeToRow_19, e_X8_comeToRow_20, e_X8_comeToRow_21, zpush_i, zpush_l, zpush_v, Option.bind_some, ↓if_pos, ↓if_neg, Int.reduceAdd, w32_id, e]
  | succ m ih =>
    intro i hi
    have e := hR.2.2 i (by omega)
    rw [← hw i (by omega), rE_pos (by omega)] at e
    have := hp _ (getD_mem (l := S.2) (i := i) (by omega))
    rw [← ih (i + 1) (by omega), e_X8_comeToRow_12 (by omega), show ((i + 1 : Nat) : Int) = (i : Int) + 1 by omega]
    simp (disch := first | assumption | omega | (simp only [zcat_0, zcat_i, zcat_l, zcat_r, zcat_t]; omega) | simp) only [e_X8_comeToRow_13, e_X8_comeToRow_16, e_X8_comeToRow_18, e_X8_comeToRow_19, e_X8_comeToRow_20, e_X8_comeToRow_21, e_X8_comeToRow_24, e_X8_comeToRow_27, zpush_i, zpush_l, zpush_v, Option.bind_some, ↓if_pos, ↓if_neg, Int.reduceAdd, w32_id, e]
theorem m_come (hn : 0 ≤ t ∧ t < n) (h4 : n ≤ 4) (hR : RS w n S) (hr : S.2.length < 4) (hp : ∀ u, u ∈ S.2 → 0 ≤ u) {h : Int} : ∃ w', Cl d 102 [(2, 67), (0, t), (0, h)] 92 w = some ((9, 0), 92, w') ∧ RS w' n (su S.1 (13 + t) h, S.2 ++ [t]) ∧ FQ w w' ∧ w' 67 6 = w 67 6 := by
  have zo67 := zo_67; have zo72 := zo_72; have zl72 := zl_72
  have hl := m_come_l (d := d) (t := t) (h := h) (w' := zup w 72 (13 + t) h) hR hr hp (fun i hi => zup_off _ (Or.inr (by omega))) S.2.length 0 (by omega)
  have hl' : Rn d 102 12 [(2, 67), (0, t), (0, h), (0, 0)] [] 92 (zup w 72 (13 + t) h) = _ := hl
  refine ⟨zup (zup w 72 (13 + t) h) 72 (21 + S.2.length) (t + 1), ?_, ?_, FQ.rf.up.up, by simp (disch := omega) only [zup_off]⟩
  · show Rn d 102 0 [(2, 67), (0, t), (0, h), (9, 0)] [] 92 w = _
    simp (disch := first | assumption | omega | (simp only [zcat_0, zcat_i, zcat_l, zcat_r, zcat_t]; omega) | simp) only [e_X8_comeToRow_0, e_X8_comeToRow_1, e_X8_comeToRow_4, e_X8_comeToRow_6, e_X8_comeToRow_7, e_X8_comeToRow_8, e_X8_comeToRow_9, e_X8_comeToRow_10, e_X8_comeToRow_11, zpush_i, zpush_l, zpush_v, Option.bind_some, ↓if_pos, ↓if_neg, Int.reduceAdd, w32_id, hl']
    simp (disch := first | assumption | omega | (simp only [zcat_0, zcat_i, zcat_l, zcat_r, zcat_t]; omega) | simp) only [e_X8_comeToRow_30, e_X8_comeToRow_31, e_X8_comeToRow_34, e_X8_comeToRow_36, e_X8_comeToRow_37, e_X8_comeToRow_38, e_X8_comeToRow_39, e_X8_comeToRow_40, e_X8_comeToRow_41, e_X8_comeToRow_42, zpush_i, zpush_l, zpush_v, Option.bind_some, ↓if_pos, ↓if_neg, Int.reduceAdd, w32_id]
  · obtain ⟨a1, a2, a3⟩ := hR
    refine ⟨fun i i0 i1 => ?_, fun u u0 u4 => ?_, fun i hi => ?_⟩
    · have := a1 i i0 i1
      simp (disch := omega) only [zup_off, su_ne, this]
    · obtain ⟨c1, c2⟩ := a2 u u0 u4
      by_cases e : u = t
      · subst e
        simp (disch := omega) only [zup_off, zup_self, su_ne, su_self, if_pos hn.2, c2, and_self]
      · simp (disch := omega) only [zup_off, su_ne, c1, c2, and_self]
    · have := a3 i hi
      by_cases e : i = S.2.length
      · subst e
        rw [zup_self]
        show _ = rE (S.2 ++ [t]) S.2.length
        rw [rE_pos (by simp), getD_as]
      · rw [zup_off _ (Or.inr (by omega)), zup_off _ (Or.inr (by omega)), this]
        show _ = rE (S.2 ++ [t]) i
        by_cases e2 : i < S.2.length
        · rw [rE_pos e2, rE_pos (by simp; omega), getD_al e2]
        · rw [rE_no (by omega), rE_no (by simp; omega)]
end M1
