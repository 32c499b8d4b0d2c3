section T10
variable {d : Nat} {w : zW} {L : Tk} {n : Nat} {D : Pg} {T : List Int} {lo hi : Int}
/-- the reference's draft -/
def PN (w : zW) (P : Pg) : Prop :=
  w 67 15 = P 0 6 ∧ (∀ p, 0 ≤ p → p < 3 → w 75 p = P 1 p) ∧
  ∀ t, 0 ≤ t → t < P 0 6 → w 76 t = P 2 t ∧ w 77 t = P 3 t ∧ ∀ i, 0 ≤ i → i < P 3 t → w 78 (3 * (5 * t + i)) = P 4 (5 * t + i) ∧
    (P 4 (5 * t + i) ≠ 120 → w 78 (3 * (5 * t + i) + 1) = P 5 (5 * t + i)) ∧
    (is5 (P 4 (5 * t + i)) → w 78 (3 * (5 * t + i) + 2) = P 6 (5 * t + i))
def FM (w w' : zW) : Prop := ∀ a i, (a ≠ 67 ∨ i < 10 ∨ 15 < i) → (a < 75 ∨ 78 < a) → w' a i = w a i
def FL (w w' : zW) : Prop := ∀ a i, (a ≠ 67 ∨ i < 10 ∨ 14 < i) → w' a i = w a i
theorem FM.rf : FM w w := fun _ _ _ _ => rfl
theorem FM.tr {w' w'' : zW} (h : FM w w') (h' : FM w' w'') : FM w w'' := fun a i h1 h2 => (h' a i h1 h2).trans (h a i h1 h2)
theorem FL.tr {w' w'' : zW} (h : FL w w') (h' : FL w' w'') : FL w w'' := fun a i h1 => (h' a i h1).trans (h a i h1)
theorem FN.fl {w' : zW} (h : FN w w') : FL w w' := fun a i h1 => h a i (by omega)
theorem FL.fm {w' : zW} (h : FL w w') : FM w w' := fun a i h1 _ => h a i (by omega)
theorem FL.up {x : Int} : FL w (zup w 67 14 x) := fun a i h1 => by rw [zup_off _ (by omega)]
theorem MX0.fm {w' : zW} (h : MX0 w T) (hF : FM w w') : MX0 w' T := ⟨by rw [hF 67 9 (by omega) (by omega)]; exact h.1, fun i hi => by rw [hF 74 i (by omega) (by omega)]; exact h.2 i hi⟩
theorem MX0.fl {w' : zW} (h : MX0 w T) (hF : FL w w') : MX0 w' T := h.fm hF.fm
theorem PN.fl {w' : zW} (h : PN w D) (hF : FL w w') : PN w' D := by
  have e : ∀ a, a ≠ 67 → w' a = w a := fun a ha => by funext i; exact hF a i (by omega)
  unfold PN
  rw [hF 67 15 (by omega), e 75 (by omega), e 76 (by omega), e 77 (by omega), e 78 (by omega)]
  exact h
theorem MH.mb (h : MH w T L) (hL : hk L ≠ -1) : MB w T L.tail := by
  obtain ⟨p, h1, h2, h3, _⟩ := h
  exact ⟨p, h1, h2, h3 hL⟩
theorem MB.at {w' : zW} (h : MB w T L) (e : w' 67 10 = w 67 10) : MB w' T L := by
  unfold MB
  rw [e]
  exact h
theorem MH.at {w' : zW} (h : MH w T L) (e : ∀ i, 10 ≤ i → i ≤ 13 → w' 67 i = w 67 i) : MH w' T L := by
  unfold MH
  rw [e 10 (by omega) (by omega), e 11 (by omega) (by omega), e 12 (by omega) (by omega), e 13 (by omega) (by omega)]
  exact h
theorem m_faults : Cl d 115 [(2, 67)] 92 w = some ((0, 0), 92, zup w 67 14 (w 67 11)) := by
  have zo67 := zo_67
  show Rn d 115 0 [(2, 67)] [] 92 w = _
  simp (disch := first | assumption | omega | (simp only [zcat_0, zcat_i, zcat_l, zcat_r, zcat_t]; omega) | simp) only [e_X8_faults_0, e_X8_faults_1, e_X8_faults_2, e_X8_faults_5, e_X8_faults_8, e_X8_faults_9, zpush_i, zpush_l, zpush_v, Option.bind_some, ↓if_pos, ↓if_neg, Int.reduceAdd, w32_id]
theorem m_number (h0 : 0 ≤ lo) (h9 : hi ≤ 9) (hl : T.length ≤ 120) (hx : ∀ x, x ∈ T → 0 ≤ x ∧ x ≤ 255) (hX : MX0 w T) (hB : MB w T L) : ∃ w', Cl (d + 2) 116 [(2, 67), (0, lo), (0, hi)] 92 w = some ((0, if lo ≤ hk L ∧ hk L ≤ hi then 1 else 0), 92, w') ∧ MH w' T L ∧ (¬ (lo ≤ hk L ∧ hk L ≤ hi) → w' 67 14 = hs L) ∧ (lo ≤ hk L ∧ hk L ≤ hi → w' 67 13 = hk L) ∧ FL w w' := by
  have zo67 := zo_67
  obtain ⟨w1, q1, q2, q3⟩ := m_next (d := d) hl hx hX hB
  obtain ⟨p, h1, h2, h3, h4, h5⟩ := id q2
  have hin : Cl (d + 1) 95 [(1, w1 67 13), (1, lo), (1, hi)] 92 w1 = some ((0, if lo ≤ w1 67 13 ∧ w1 67 13 ≤ hi then 1 else 0), 92, w1) := m_in
  have hf := m_faults (d := d + 1) (w := w1)
  have hz := h5.2.2.1 lo hi h0 h9
  by_cases c : lo ≤ hk L ∧ hk L ≤ hi
  · rw [if_pos c]
    have hz' := hz.mpr c
    rw [if_pos hz'.2] at hin
    have e12 := hz'.1
    refine ⟨w1, ?_, q2, fun z => absurd c z, fun _ => h5.2.2.2 (by omega), q3.fl⟩
    show Rn (d + 2) 116 0 [(2, 67), (0, lo), (0, hi)] [] 92 w = _
    simp (disch := first | assumption | omega | (simp only [zcat_0, zcat_i, zcat_l, zcat_r, zcat_t]; omega) | simp) only [e_X8_takesNumber_0, e_X8_takesNumber_1, e_X8_takesNumber_4, e_X8_takesNumber_5, e_X8_takesNumber_8, e_X8_takesNumber_10, e_X8_takesNumber_13, e_X8_takesNumber_14, e_X8_takesNumber_17, e_X8_takesNumber_18, e_X8_takesNumber_19, e_X8_takesNumber_20, e_X8_takesNumber_21, e_X8_takesNumber_22, e_X8_takesNumber_25, e_X8_takesNumber_28, e_X8_takesNumber_29, e_X8_takesNumber_32, e_X8_takesNumber_35, e_X8_takesNumber_36, e_X8_takesNumber_39, e_X8_takesNumber_40, zpush_i, zpush_l, zpush_v, Option.bind_some, ↓if_pos, ↓if_neg, Int.reduceAdd, w32_id, q1, e12, hin]
  · rw [if_neg c]
    refine ⟨zup w1 67 14 (w1 67 11), ?_, q2.at (fun i i0 i1 => zup_off _ (by omega)), fun _ => by rw [zup_self, h4], fun z => absurd z c, q3.fl.tr .up⟩
    show Rn (d + 2) 116 0 [(2, 67), (0, lo), (0, hi)] [] 92 w = _
    by_cases c1 : w1 67 12 = 48
    · rw [if_neg (fun z => c (hz.mp ⟨c1, z⟩))] at hin
      simp (disch := first | assumption | omega | (simp only [zcat_0, zcat_i, zcat_l, zcat_r, zcat_t]; omega) | simp) only [e_X8_takesNumber_0, e_X8_takesNumber_1, e_X8_takesNumber_4, e_X8_takesNumber_5, e_X8_takesNumber_8, e_X8_takesNumber_10, e_X8_takesNumber_13, e_X8_takesNumber_14, e_X8_takesNumber_17, e_X8_takesNumber_18, e_X8_takesNumber_19, e_X8_takesNumber_20, e_X8_takesNumber_21, e_X8_takesNumber_22, e_X8_takesNumber_25, e_X8_takesNumber_28, e_X8_takesNumber_29, e_X8_takesNumber_32, e_X8_takesNumber_35, e_X8_takesNumber_36, e_X8_takesNumber_39, e_X8_takesNumber_40, zpush_i, zpush_l, zpush_v, Option.bind_some, ↓if_pos, ↓if_neg, Int.reduceAdd, w32_id, q1, c1, hin, hf]
    · simp (disch := first | assumption | omega | (simp only [zcat_0, zcat_i, zcat_l, zcat_r, zcat_t]; omega) | simp) only [e_X8_takesNumber_0, e_X8_takesNumber_1, e_X8_takesNumber_4, e_X8_takesNumber_5, e_X8_takesNumber_8, e_X8_takesNumber_10, e_X8_takesNumber_13, e_X8_takesNumber_14, e_X8_takesNumber_17, e_X8_takesNumber_18, e_X8_takesNumber_19, e_X8_takesNumber_20, e_X8_takesNumber_21, e_X8_takesNumber_22, e_X8_takesNumber_25, e_X8_takesNumber_28, e_X8_takesNumber_29, e_X8_takesNumber_32, e_X8_takesNumber_35, e_X8_takesNumber_36, e_X8_takesNumber_39, e_X8_takesNumber_40, zpush_i, zpush_l, zpush_v, Option.bind_some, ↓if_pos, ↓if_neg, Int.reduceAdd, w32_id, q1, hf]
theorem m_takesEnd (hl : T.length ≤ 120) (hx : ∀ x, x ∈ T → 0 ≤ x ∧ x ≤ 255) (hX : MX0 w T) (hB : MB w T L) : ∃ w', Cl (d + 2) 117 [(2, 67)] 92 w = some ((0, (aEnd D L).1), 92, w') ∧ ((aEnd D L).1 = 1 → MB w' T (aEnd D L).2.1) ∧ ((aEnd D L).1 = 0 → w' 67 14 = hs (aEnd D L).2.1) ∧ FL w w' := by
  have zo67 := zo_67
  obtain ⟨w1, q1, q2, q3⟩ := m_next (d := d) hl hx hX hB
  obtain ⟨p, h1, h2, h3, h4, h5⟩ := id q2
  have hf := m_faults (d := d + 1) (w := w1)
  have hz := h5.2.1 59 (by omega)
  unfold aEnd
  by_cases c : hk L = 59
  · rw [if_pos c]
    have e12 := hz.mpr c
    refine ⟨w1, ?_, fun _ => q2.mb (by omega), fun z => absurd (show (1 : Int) = 0 from z) (by decide), q3.fl⟩
    show Rn (d + 2) 117 0 [(2, 67)] [] 92 w = _
    simp (disch := first | assumption | omega | (simp only [zcat_0, zcat_i, zcat_l, zcat_r, zcat_t]; omega) | simp) only [e_X8_takesEnd_0, e_X8_takesEnd_1, e_X8_takesEnd_4, e_X8_takesEnd_5, e_X8_takesEnd_8, e_X8_takesEnd_10, e_X8_takesEnd_13, e_X8_takesEnd_14, e_X8_takesEnd_17, e_X8_takesEnd_20, e_X8_takesEnd_21, e_X8_takesEnd_24, e_X8_takesEnd_25, zpush_i, zpush_l, zpush_v, Option.bind_some, ↓if_pos, ↓if_neg, Int.reduceAdd, w32_id, q1, e12]
  · rw [if_neg c]
    have e12 : w1 67 12 ≠ 59 := fun z => c (hz.mp z)
    refine ⟨zup w1 67 14 (w1 67 11), ?_, fun z => absurd (show (0 : Int) = 1 from z) (by decide), fun _ => by rw [zup_self, h4], q3.fl.tr .up⟩
    show Rn (d + 2) 117 0 [(2, 67)] [] 92 w = _
    simp (disch := first | assumption | omega | (simp only [zcat_0, zcat_i, zcat_l, zcat_r, zcat_t]; omega) | simp) only [e_X8_takesEnd_0, e_X8_takesEnd_1, e_X8_takesEnd_4, e_X8_takesEnd_5, e_X8_takesEnd_8, e_X8_takesEnd_10, e_X8_takesEnd_13, e_X8_takesEnd_14, e_X8_takesEnd_17, e_X8_takesEnd_20, e_X8_takesEnd_21, e_X8_takesEnd_24, e_X8_takesEnd_25, zpush_i, zpush_l, zpush_v, Option.bind_some, ↓if_pos, ↓if_neg, Int.reduceAdd, w32_id, q1, hf]
theorem m_isOp {c : Int} : Cl d 118 [(0, c)] 92 w = some ((0, if is9 c then 1 else 0), 92, w) := by
  show Rn d 118 0 [(0, c)] [] 92 w = _
  by_cases h : is9 c
  · rw [if_pos h]
    rcases h with rfl | rfl | rfl | rfl | rfl | rfl | rfl | rfl | rfl <;> simp (disch := first | assumption | omega | (simp only [zcat_0, zcat_i, zcat_l, zcat_r, zcat_t]; omega) | simp) only [e_X8_isOp_0, e_X8_isOp_1, e_X8_isOp_3, e_X8_isOp_6, e_X8_isOp_7, e_X8_isOp_9, e_X8_isOp_12, e_X8_isOp_13, e_X8_isOp_15, e_X8_isOp_18, e_X8_isOp_19, e_X8_isOp_21, e_X8_isOp_24, e_X8_isOp_25, e_X8_isOp_27, e_X8_isOp_30, e_X8_isOp_31, e_X8_isOp_33, e_X8_isOp_36, e_X8_isOp_37, e_X8_isOp_39, e_X8_isOp_42, e_X8_isOp_43, e_X8_isOp_45, e_X8_isOp_48, e_X8_isOp_49, e_X8_isOp_51, e_X8_isOp_54, e_X8_isOp_55, e_X8_isOp_58, e_X8_isOp_59, zpush_i, zpush_l, zpush_v, Option.bind_some, ↓if_pos, ↓if_neg, Int.reduceAdd, w32_id]
  · rw [if_neg h]
    simp (disch := first | assumption | omega | (simp only [zcat_0, zcat_i, zcat_l, zcat_r, zcat_t]; omega) | simp) only [e_X8_isOp_0, e_X8_isOp_1, e_X8_isOp_3, e_X8_isOp_6, e_X8_isOp_7, e_X8_isOp_9, e_X8_isOp_12, e_X8_isOp_13, e_X8_isOp_15, e_X8_isOp_18, e_X8_isOp_19, e_X8_isOp_21, e_X8_isOp_24, e_X8_isOp_25, e_X8_isOp_27, e_X8_isOp_30, e_X8_isOp_31, e_X8_isOp_33, e_X8_isOp_36, e_X8_isOp_37, e_X8_isOp_39, e_X8_isOp_42, e_X8_isOp_43, e_X8_isOp_45, e_X8_isOp_48, e_X8_isOp_49, e_X8_isOp_51, e_X8_isOp_54, e_X8_isOp_55, e_X8_isOp_58, e_X8_isOp_59, zpush_i, zpush_l, zpush_v, Option.bind_some, ↓if_pos, ↓if_neg, Int.reduceAdd, w32_id]
theorem TKr.nine {t x k : Int} (h : TKr t x k) : is9 t ↔ is9 k := by
  have z := fun c hc => h.2.1 c hc
  have z1 := z 115 (by omega)
  have z2 := z 105 (by omega)
  have z3 := z 119 (by omega)
  have z4 := z 98 (by omega)
  have z5 := z 107 (by omega)
  have z6 := z 113 (by omega)
  have z7 := z 108 (by omega)
  have z8 := z 117 (by omega)
  have z9 := z 120 (by omega)
  unfold is9
  rw [z1, z2, z3, z4, z5, z6, z7, z8, z9]
theorem TKr.ini {t x k : Int} (h : TKr t x k) (hk : is13 k) : t = k := (h.2.1 k hk).mpr rfl
theorem PN.addO {w' : zW} {c p s t l k : Int} (h : PN w D) (hD : WD D) (h1 : 1 ≤ D 0 6) (et : D 0 6 - 1 = t) (el : D 3 t = l) (ek : 5 * t + l = k) (hl : l < 5) (e78 : ∀ x, (x < 3 * k ∨ 3 * k + 2 < x) → w' 78 x = w 78 x) (e77 : ∀ u, u ≠ t → w' 77 u = w 77 u) (e77' : w' 77 t = l + 1) (ec : w' 78 (3 * k) = c) (ep : c ≠ 120 → w' 78 (3 * k + 1) = p) (es : is5 c → w' 78 (3 * k + 2) = s) (e75 : w' 75 = w 75) (e76 : w' 76 = w 76) (e15 : w' 67 15 = w 67 15) : PN w' (addO D c p s) := by
  obtain ⟨a1, a2, a3⟩ := h
  have hh := hD.1.2.2.2.1 t (by omega) (by have := hD.1.2.1; omega)
  unfold PN
  rw [addO_0]
  unfold CWaitPlacesLaw_law_r6832_cec36e.addO
  rw [et, el, ek]
  obtain ⟨E, eE⟩ : ∃ E, zup (zup (zup (zup D 4 k c) 5 k p) 6 k s) 3 t (l + 1) = E := ⟨_, rfl⟩
  rw [eE]
  have f1 : E 1 = D 1 := by rw [← eE, zup_ne (by omega), zup_ne (by omega), zup_ne (by omega), zup_ne (by omega)]
  have f2 : E 2 = D 2 := by rw [← eE, zup_ne (by omega), zup_ne (by omega), zup_ne (by omega), zup_ne (by omega)]
  have f3 : ∀ u, u ≠ t → E 3 u = D 3 u := fun u hu => by rw [← eE, zup_off _ (Or.inr hu), zup_ne (by omega), zup_ne (by omega), zup_ne (by omega)]
  have f3' : E 3 t = l + 1 := by rw [← eE, zup_self]
  have f4 : ∀ u, u ≠ k → E 4 u = D 4 u := fun u hu => by rw [← eE, zup_ne (by omega), zup_ne (by omega), zup_ne (by omega), zup_off _ (Or.inr hu)]
  have f4' : E 4 k = c := by rw [← eE, zup_ne (by omega), zup_ne (by omega), zup_ne (by omega), zup_self]
  have f5 : ∀ u, u ≠ k → E 5 u = D 5 u := fun u hu => by rw [← eE, zup_ne (by omega), zup_ne (by omega), zup_off _ (Or.inr hu), zup_ne (by omega)]
  have f5' : E 5 k = p := by rw [← eE, zup_ne (by omega), zup_ne (by omega), zup_self]
  have f6 : ∀ u, u ≠ k → E 6 u = D 6 u := fun u hu => by rw [← eE, zup_ne (by omega), zup_off _ (Or.inr hu), zup_ne (by omega), zup_ne (by omega)]
  have f6' : E 6 k = s := by rw [← eE, zup_ne (by omega), zup_self]
  clear eE
  rw [f1, f2, e75, e76, e15]
  refine ⟨a1, a2, fun u u0 u4 => ?_⟩
  obtain ⟨b1, b2, b3⟩ := a3 u u0 u4
  refine ⟨b1, ?_, fun i i0 il => ?_⟩
  · by_cases cu : u = t
    · subst cu
      rw [e77', f3']
    · rw [e77 u cu, f3 u cu, b2]
  · by_cases cu : 5 * u + i = k
    · rw [cu, f4', f5', f6', ec]
      exact ⟨rfl, ep, es⟩
    · rw [f4 _ cu, f5 _ cu, f6 _ cu]
      have q := b3 i i0 (by
        by_cases cv : u = t
        · subst cv
          rw [f3'] at il
          omega
        · rw [f3 u cv] at il
          exact il)
      rw [e78 _ (by omega), e78 _ (by omega), e78 _ (by omega)]
      exact q
end T10
