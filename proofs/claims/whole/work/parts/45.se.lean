/-! the two words tell the same scenes apart -/
def SE (S S' : Sc) : Prop := (∀ i, 0 ≤ i → i < 21 → S'.1 i = S.1 i) ∧ S'.2 = S.2
section K5
variable {d : Nat} {w : zW} {k n : Int} {S S' S'' : Sc} {P : Pg}
theorem SE.rf : SE S S := ⟨fun _ _ _ => rfl, rfl⟩
theorem SE.sy (h : SE S S') : SE S' S := ⟨fun i h0 h1 => (h.1 i h0 h1).symm, h.2.symm⟩
theorem SE.tr (h : SE S S') (h' : SE S' S'') : SE S S'' := ⟨fun i h0 h1 => (h'.1 i h0 h1).trans (h.1 i h0 h1), h'.2.trans h.2⟩
theorem row_ext {r r' : List Int} (h4 : r.length ≤ 4) (h4' : r'.length ≤ 4) (h0 : ∀ x, x ∈ r → 0 ≤ x) (h0' : ∀ x, x ∈ r' → 0 ≤ x) (h : ∀ i : Nat, i < 4 → rE r i = rE r' i) : r = r' := by
  have hl : r.length = r'.length := by
    rcases Nat.lt_trichotomy r.length r'.length with c | c | c
    · have e := h r.length (by omega)
      rw [rE_no (by omega), rE_pos c] at e
      have := h0' _ (getD_mem c)
      omega
    · exact c
    · have e := h r'.length (by omega)
      rw [rE_no (r := r') (by omega), rE_pos c] at e
      have := h0 _ (getD_mem c)
      omega
  apply List.ext_getElem hl
  intro i h1 h2
  have e := h i (by omega)
  rw [rE_pos h1, rE_pos h2, List.getD_eq_getElem?_getD, List.getD_eq_getElem?_getD, List.getElem?_eq_getElem h1, List.getElem?_eq_getElem h2] at e
  simpa using e
theorem how_inj {x y : Int} (hx : 0 ≤ x ∧ x ≤ 7) (hy : 0 ≤ y ∧ y ≤ 7) (h1 : howC x = howC y) (h2 : whC x = whC y) : x = y := by
  have ax : x = 0 ∨ x = 1 ∨ x = 2 ∨ x = 3 ∨ x = 4 ∨ x = 5 ∨ x = 6 ∨ x = 7 := by omega
  have ay : y = 0 ∨ y = 1 ∨ y = 2 ∨ y = 3 ∨ y = 4 ∨ y = 5 ∨ y = 6 ∨ y = 7 := by omega
  rcases ax with rfl | rfl | rfl | rfl | rfl | rfl | rfl | rfl <;> rcases ay with rfl | rfl | rfl | rfl | rfl | rfl | rfl | rfl <;> first | rfl | exact absurd h1 (by decide) | exact absurd h2 (by decide)
theorem own_inj {x y : Int} (hx : 0 ≤ x ∧ x ≤ 4) (hy : 0 ≤ y ∧ y ≤ 4) (h : ownC x = ownC y) : x = y := by
  unfold ownC at h
  split at h <;> split at h <;> omega
theorem pT_inj (hP : WP P) (hW : WS0 P S) (hW' : WS0 P S') {t : Nat} (ht : t < 4) (e : pT S (t + 1) = pT S' (t + 1)) : pT S t = pT S' t ∧ S.1 (9 + t) = S'.1 (9 + t) ∧ S.1 (13 + t) = S'.1 (13 + t) ∧ S.1 (17 + t) = S'.1 (17 + t) ∧ qC S t = qC S' t := by
  have a := dT hP hW ht
  have b := dT hP hW' ht
  have c1 := pT_s S t
  have c2 := pT_s S' t
  rw [e] at c1
  have g1 := hW.2.1 t (by omega) (by omega)
  have g2 := hW'.2.1 t (by omega) (by omega)
  have hh := how_inj (x := S.1 (13 + t)) (y := S'.1 (13 + t)) (by omega) (by omega) (by omega) (by omega)
  refine ⟨by omega, by omega, hh, by omega, by omega⟩
theorem pP_inj (hP : WP P) (hW : WS0 P S) (hW' : WS0 P S') {p : Nat} (hp : p < 3) (e : pP S (p + 1) = pP S' (p + 1)) : pP S p = pP S' p ∧ S.1 p = S'.1 p ∧ S.1 (3 + p) = S'.1 (3 + p) ∧ S.1 (6 + p) = S'.1 (6 + p) := by
  have a := dP hP hW hp
  have b := dP hP hW' hp
  have c1 := pP_s S p
  have c2 := pP_s S' p
  rw [e] at c1
  have g1 := hW.1 p (by omega) (by omega)
  have g2 := hW'.1 p (by omega) (by omega)
  have := hP.2.1
  have hh := own_inj (x := S.1 (3 + p)) (y := S'.1 (3 + p)) (by omega) (by omega) (by omega)
  refine ⟨by omega, by omega, hh, by omega⟩
theorem qC_rE (hW : WS0 P S) {t : Nat} : rE S.2 t = if qC S t = 4 then 0 else qC S t + 1 := by
  unfold qC
  by_cases h : t < S.2.length
  · have := (hW.2.2.2 _).mp (getD_mem h)
    rw [if_pos h, rE_pos h, if_neg (by omega)]
  · rw [if_neg h, rE_no (by omega), if_pos rfl]
theorem packC_inj (hP : WP P) (hW : WS0 P S) (hW' : WS0 P S') (e : packC S = packC S') : SE S S' := by
  obtain ⟨e3, t3⟩ := pT_inj hP hW hW' (t := 3) (by omega) e
  obtain ⟨e2, t2⟩ := pT_inj hP hW hW' (t := 2) (by omega) e3
  obtain ⟨e1, t1⟩ := pT_inj hP hW hW' (t := 1) (by omega) e2
  obtain ⟨e0, t0⟩ := pT_inj hP hW hW' (t := 0) (by omega) e1
  obtain ⟨f2, p2⟩ := pP_inj hP hW hW' (p := 2) (by omega) e0
  obtain ⟨f1, p1⟩ := pP_inj hP hW hW' (p := 1) (by omega) f2
  obtain ⟨f0, p0⟩ := pP_inj hP hW hW' (p := 0) (by omega) f1
  have tt : ∀ t : Nat, t < 4 → S.1 (9 + t) = S'.1 (9 + t) ∧ S.1 (13 + t) = S'.1 (13 + t) ∧ S.1 (17 + t) = S'.1 (17 + t) ∧ qC S t = qC S' t := by
    intro t ht
    have : t = 0 ∨ t = 1 ∨ t = 2 ∨ t = 3 := by omega
    rcases this with rfl | rfl | rfl | rfl
    · exact t0
    · exact t1
    · exact t2
    · exact t3
  have pp : ∀ p : Nat, p < 3 → S.1 p = S'.1 p ∧ S.1 (3 + p) = S'.1 (3 + p) ∧ S.1 (6 + p) = S'.1 (6 + p) := by
    intro p hp
    have : p = 0 ∨ p = 1 ∨ p = 2 := by omega
    rcases this with rfl | rfl | rfl
    · exact p0
    · exact p1
    · exact p2
  refine ⟨fun i h0 h1 => ?_, ?_⟩
  · by_cases c1 : i < 3
    · have := (pp i.toNat (by omega)).1
      rw [show ((i.toNat : Nat) : Int) = i by omega] at this
      exact this.symm
    by_cases c2 : i < 6
    · have := (pp (i - 3).toNat (by omega)).2.1
      rw [show 3 + (((i - 3).toNat : Nat) : Int) = i by omega] at this
      exact this.symm
    by_cases c3 : i < 9
    · have := (pp (i - 6).toNat (by omega)).2.2
      rw [show 6 + (((i - 6).toNat : Nat) : Int) = i by omega] at this
      exact this.symm
    by_cases c4 : i < 13
    · have := (tt (i - 9).toNat (by omega)).1
      rw [show 9 + (((i - 9).toNat : Nat) : Int) = i by omega] at this
      exact this.symm
    by_cases c5 : i < 17
    · have := (tt (i - 13).toNat (by omega)).2.1
      rw [show 13 + (((i - 13).toNat : Nat) : Int) = i by omega] at this
      exact this.symm
    · have := (tt (i - 17).toNat (by omega)).2.2.1
      rw [show 17 + (((i - 17).toNat : Nat) : Int) = i by omega] at this
      exact this.symm
  · refine (row_ext (row_len hW) (row_len hW') (fun x hx => ((hW.2.2.2 x).mp hx).1) (fun x hx => ((hW'.2.2.2 x).mp hx).1) (fun i hi => ?_)).symm
    rw [qC_rE hW, qC_rE hW', (tt i hi).2.2.2]
theorem SE.pC (h : SE S S') : packC S = packC S' := by
  have hp : ∀ p : Nat, p ≤ 3 → pP S p = pP S' p := by
    intro p
    induction p with
    | zero => exact fun _ => rfl
    | succ p ih =>
      intro hp
      rw [pP_s, pP_s, ih (by omega), h.1 p (by omega) (by omega), h.1 (3 + p) (by omega) (by omega), h.1 (6 + p) (by omega) (by omega)]
  have ht : ∀ t : Nat, t ≤ 4 → pT S t = pT S' t := by
    intro t
    induction t with
    | zero => exact fun _ => hp 3 (by omega)
    | succ t ih =>
      intro ht
      have eq : qC S t = qC S' t := by unfold qC; rw [h.2]
      rw [pT_s, pT_s, ih (by omega), h.1 (9 + t) (by omega) (by omega), h.1 (13 + t) (by omega) (by omega), h.1 (17 + t) (by omega) (by omega), eq]
  exact ht 4 (by omega)
theorem SE.cell (h : SE S S') {i : Nat} (hi : i < 25) : rcl n S i = rcl n S' i := by
  by_cases h1 : i < 13
  · rw [rcl_a h1, rcl_a h1, h.1 i (by omega) (by omega)]
  by_cases h2 : i < 17
  · rw [rcl_b (by omega) h2, rcl_b (by omega) h2, h.1 i (by omega) (by omega)]
  by_cases h3 : i < 21
  · rw [rcl_c (by omega) h3, rcl_c (by omega) h3, h.1 i (by omega) (by omega)]
  · rw [rcl_d (by omega), rcl_d (by omega), h.2]
theorem pR_congr (h : ∀ i : Nat, i < 25 → rcl n S i = rcl n S' i) : ∀ i : Nat, i ≤ 25 → pR n S i = pR n S' i
  | 0, _ => rfl
  | i + 1, hi => by rw [pR_s, pR_s, pR_congr h i (by omega), h i (by omega)]
theorem SE.pR (h : SE S S') : packR n S = packR n S' := pR_congr (fun i hi => h.cell hi) 25 (by omega)
theorem pR_inj (hP : WP P) (hW : WS0 P S) (hW' : WS0 P S') : ∀ i : Nat, i ≤ 25 → pR (P 0 6) S i = pR (P 0 6) S' i → ∀ y : Nat, y < i → rcl (P 0 6) S y = rcl (P 0 6) S' y
  | 0, _, _, y, hy => absurd hy (Nat.not_lt_zero _)
  | i + 1, hi, e, y, hy => by
    have a := rcl_in hP hW (i := i) (by omega)
    have b := rcl_in hP hW' (i := i) (by omega)
    rw [pR_s, pR_s] at e
    have key : pR (P 0 6) S i = pR (P 0 6) S' i ∧ rcl (P 0 6) S i = rcl (P 0 6) S' i := by
      rcases mW_in i with ⟨c, -⟩ | ⟨c, -⟩ | ⟨c, -⟩ | ⟨c, -⟩ | ⟨c, -⟩ | ⟨c, -⟩ <;> rw [c] at e a b <;> omega
    by_cases c : y = i
    · subst c; exact key.2
    · exact pR_inj hP hW hW' i (by omega) key.1 y (by omega)
theorem packR_inj (hP : WP P) (hW : WS0 P S) (hW' : WS0 P S') (e : packR (P 0 6) S = packR (P 0 6) S') : SE S S' := by
  have h := pR_inj hP hW hW' 25 (by omega) e
  refine ⟨fun i h0 h1 => ?_, ?_⟩
  · have hh := h i.toNat (by omega)
    have ei : ((i.toNat : Nat) : Int) = i := by omega
    by_cases c1 : i < 13
    · rw [rcl_a (by omega), rcl_a (by omega), ei] at hh
      exact hh.symm
    by_cases c2 : i < 17
    · rw [rcl_b (by omega) (by omega), rcl_b (by omega) (by omega), ei] at hh
      by_cases c : i - 13 < P 0 6
      · rw [if_pos c, if_pos c] at hh
        exact hh.symm
      · have a := how7 (t := i - 13) hW hP (by omega) (by omega) (by omega)
        have b := how7 (t := i - 13) hW' hP (by omega) (by omega) (by omega)
        rw [show 13 + (i - 13) = i by omega] at a b
        omega
    · rw [rcl_c (by omega) (by omega), rcl_c (by omega) (by omega), ei] at hh
      exact hh.symm
  · refine (row_ext (row_len hW) (row_len hW') (fun x hx => ((hW.2.2.2 x).mp hx).1) (fun x hx => ((hW'.2.2.2 x).mp hx).1) (fun i hi => ?_)).symm
    have hh := h (21 + i) (by omega)
    rw [rcl_d (by omega), rcl_d (by omega), show 21 + i - 21 = i by omega] at hh
    exact hh
theorem pk_iff (hP : WP P) (hW : WS0 P S) (hW' : WS0 P S') : packR (P 0 6) S = packR (P 0 6) S' ↔ packC S = packC S' :=
  ⟨fun e => (packR_inj hP hW hW' e).pC, fun e => (packC_inj hP hW hW' e).pR⟩
theorem CS.se (h : CS w k S) (e : SE S S') : CS w k S' := h.congr e.1 e.2
theorem RS.se (h : RS w n S) (e : SE S S') : RS w n S' := h.congr e.1 e.2
end K5
