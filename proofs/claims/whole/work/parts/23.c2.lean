def TO (w : zW) (j : Int) (P : Pg) : Prop := ∀ a, 0 ≤ a → a ≤ 6 → ∀ i, w (j + a) i = P a i
theorem TO.fr {w w' : zW} {j k : Int} {P : Pg} (h : TO w j P) (hj : isT j) (hk : isS k) (hF : FR k w w') : TO w' j P := fun a h0 h1 i => by
  rw [hF (j + a) (by omega)]
  exact h a h0 h1 i
/-- a scene but for one thread that is about to go on -/
def CSx (w : zW) (k : Int) (S : Sc) (t : Int) : Prop :=
  (∀ p, 0 ≤ p → p < 3 → w (k + 1) p = S.1 p ∧ w (k + 2) p = ownC (S.1 (3 + p)) ∧ w (k + 3) p = S.1 (6 + p)) ∧
  (∀ t', 0 ≤ t' → t' < 4 → t' ≠ t → w (k + 4) t' = S.1 (9 + t') ∧ w (k + 5) t' = howC (S.1 (13 + t')) ∧ w (k + 6) t' = whC (S.1 (13 + t')) ∧ w (k + 7) t' = S.1 (17 + t')) ∧
  (w (k + 4) t = S.1 (9 + t) ∧ w (k + 6) t = 3 ∧ w (k + 7) t = 0) ∧
  w k 9 = S.2.length ∧ (∀ i : Nat, i < S.2.length → w (k + 8) i = S.2.getD i 0)
section C2
variable {d : Nat} {w : zW} {k j t p : Int} {S : Sc} {P : Pg}
theorem CS.x (h : CS w k S) (h0 : 0 ≤ t) (h4 : t < 4) (hh : S.1 (13 + t) = 0 ∨ S.1 (13 + t) = 7) (hm : S.1 (17 + t) = 0) : CSx w k S t := by
  obtain ⟨a1, a2, a3, a4⟩ := h
  obtain ⟨b1, b2, b3, b4⟩ := a2 t h0 h4
  refine ⟨a1, fun t' g0 g4 _ => a2 t' g0 g4, ⟨b1, ?_, by rw [b4, hm]⟩, a3, a4⟩
  rw [b3]
  rcases hh with hh | hh <;> rw [hh] <;> decide
theorem r_go (hk : isS k) (hj : isT j) (h0 : 0 ≤ t) (h4 : t < 4) (hC : CSx w k S t) (hT : TO w j P) (hb : 0 ≤ S.1 (9 + t) ∧ S.1 (9 + t) < 1000) : ∃ w', Cl d 44 [(2, k), (2, j), (0, t)] 92 w = some ((9, 0), 92, w') ∧ CS w' k (sGo P t S) ∧ FR k w w' ∧ w' k 10 = w k 10 := by
  obtain ⟨a1, a2, ⟨b1, b2, b3⟩, a3, a4⟩ := hC
  have e3 : w (j + 3) t = P 3 t := hT 3 (by omega) (by omega) t
  refine ⟨_, c_goOn hk hj h0 h4, ?_, (FR.rf.up (by omega) (by omega)).up (by omega) (by omega), by simp (disch := omega) only [zup_off]⟩
  rw [e3, b1, w32_id (by omega) (by omega)]
  refine ⟨fun p g0 g3 => ?_, fun t' g0 g4 => ?_, ?_, fun i hi => ?_⟩
  · obtain ⟨c1, c2, c3⟩ := a1 p g0 g3
    simp (disch := omega) only [zup_off, sGo, su_ne, c1, c2, c3, and_self]
  · by_cases e : t' = t
    · subst e
      by_cases hl : S.1 (9 + t') + 1 < P 3 t'
      · simp (disch := omega) only [zup_off, zup_self, sGo, su_ne, su_self, b2, b3, if_pos, if_neg]
        decide
      · simp (disch := omega) only [zup_off, zup_self, sGo, su_ne, su_self, b2, b3, if_pos, if_neg]
        decide
    · obtain ⟨c1, c2, c3, c4⟩ := a2 t' g0 g4 e
      simp (disch := omega) only [zup_off, sGo, su_ne, c1, c2, c3, c4, and_self]
  · simp (disch := omega) only [zup_off, sGo, a3]
  · simp (disch := omega) only [zup_off, sGo]
    exact a4 i hi
theorem r_join (hk : isS k) (h0 : 0 ≤ t) (h4 : t < 4) (hC : CS w k S) (hl : S.2.length < 4) {h q : Int} (hp : 0 ≤ q ∧ q < 3) (hh : h = 1 ∧ p = 1 + q ∨ h = 2 ∧ p = 4 + q) : ∃ w', Cl d 42 [(2, k), (0, t), (0, h), (0, q)] 92 w = some ((9, 0), 92, w') ∧ CS w' k (sJn t p S) ∧ FR k w w' ∧ w' k 10 = w k 10 := by
  obtain ⟨a1, a2, a3, a4⟩ := hC
  refine ⟨_, c_join hk h0 h4 (by omega), ?_, ((((FR.rf.up (by omega) (by omega)).up (by omega) (by omega)).up (by omega) (by omega)).up (by omega) (by omega)).up (by omega) (by omega), by simp (disch := omega) only [zup_off]⟩
  refine ⟨fun p g0 g3 => ?_, fun t' g0 g4 => ?_, ?_, fun i hi => ?_⟩
  · obtain ⟨c1, c2, c3⟩ := a1 p g0 g3
    simp (disch := omega) only [zup_off, sJn, su_ne, c1, c2, c3, and_self]
  · by_cases e : t' = t
    · subst e
      obtain ⟨c1, c2, c3, c4⟩ := a2 t' g0 g4
      simp (disch := omega) only [zup_off, zup_self, sJn, su_ne, su_self, c1]
      unfold howC whC
      rcases hh with ⟨rfl, rfl⟩ | ⟨rfl, rfl⟩
      · simp (disch := omega) only [if_pos, if_neg]
        exact ⟨trivial, trivial, by omega, trivial⟩
      · simp (disch := omega) only [if_pos, if_neg]
        exact ⟨trivial, trivial, by omega, trivial⟩
    · obtain ⟨c1, c2, c3, c4⟩ := a2 t' g0 g4
      simp (disch := omega) only [zup_off, sJn, su_ne, c1, c2, c3, c4, and_self]
  · simp (disch := omega) only [zup_self, sJn, a3, List.length_append, List.length_singleton]
    omega
  · simp only [sJn, List.length_append, List.length_singleton] at hi
    by_cases e : i = S.2.length
    · subst e
      simp (disch := omega) only [zup_off, sJn]
      rw [a3, zup_self]
      simp
    · simp (disch := omega) only [zup_off, sJn]
      rw [a4 i (by omega), List.getD_eq_getElem?_getD, List.getD_eq_getElem?_getD, List.getElem?_append_left (by omega)]
theorem c_is (hk : isS k) {h : Int} (h0 : 0 ≤ t) (h4 : t < 4) : Cl (d + 1) 28 [(2, k), (0, t), (0, h), (0, p)] 92 w = some ((0, if w (k + 5) t = h ∧ w (k + 6) t = p then 1 else 0), 92, w) := by
  show Rn (d + 1) 28 0 [(2, k), (0, t), (0, h), (0, p)] [] 92 w = _
  obtain ⟨z0, zn, z1, y1, z2, y2, z3, y3, z4, y4, z5, y5, z6, y6, z7, y7, z8, y8, z9, y9⟩ := sSall hk
  by_cases e1 : w (k + 5) t = h <;> by_cases e2 : w (k + 6) t = p <;> simp (disch := first | assumption | omega | (simp only [zcat_0, zcat_i, zcat_l, zcat_r, zcat_t]; omega) | simp) only [e_X2_is_0, e_X2_is_1, e_X2_is_4, e_X2_is_7, e_X2_is_8, e_X2_is_11, e_X2_is_12, e_X2_is_13, e_X2_is_14, e_X2_is_17, e_X2_is_18, e_X2_is_21, e_X2_is_22, e_X2_is_23, e_X2_is_24, e_X2_is_27, e_X2_is_28, e_X2_is_31, e_X2_is_32, zpush_i, zpush_l, zpush_v, Option.bind_some, if_pos, if_neg, c_isThread1, e1, e2, ne_eq, not_true, not_false_eq_true, and_self, and_false, false_and]
theorem howC1 {x p : Int} (hx : 0 ≤ x ∧ x ≤ 7) (hp : 0 ≤ p ∧ p < 3) : (howC x = 1 ∧ whC x = p) ↔ x = 1 + p := by
  unfold howC whC
  constructor
  · rintro ⟨h1, h2⟩
    split at h1
    · omega
    · split at h1
      · simp (disch := omega) only [if_pos, if_neg] at h2
        omega
      · split at h1 <;> omega
  · rintro rfl
    simp (disch := omega) only [if_pos, if_neg]
    refine ⟨?_, ?_⟩ <;> first | trivial | omega
theorem howC2 {x p : Int} (hx : 0 ≤ x ∧ x ≤ 7) (hp : 0 ≤ p ∧ p < 3) : (howC x = 2 ∧ whC x = p) ↔ x = 4 + p := by
  unfold howC whC
  constructor
  · rintro ⟨h1, h2⟩
    split at h1
    · omega
    · split at h1
      · omega
      · split at h1
        · simp (disch := omega) only [if_pos, if_neg] at h2
          omega
        · omega
  · rintro rfl
    simp (disch := omega) only [if_pos, if_neg]
    refine ⟨?_, ?_⟩ <;> first | trivial | omega
theorem r_is1 (hk : isS k) (h0 : 0 ≤ t) (h4 : t < 4) (hC : CS w k S) (hx : 0 ≤ S.1 (13 + t) ∧ S.1 (13 + t) ≤ 7) (hp : 0 ≤ p ∧ p < 3) : Cl (d + 1) 28 [(2, k), (0, t), (0, 1), (0, p)] 92 w = some ((0, if S.1 (13 + t) = 1 + p then 1 else 0), 92, w) := by
  obtain ⟨-, c2, c3, -⟩ := hC.2.1 t h0 h4
  rw [c_is hk h0 h4, c2, c3]
  simp only [howC1 hx hp]
theorem r_is2 (hk : isS k) (h0 : 0 ≤ t) (h4 : t < 4) (hC : CS w k S) (hx : 0 ≤ S.1 (13 + t) ∧ S.1 (13 + t) ≤ 7) (hp : 0 ≤ p ∧ p < 3) : Cl (d + 1) 28 [(2, k), (0, t), (0, 2), (0, p)] 92 w = some ((0, if S.1 (13 + t) = 4 + p then 1 else 0), 92, w) := by
  obtain ⟨-, c2, c3, -⟩ := hC.2.1 t h0 h4
  rw [c_is hk h0 h4, c2, c3]
  simp only [howC2 hx hp]
theorem drop_cons {l : List Int} {i : Nat} (h : i < l.length) : l.drop i = l.getD i 0 :: l.drop (i + 1) := by
  rw [List.drop_eq_getElem_cons h, List.getD_eq_getElem?_getD, List.getElem?_eq_getElem h]
  rfl
theorem getD_mem {l : List Int} {i : Nat} (h : i < l.length) : l.getD i 0 ∈ l := by
  rw [List.getD_eq_getElem?_getD, List.getElem?_eq_getElem h]
  exact List.getElem_mem h
theorem r_first_l (hk : isS k) (hC : CS w k S) (hW : WS0 P S) (hp : 0 ≤ p ∧ p < 3) : ∀ (n i : Nat), i + n = S.2.length → Rn (d + 2) 41 2 [(2, k), (0, p), (0, (i : Int))] [] 92 w = some ((0, sFa S.1 p (S.2.drop i)), 92, w) := by
  obtain ⟨z0, zn, z1, y1, z2, y2, z3, y3, z4, y4, z5, y5, z6, y6, z7, y7, z8, y8, z9, y9⟩ := sSall hk
  have hl := row_len hW
  have a3 := hC.2.2.1
  intro n
  induction n with
  | zero =>
    intro i hi
    rw [List.drop_eq_nil_iff.mpr (by omega)]
    by_cases h4 : (4 : Int) ≤ i <;> simp (disch := first | assumption | omega | (simp only [zcat_0, zcat_i, zcat_l, zcat_r, zcat_t]; omega) | simp) only [e_X2_firstAsleep_0, e_X2_firstAsleep_1, e_X2_firstAsleep_2, e_X2_firstAsleep_3, e_X2_firstAsleep_4, e_X2_firstAsleep_7, e_X2_firstAsleep_8, e_X2_firstAsleep_9, e_X2_firstAsleep_12, e_X2_firstAsleep_15, e_X2_firstAsleep_16, e_X2_firstAsleep_17, e_X2_firstAsleep_20, e_X2_firstAsleep_21, e_X2_firstAsleep_22, e_X2_firstAsleep_23, e_X2_firstAsleep_24, e_X2_firstAsleep_27, e_X2_firstAsleep_30, e_X2_firstAsleep_31, e_X2_firstAsleep_34, e_X2_firstAsleep_35, e_X2_firstAsleep_36, e_X2_firstAsleep_37, e_X2_firstAsleep_40, e_X2_firstAsleep_43, e_X2_firstAsleep_44, zpush_i, zpush_l, zpush_v, Option.bind_some, if_pos, if_neg, sFa]
  | succ n ih =>
    intro i hi
    have hm := getD_mem (l := S.2) (i := i) (by omega)
    have a4 := hC.2.2.2 i (by omega)
    obtain ⟨m0, m4, m1, m6⟩ := (hW.2.2.2 _).mp hm
    have ih' := ih (i + 1) (by omega)
    rw [drop_cons (by omega)]
    generalize S.2.getD i 0 = t at *
    have hi4 := r_is1 (d := d) hk m0 m4 hC (by omega) hp
    by_cases e : S.1 (13 + t) = 1 + p
    · rw [if_pos e] at hi4
      simp (disch := first | assumption | omega | (simp only [zcat_0, zcat_i, zcat_l, zcat_r, zcat_t]; omega) | simp) only [e_X2_firstAsleep_0, e_X2_firstAsleep_1, e_X2_firstAsleep_3, e_X2_firstAsleep_4, e_X2_firstAsleep_7, e_X2_firstAsleep_8, e_X2_firstAsleep_9, e_X2_firstAsleep_12, e_X2_firstAsleep_15, e_X2_firstAsleep_16, e_X2_firstAsleep_17, e_X2_firstAsleep_20, e_X2_firstAsleep_21, e_X2_firstAsleep_22, e_X2_firstAsleep_23, e_X2_firstAsleep_24, e_X2_firstAsleep_27, e_X2_firstAsleep_30, e_X2_firstAsleep_31, e_X2_firstAsleep_34, e_X2_firstAsleep_35, e_X2_firstAsleep_36, e_X2_firstAsleep_37, e_X2_firstAsleep_40, e_X2_firstAsleep_43, e_X2_firstAsleep_44, e_X2_firstAsleep_2, zpush_i, zpush_l, zpush_v, Option.bind_some, if_pos, if_neg, a4, hi4, sFa]
    · rw [if_neg e] at hi4
      rw [show ((i + 1 : Nat) : Int) = (i : Int) + 1 by omega] at ih'
      rw [e_X2_firstAsleep_2]
      simp (disch := first | assumption | omega | (simp only [zcat_0, zcat_i, zcat_l, zcat_r, zcat_t]; omega) | simp) only [e_X2_firstAsleep_0, e_X2_firstAsleep_1, e_X2_firstAsleep_3, e_X2_firstAsleep_4, e_X2_firstAsleep_7, e_X2_firstAsleep_8, e_X2_firstAsleep_9, e_X2_firstAsleep_12, e_X2_firstAsleep_15, e_X2_firstAsleep_16, e_X2_firstAsleep_17, e_X2_firstAsleep_20, e_X2_firstAsleep_21, e_X2_firstAsleep_22, e_X2_firstAsleep_23, e_X2_firstAsleep_24, e_X2_firstAsleep_27, e_X2_firstAsleep_30, e_X2_firstAsleep_31, e_X2_firstAsleep_34, e_X2_firstAsleep_35, e_X2_firstAsleep_36, e_X2_firstAsleep_37, e_X2_firstAsleep_40, e_X2_firstAsleep_43, e_X2_firstAsleep_44, zpush_i, zpush_l, zpush_v, Option.bind_some, if_pos, if_neg, a4, hi4, sFa, w32_id, ih']
end C2
