section C3
variable {d : Nat} {w : zW} {k j t p : Int} {S : Sc} {P : Pg}
theorem r_first (hk : isS k) (hC : CS w k S) (hW : WS0 P S) (hp : 0 ≤ p ∧ p < 3) : Cl (d + 2) 41 [(2, k), (0, p)] 92 w = some ((0, sFa S.1 p S.2), 92, w) := by
  show Rn (d + 2) 41 0 [(2, k), (0, p), (9, 0)] [] 92 w = _
  have h := r_first_l (d := d) hk hC hW hp S.2.length 0 (by omega)
  simp (disch := first | assumption | omega | (simp only [zcat_0, zcat_i, zcat_l, zcat_r, zcat_t]; omega) | simp) only [e_X2_firstAsleep_0, e_X2_firstAsleep_1]
  exact h
theorem take_snoc {l : List Int} {i : Nat} (h : i < l.length) : l.take (i + 1) = l.take i ++ [l.getD i 0] := by
  rw [List.take_succ, List.getD_eq_getElem?_getD, List.getElem?_eq_getElem h]
  rfl
theorem getD_al {l r : List Int} {i : Nat} (h : i < l.length) : (l ++ r).getD i 0 = l.getD i 0 := by
  rw [List.getD_eq_getElem?_getD, List.getD_eq_getElem?_getD, List.getElem?_append_left h]
theorem getD_as (l : List Int) (v : Int) : (l ++ [v]).getD l.length 0 = v := by
  rw [List.getD_eq_getElem?_getD, List.getElem?_append_right (Nat.le_refl _), Nat.sub_self]
  rfl
theorem r_rel_l (hk : isS k) (hl4 : S.2.length ≤ 4) : ∀ (n i : Nat) (w : zW), i + n = S.2.length → (∀ x : Nat, x < ((S.2.take i).filter (fun x => x ≠ t)).length → w (k + 8) x = ((S.2.take i).filter (fun x => x ≠ t)).getD x 0) → (∀ x : Nat, i ≤ x → x < S.2.length → w (k + 8) x = S.2.getD x 0) → w k 9 = S.2.length →
    ∃ w', Rn d 43 13 [(2, k), (2, j), (0, t), (0, (((S.2.take i).filter (fun x => x ≠ t)).length : Int)), (0, (i : Int))] [] 92 w = Rn d 43 61 [(2, k), (2, j), (0, t), (0, ((S.2.filter (fun x => x ≠ t)).length : Int)), (0, (S.2.length : Int))] [] 92 w' ∧
      (∀ x : Nat, x < (S.2.filter (fun x => x ≠ t)).length → w' (k + 8) x = (S.2.filter (fun x => x ≠ t)).getD x 0) ∧ (∀ a, a ≠ k + 8 → w' a = w a) := by
  obtain ⟨z0, zn, z1, y1, z2, y2, z3, y3, z4, y4, z5, y5, z6, y6, z7, y7, z8, y8, z9, y9⟩ := sSall hk
  intro n
  induction n with
  | zero =>
    intro i w hi h1 h2 h3
    have e : S.2.take i = S.2 := List.take_of_length_le (by omega)
    rw [e] at h1 ⊢
    refine ⟨w, ?_, h1, fun _ _ => rfl⟩
    rw [show i = S.2.length by omega]
    by_cases h4 : (4 : Int) ≤ S.2.length <;> simp (disch := first | assumption | omega | (simp only [zcat_0, zcat_i, zcat_l, zcat_r, zcat_t]; omega) | simp) only [e_X2_release_13, e_X2_release_15, e_X2_release_16, e_X2_release_19, e_X2_release_21, e_X2_release_22, e_X2_release_25, zpush_i, zpush_l, zpush_v, Option.bind_some, if_pos, if_neg]
  | succ n ih =>
    intro i w hi h1 h2 h3
    have hle : ((S.2.take i).filter (fun x => x ≠ t)).length ≤ i := Nat.le_trans (List.length_filter_le _ _) (by rw [List.length_take]; omega)
    have hs := take_snoc (l := S.2) (i := i) (by omega)
    have hx := h2 i (Nat.le_refl _) (by omega)
    obtain ⟨v, hv⟩ : ∃ v, v = S.2.getD i 0 := ⟨_, rfl⟩
    rw [← hv] at hs hx
    by_cases e : v = t
    · have ef : (S.2.take (i + 1)).filter (fun x => x ≠ t) = (S.2.take i).filter (fun x => x ≠ t) := by
        rw [hs, List.filter_append]
        simp [e]
      obtain ⟨w', q1, q2, q3⟩ := ih (i + 1) w (by omega) (by rw [ef]; exact h1) (fun x g1 g2 => h2 x (by omega) g2) h3
      refine ⟨w', ?_, q2, q3⟩
      rw [← q1, ef, show ((i + 1 : Nat) : Int) = (i : Int) + 1 by omega, e_X2_release_13]
      simp (disch := first | assumption | omega | (simp only [zcat_0, zcat_i, zcat_l, zcat_r, zcat_t]; omega) | simp) only [e_X2_release_15, e_X2_release_16, e_X2_release_19, e_X2_release_21, e_X2_release_22, e_X2_release_25, e_X2_release_28, e_X2_release_29, e_X2_release_32, e_X2_release_34, e_X2_release_35, e_X2_release_36, e_X2_release_39, e_X2_release_40, e_X2_release_43, e_X2_release_44, e_X2_release_45, e_X2_release_48, e_X2_release_50, e_X2_release_51, e_X2_release_52, e_X2_release_55, e_X2_release_58, zpush_i, zpush_l, zpush_v, Option.bind_some, if_pos, if_neg, hx, e, w32_id]
    · have ef : (S.2.take (i + 1)).filter (fun x => x ≠ t) = (S.2.take i).filter (fun x => x ≠ t) ++ [v] := by
        rw [hs, List.filter_append]
        simp [e]
      obtain ⟨w', q1, q2, q3⟩ := ih (i + 1) (zup w (k + 8) (((S.2.take i).filter (fun x => x ≠ t)).length : Int) v) (by omega) (by
        intro x hx
        rw [ef, List.length_append, List.length_singleton] at hx
        rw [ef]
        by_cases ex : x = ((S.2.take i).filter (fun x => x ≠ t)).length
        · rw [ex, zup_self, getD_as]
        · rw [zup_off _ (Or.inr (by omega)), getD_al (by omega)]
          exact h1 x (by omega)) (fun x g1 g2 => by
        rw [zup_off _ (Or.inr (by omega))]
        exact h2 x (by omega) g2) (by rw [zup_off _ (Or.inl (by omega))]; exact h3)
      refine ⟨w', ?_, q2, fun a ha => (q3 a ha).trans (zup_ne ha)⟩
      rw [← q1, ef, List.length_append, List.length_singleton, show ((i + 1 : Nat) : Int) = (i : Int) + 1 by omega, e_X2_release_13]
      simp (disch := first | assumption | omega | (simp only [zcat_0, zcat_i, zcat_l, zcat_r, zcat_t]; omega) | simp) only [e_X2_release_15, e_X2_release_16, e_X2_release_19, e_X2_release_21, e_X2_release_22, e_X2_release_25, e_X2_release_28, e_X2_release_29, e_X2_release_32, e_X2_release_34, e_X2_release_35, e_X2_release_36, e_X2_release_39, e_X2_release_40, e_X2_release_43, e_X2_release_44, e_X2_release_45, e_X2_release_48, e_X2_release_50, e_X2_release_51, e_X2_release_52, e_X2_release_55, e_X2_release_58, zpush_i, zpush_l, zpush_v, Option.bind_some, if_pos, if_neg, hx, w32_id]
      norm_cast
theorem r_rel (hk : isS k) (hj : isT j) (hC : CS w k S) (hT : TO w j P) (hW : WS0 P S) (hP : WP P) (ht : t ∈ S.2) : ∃ w', Cl (d + 1) 43 [(2, k), (2, j), (0, t)] 92 w = some ((9, 0), 92, w') ∧ CS w' k (sRl P t S) ∧ FR k w w' ∧ w' k 10 = w k 10 := by
  have hl4 := row_len hW
  obtain ⟨h0, h4, h1, h6⟩ := (hW.2.2.2 t).mp ht
  obtain ⟨a1, a2, a3, a4⟩ := hC
  obtain ⟨f1, f2, f3, f4, f5, f6⟩ := hW.2.1 t h0 h4
  have hP3 := (hP.2.2.2.1 t h0 h4)
  obtain ⟨w1, q1, q2, q3⟩ := r_rel_l (d := d + 1) (j := j) (t := t) hk hl4 S.2.length 0 w (by omega) (fun x hx => by simp at hx) (fun x _ hx => a4 x hx) a3
  have b4 : w (k + 7) t = 0 := by
    rw [(a2 t h0 h4).2.2.2]
    omega
  have hx : CSx (zup (zup w1 k 9 ((S.2.filter (fun x => x ≠ t)).length : Int)) (k + 6) t 3) k (S.1, S.2.filter (fun x => x ≠ t)) t := by
    refine ⟨fun p g0 g3 => ?_, fun t' g0 g4 e => ?_, ⟨?_, zup_self _ _ _ _, ?_⟩, ?_, fun i hi => ?_⟩
    · simp (disch := omega) only [zup_off, q3]
      exact a1 p g0 g3
    · simp (disch := omega) only [zup_off, q3]
      exact a2 t' g0 g4
    · simp (disch := omega) only [zup_off, q3]
      exact (a2 t h0 h4).1
    · simp (disch := omega) only [zup_off, q3]
      exact b4
    · simp (disch := omega) only [zup_off, zup_self]
    · simp (disch := omega) only [zup_off]
      exact q2 i hi
  have hF : FR k w (zup (zup w1 k 9 ((S.2.filter (fun x => x ≠ t)).length : Int)) (k + 6) t 3) := by
    intro a ha
    rw [zup_ne (by omega), zup_ne (by omega)]
    exact q3 a (by omega)
  obtain ⟨w2, g1, g2, g3, g4⟩ := r_go (d := d) hk hj h0 h4 hx (hT.fr hj hk hF) (by show 0 ≤ S.1 (9 + t) ∧ S.1 (9 + t) < 1000; omega)
  refine ⟨w2, ?_, g2, hF.tr g3, ?_⟩
  · show Rn (d + 1) 43 0 [(2, k), (2, j), (0, t), (9, 0), (9, 0)] [] 92 w = _
    obtain ⟨z0, zn, z1, y1, z2, y2, z3, y3, z4, y4, z5, y5, z6, y6, z7, y7, z8, y8, z9, y9⟩ := sSall hk
    obtain ⟨t0, tn, t1, u1, t2, u2, t3, u3, t4, u4, t5, u5, t6, u6⟩ := sTall hj
    have q1' : Rn (d + 1) 43 13 [(2, k), (2, j), (0, t), (0, 0), (0, 0)] [] 92 w = _ := q1
    simp (disch := first | assumption | omega | (simp only [zcat_0, zcat_i, zcat_l, zcat_r, zcat_t]; omega) | simp) only [e_X2_release_0, e_X2_release_1, e_X2_release_4, e_X2_release_7, e_X2_release_8, e_X2_release_9, e_X2_release_10, e_X2_release_11, zpush_i, zpush_l, zpush_v, Option.bind_some, if_pos, if_neg, c_isThread1, q1']
    simp (disch := first | assumption | omega | (simp only [zcat_0, zcat_i, zcat_l, zcat_r, zcat_t]; omega) | simp) only [e_X2_release_61, e_X2_release_62, e_X2_release_63, e_X2_release_66, e_X2_release_67, e_X2_release_70, e_X2_release_71, e_X2_release_72, e_X2_release_73, e_X2_release_74, e_X2_release_75, e_X2_release_76, e_X2_release_79, zpush_i, zpush_l, zpush_v, Option.bind_some, if_pos, if_neg, g1]
  · rw [g4]
    simp (disch := omega) only [zup_off, q3]
theorem c_rel4 : Cl (d + 1) 43 [(2, k), (2, j), (0, 4)] 92 w = some ((9, 0), 92, w) := by
  show Rn (d + 1) 43 0 [(2, k), (2, j), (0, 4), (9, 0), (9, 0)] [] 92 w = _
  simp (disch := first | assumption | omega | (simp only [zcat_0, zcat_i, zcat_l, zcat_r, zcat_t]; omega) | simp) only [e_X2_release_0, e_X2_release_1, e_X2_release_4, e_X2_release_7, e_X2_release_8, e_X2_release_9, e_X2_release_10, e_X2_release_11, zpush_i, zpush_l, zpush_v, Option.bind_some, if_pos, if_neg, c_isThread0]
end C3
