theorem CS.congr {w : zW} {k : Int} {S S' : Sc} (h : CS w k S) (e1 : ∀ i, 0 ≤ i → i < 21 → S'.1 i = S.1 i) (e2 : S'.2 = S.2) : CS w k S' := by
  obtain ⟨a1, a2, a3, a4⟩ := h
  refine ⟨fun p g0 g3 => ?_, fun t g0 g4 => ?_, by rw [e2]; exact a3, fun i hi => ?_⟩
  · rw [e1 p (by omega) (by omega), e1 (3 + p) (by omega) (by omega), e1 (6 + p) (by omega) (by omega)]
    exact a1 p g0 g3
  · rw [e1 (9 + t) (by omega) (by omega), e1 (13 + t) (by omega) (by omega), e1 (17 + t) (by omega) (by omega)]
    exact a2 t g0 g4
  · rw [e2] at hi ⊢
    exact a4 i hi
section C5
variable {d : Nat} {w : zW} {k j t p : Int} {S : Sc} {P : Pg} {l : Int → Int}
theorem row_lt (hW : WS0 P S) (hP : WP P) (ht : t ∈ S.2) : 0 ≤ t ∧ t < P 0 6 ∧ t < 4 := by
  obtain ⟨h0, h4, h1, h6⟩ := (hW.2.2.2 t).mp ht
  obtain ⟨f1, f2, f3, f4, f5, f6⟩ := hW.2.1 t h0 h4
  have h3 := (hP.2.2.2.1 t h0 h4).2.2.2.2
  have h5 := f5 (by omega)
  refine ⟨h0, ?_, h4⟩
  by_cases e : P 0 6 ≤ t
  · have := h3 e
    omega
  · omega
theorem sHr_in : ∀ (r : List Int) (h : Int), sHr S.1 l p r h = h ∨ sHr S.1 l p r h ∈ r
  | [], h => Or.inl rfl
  | t :: r, h => by
    rw [sHr]
    rcases sHr_in r (if S.1 (13 + t) = 4 + p ∧ (h = 4 ∨ l h < l t) then t else h) with q | q
    · rw [q]
      split
      · exact Or.inr List.mem_cons_self
      · exact Or.inl rfl
    · exact Or.inr (List.mem_cons_of_mem _ q)
theorem r_hand_l (hk : isS k) (hC : CS w k S) (hW : WS0 P S) (hl : LN w k l) (hp : 0 ≤ p ∧ p < 3) : ∀ (n i : Nat) (h : Int) (v : zV), i + n = S.2.length → (h = 4 ∨ 0 ≤ h ∧ h < 4) → ∃ v', Rn (d + 2) 39 10 [(2, k), (2, j), (0, p), (0, h), (0, (i : Int)), v] [] 92 w = Rn (d + 2) 39 77 [(2, k), (2, j), (0, p), (0, sHr S.1 l p (S.2.drop i) h), (0, (S.2.length : Int)), v'] [] 92 w := by
  obtain ⟨z0, zn, z1, y1, z2, y2, z3, y3, z4, y4, z5, y5, z6, y6, z7, y7, z8, y8, z9, y9⟩ := sSall hk
  have hl4 := row_len hW
  have a3 := hC.2.2.1
  intro n
  induction n with
  | zero =>
    intro i h v hi hh
    rw [List.drop_eq_nil_iff.mpr (by omega), show i = S.2.length by omega]
    refine ⟨v, ?_⟩
    by_cases h4 : (4 : Int) ≤ S.2.length <;> simp (disch := first | assumption | omega | (simp only [zcat_0, zcat_i, zcat_l, zcat_r, zcat_t]; omega) | simp) only [e_X2_handOn_10, e_X2_handOn_12, e_X2_handOn_13, e_X2_handOn_16, e_X2_handOn_18, e_X2_handOn_19, e_X2_handOn_22, zpush_i, zpush_l, zpush_v, Option.bind_some, if_pos, if_neg, sHr]
  | succ n ih =>
    intro i h v hi hh
    have hm := getD_mem (l := S.2) (i := i) (by omega)
    have a4 := hC.2.2.2 i (by omega)
    obtain ⟨m0, m4, m1, m6⟩ := (hW.2.2.2 _).mp hm
    rw [drop_cons (by omega), sHr]
    generalize S.2.getD i 0 = t at *
    have hi4 := r_is2 (d := d) hk m0 m4 hC (by omega) hp
    have lt := hl t m0 m4
    by_cases e : S.1 (13 + t) = 4 + p
    · rw [if_pos e] at hi4
      rcases hh with rfl | hh
      · obtain ⟨v', q⟩ := ih (i + 1) t (0, t) (by omega) (Or.inr ⟨m0, m4⟩)
        refine ⟨v', ?_⟩
        rw [show ((i + 1 : Nat) : Int) = (i : Int) + 1 by omega] at q
        rw [if_pos ⟨e, Or.inl rfl⟩, ← q, e_X2_handOn_10]
        simp (disch := first | assumption | omega | (simp only [zcat_0, zcat_i, zcat_l, zcat_r, zcat_t]; omega) | simp) only [e_X2_handOn_12, e_X2_handOn_13, e_X2_handOn_16, e_X2_handOn_18, e_X2_handOn_19, e_X2_handOn_22, e_X2_handOn_25, e_X2_handOn_26, e_X2_handOn_29, e_X2_handOn_31, e_X2_handOn_32, e_X2_handOn_34, e_X2_handOn_35, e_X2_handOn_37, e_X2_handOn_38, e_X2_handOn_39, e_X2_handOn_42, e_X2_handOn_45, e_X2_handOn_46, e_X2_handOn_49, e_X2_handOn_52, e_X2_handOn_53, e_X2_handOn_56, e_X2_handOn_58, e_X2_handOn_59, e_X2_handOn_60, e_X2_handOn_63, e_X2_handOn_64, e_X2_handOn_65, e_X2_handOn_68, e_X2_handOn_70, e_X2_handOn_71, e_X2_handOn_74, zpush_i, zpush_l, zpush_v, Option.bind_some, if_pos, if_neg, a4, hi4, w32_id, c_isThread0]
      · have lh := hl h hh.1 hh.2
        by_cases e2 : l h < l t
        · obtain ⟨v', q⟩ := ih (i + 1) t (0, t) (by omega) (Or.inr ⟨m0, m4⟩)
          refine ⟨v', ?_⟩
          rw [show ((i + 1 : Nat) : Int) = (i : Int) + 1 by omega] at q
          rw [if_pos ⟨e, Or.inr e2⟩, ← q, e_X2_handOn_10]
          simp (disch := first | assumption | omega | (simp only [zcat_0, zcat_i, zcat_l, zcat_r, zcat_t]; omega) | simp) only [e_X2_handOn_12, e_X2_handOn_13, e_X2_handOn_16, e_X2_handOn_18, e_X2_handOn_19, e_X2_handOn_22, e_X2_handOn_25, e_X2_handOn_26, e_X2_handOn_29, e_X2_handOn_31, e_X2_handOn_32, e_X2_handOn_34, e_X2_handOn_35, e_X2_handOn_37, e_X2_handOn_38, e_X2_handOn_39, e_X2_handOn_42, e_X2_handOn_45, e_X2_handOn_46, e_X2_handOn_49, e_X2_handOn_52, e_X2_handOn_53, e_X2_handOn_56, e_X2_handOn_58, e_X2_handOn_59, e_X2_handOn_60, e_X2_handOn_63, e_X2_handOn_64, e_X2_handOn_65, e_X2_handOn_68, e_X2_handOn_70, e_X2_handOn_71, e_X2_handOn_74, zpush_i, zpush_l, zpush_v, Option.bind_some, if_pos, if_neg, a4, hi4, w32_id, c_isThread1, lt, lh]
        · obtain ⟨v', q⟩ := ih (i + 1) h (0, t) (by omega) (Or.inr hh)
          refine ⟨v', ?_⟩
          rw [show ((i + 1 : Nat) : Int) = (i : Int) + 1 by omega] at q
          rw [if_neg (by omega), ← q, e_X2_handOn_10]
          simp (disch := first | assumption | omega | (simp only [zcat_0, zcat_i, zcat_l, zcat_r, zcat_t]; omega) | simp) only [e_X2_handOn_12, e_X2_handOn_13, e_X2_handOn_16, e_X2_handOn_18, e_X2_handOn_19, e_X2_handOn_22, e_X2_handOn_25, e_X2_handOn_26, e_X2_handOn_29, e_X2_handOn_31, e_X2_handOn_32, e_X2_handOn_34, e_X2_handOn_35, e_X2_handOn_37, e_X2_handOn_38, e_X2_handOn_39, e_X2_handOn_42, e_X2_handOn_45, e_X2_handOn_46, e_X2_handOn_49, e_X2_handOn_52, e_X2_handOn_53, e_X2_handOn_56, e_X2_handOn_58, e_X2_handOn_59, e_X2_handOn_60, e_X2_handOn_63, e_X2_handOn_64, e_X2_handOn_65, e_X2_handOn_68, e_X2_handOn_70, e_X2_handOn_71, e_X2_handOn_74, zpush_i, zpush_l, zpush_v, Option.bind_some, if_pos, if_neg, a4, hi4, w32_id, c_isThread1, lt, lh]
    · rw [if_neg e] at hi4
      obtain ⟨v', q⟩ := ih (i + 1) h (0, t) (by omega) hh
      refine ⟨v', ?_⟩
      rw [show ((i + 1 : Nat) : Int) = (i : Int) + 1 by omega] at q
      rw [if_neg (fun q => e q.1), ← q, e_X2_handOn_10]
      simp (disch := first | assumption | omega | (simp only [zcat_0, zcat_i, zcat_l, zcat_r, zcat_t]; omega) | simp) only [e_X2_handOn_12, e_X2_handOn_13, e_X2_handOn_16, e_X2_handOn_18, e_X2_handOn_19, e_X2_handOn_22, e_X2_handOn_25, e_X2_handOn_26, e_X2_handOn_29, e_X2_handOn_31, e_X2_handOn_32, e_X2_handOn_34, e_X2_handOn_35, e_X2_handOn_37, e_X2_handOn_38, e_X2_handOn_39, e_X2_handOn_42, e_X2_handOn_45, e_X2_handOn_46, e_X2_handOn_49, e_X2_handOn_52, e_X2_handOn_53, e_X2_handOn_56, e_X2_handOn_58, e_X2_handOn_59, e_X2_handOn_60, e_X2_handOn_63, e_X2_handOn_64, e_X2_handOn_65, e_X2_handOn_68, e_X2_handOn_70, e_X2_handOn_71, e_X2_handOn_74, zpush_i, zpush_l, zpush_v, Option.bind_some, if_pos, if_neg, a4, hi4, w32_id]
theorem r_hand (hk : isS k) (hj : isT j) (hC : CS w k S) (hT : TO w j P) (hW : WS0 P S) (hP : WP P) (hp : 0 ≤ p ∧ p < 3) : ∃ w', Cl (d + 2) 39 [(2, k), (2, j), (0, p)] 92 w = some ((9, 0), 92, w') ∧ FR k w w' ∧
    (sHo P p S = 4 → CS w' k (sHd P p S) ∧ w' k 10 = w k 10) ∧ (sHo P p S ≠ 4 → CS w' k (su (sHd P p S).1 (6 + p) 0, (sHd P p S).2) ∧ (w32 (w k 10) = w k 10 → w' k 10 = w32 (w k 10 + S.1 (6 + p)))) := by
  obtain ⟨z0, zn, z1, y1, z2, y2, z3, y3, z4, y4, z5, y5, z6, y6, z7, y7, z8, y8, z9, y9⟩ := sSall hk
  obtain ⟨t0, tn, t1, u1, t2, u2, t3, u3, t4, u4, t5, u5, t6, u6⟩ := sTall hj
  obtain ⟨w1, q1, r1, s1⟩ := r_lend (d := d) hk hj hC hT hW hP
  have C1 := hC.ln s1
  have T1 := hT.ln hj hk s1
  obtain ⟨v2, q2⟩ := r_hand_l (d := d) (j := j) (p := p) hk C1 hW r1 hp S.2.length 0 4 (9, 0) (by omega) (Or.inl rfl)
  have q2' : Rn (d + 2) 39 10 [(2, k), (2, j), (0, p), (0, 4), (0, 0), (9, 0)] [] 92 w1 = Rn (d + 2) 39 77 [(2, k), (2, j), (0, p), (0, sHo P p S), (0, (S.2.length : Int)), v2] [] 92 w1 := q2
  have F1 : FR k w w1 := fun a ha => s1 a (by omega)
  obtain ⟨a1, a2, a3, a4⟩ := id C1
  have cm : ∀ x y : Int, ownC x = y → CS (zup w1 (k + 2) p y) k (su S.1 (3 + p) x, S.2) := by
    intro x y hxy
    refine ⟨fun p' g0 g3 => ?_, fun t g0 g4 => ?_, ?_, fun i hi => ?_⟩
    · obtain ⟨c1, c2, c3⟩ := a1 p' g0 g3
      by_cases e : p' = p
      · subst e
        simp (disch := omega) only [zup_off, zup_self, su_ne, su_self, c1, c3, hxy, and_self]
      · simp (disch := omega) only [zup_off, su_ne, c1, c2, c3, and_self]
    · obtain ⟨c1, c2, c3, c4⟩ := a2 t g0 g4
      simp (disch := omega) only [zup_off, su_ne, c1, c2, c3, c4, and_self]
    · simp (disch := omega) only [zup_off, a3]
    · simp (disch := omega) only [zup_off]
      exact a4 i hi
  by_cases hh : sHo P p S = 4
  · refine ⟨zup w1 (k + 2) p 4, ?_, F1.up (by omega) (by omega), fun _ => ⟨?_, ?_⟩, fun h => absurd hh h⟩
    · show Rn (d + 2) 39 0 [(2, k), (2, j), (0, p), (9, 0), (9, 0), (9, 0)] [] 92 w = _
      rw [hh] at q2'
      simp (disch := first | assumption | omega | (simp only [zcat_0, zcat_i, zcat_l, zcat_r, zcat_t]; omega) | simp) only [e_X2_handOn_0, e_X2_handOn_1, e_X2_handOn_2, e_X2_handOn_5, e_X2_handOn_6, e_X2_handOn_7, e_X2_handOn_8, zpush_i, zpush_l, zpush_v, Option.bind_some, if_pos, if_neg, q1, q2']
      simp (disch := first | assumption | omega | (simp only [zcat_0, zcat_i, zcat_l, zcat_r, zcat_t]; omega) | simp) only [e_X2_handOn_77, e_X2_handOn_78, e_X2_handOn_81, e_X2_handOn_82, e_X2_handOn_83, e_X2_handOn_84, e_X2_handOn_85, e_X2_handOn_88, e_X2_handOn_91, e_X2_handOn_92, e_X2_handOn_93, e_X2_handOn_94, e_X2_handOn_95, e_X2_handOn_98, e_X2_handOn_99, e_X2_handOn_100, e_X2_handOn_101, e_X2_handOn_104, zpush_i, zpush_l, zpush_v, Option.bind_some, if_pos, if_neg, c_isThread0]
    · unfold sHd
      rw [if_pos hh]
      exact cm 0 4 rfl
    · rw [zup_off _ (Or.inl (by omega)), s1 k (by omega)]
  · have hin : sHo P p S ∈ S.2 := by
      rcases sHr_in (S := S) (l := sLd P S) (p := p) S.2 4 with h | h
      · exact absurd h hh
      · exact h
    obtain ⟨h0, hn, h4⟩ := row_lt hW hP hin
    have ht : Cl (d + 1) 40 [(2, k), (0, sHo P p S), (0, p)] 92 (zup w1 (k + 2) p 4) = _ := c_take hk hp.1 hp.2
    have c3 : w1 (k + 3) p = S.1 (6 + p) := (a1 p hp.1 hp.2).2.2
    have ed : (zup w1 (k + 2) p 4) (k + 3) p = S.1 (6 + p) := by rw [zup_off _ (Or.inl (by omega)), c3]
    have edd : (S.1 (6 + p) = 0 ∨ S.1 (6 + p) = 1) := (hW.1 p hp.1 hp.2).2.2.2.2
    have en : ownC (sHo P p S + 1) = sHo P p S := by
      unfold ownC
      rw [if_neg (by omega)]
      omega
    have C2 := cm (sHo P p S + 1) (sHo P p S) en
    generalize hw2 : zup (if (zup w1 (k + 2) p 4) (k + 3) p = 1 then zup (zup (zup w1 (k + 2) p 4) (k + 2) p (sHo P p S)) k 10 (w32 ((zup w1 (k + 2) p 4) k 10 + 1)) else zup (zup w1 (k + 2) p 4) (k + 2) p (sHo P p S)) (k + 3) p 0 = w2 at ht
    rw [ed] at hw2
    have g2 : ∀ a i, a ≠ k + 3 ∨ i ≠ p → a ≠ k ∨ i ≠ 10 → w2 a i = (zup w1 (k + 2) p (sHo P p S)) a i := by
      intro a i n1 n2
      rw [← hw2, zup_off _ n1]
      split
      · rw [zup_off _ n2]
        unfold zup
        split <;> rfl
      · unfold zup
        split <;> rfl
    have g3 : w2 (k + 3) p = 0 := by rw [← hw2, zup_self]
    have g4 : w32 (w k 10) = w k 10 → w2 k 10 = w32 (w k 10 + S.1 (6 + p)) := by
      intro b1
      rw [← hw2, zup_off _ (Or.inl (by omega))]
      have e9 : (zup w1 (k + 2) p 4) k 10 = w k 10 := by rw [zup_off _ (Or.inl (by omega)), s1 k (by omega)]
      split
      · next h1 => rw [zup_self, e9, h1]
      · rw [zup_off _ (Or.inl (by omega)), e9, show S.1 (6 + p) = 0 by omega, Int.add_zero, b1]
    have F2 : FR k w w2 := by
      intro a ha
      have : w2 a = (zup w1 (k + 2) p (sHo P p S)) a := by
        funext i
        exact g2 a i (Or.inl (by omega)) (Or.inl (by omega))
      rw [this, zup_ne (by omega)]
      exact F1 a ha
    have C3 : CS w2 k (su (su S.1 (3 + p) (sHo P p S + 1)) (6 + p) 0, S.2) := by
      obtain ⟨b1, b2, b3, b4⟩ := C2
      refine ⟨fun p' g0 gg => ?_, fun t g0 gg => ?_, ?_, fun i hi => ?_⟩
      · obtain ⟨c1, c2, c3⟩ := b1 p' g0 gg
        by_cases e : p' = p
        · subst e
          simp (disch := omega) only [g2, g3, c1, c2, su_ne, su_self, and_self]
        · simp (disch := omega) only [g2, c1, c2, c3, su_ne, and_self]
      · obtain ⟨c1, c2, c3, c4⟩ := b2 t g0 gg
        simp (disch := omega) only [g2, c1, c2, c3, c4, su_ne, and_self]
      · rw [g2 _ _ (Or.inl (by omega)) (Or.inr (by omega))]
        exact b3
      · rw [g2 _ _ (Or.inl (by omega)) (Or.inl (by omega))]
        exact b4 i hi
    have W3 : WS0 P (su (su S.1 (3 + p) (sHo P p S + 1)) (6 + p) 0, S.2) := by
      refine ⟨fun p' g0 gg => ?_, fun t g0 gg => ?_, hW.2.2.1, fun t => ?_⟩
      · obtain ⟨c1, c2, c3, c4, c5⟩ := hW.1 p' g0 gg
        by_cases e : p' = p
        · subst e
          simp (disch := omega) only [su_ne, su_self]
          exact ⟨c1, c2, by omega, by omega, Or.inl trivial⟩
        · simp (disch := omega) only [su_ne]
          exact ⟨c1, c2, c3, c4, c5⟩
      · simp (disch := omega) only [su_ne]
        exact hW.2.1 t g0 gg
      · constructor
        · intro ht
          have := (hW.2.2.2 t).mp ht
          simp (disch := omega) only [su_ne]
          exact this
        · rintro ⟨e0, e4, e1, e6⟩
          simp (disch := omega) only [su_ne] at e1 e6
          exact (hW.2.2.2 t).mpr ⟨e0, e4, e1, e6⟩
    obtain ⟨w3, q3, r3, s3, u3⟩ := r_rel (d := d) (t := sHo P p S) hk hj C3 (hT.fr hj hk F2) W3 hP hin
    refine ⟨w3, ?_, F2.tr s3, fun h => absurd h hh, fun _ => ⟨?_, fun b1 => by rw [u3]; exact g4 b1⟩⟩
    · show Rn (d + 2) 39 0 [(2, k), (2, j), (0, p), (9, 0), (9, 0), (9, 0)] [] 92 w = _
      simp (disch := first | assumption | omega | (simp only [zcat_0, zcat_i, zcat_l, zcat_r, zcat_t]; omega) | simp) only [e_X2_handOn_0, e_X2_handOn_1, e_X2_handOn_2, e_X2_handOn_5, e_X2_handOn_6, e_X2_handOn_7, e_X2_handOn_8, zpush_i, zpush_l, zpush_v, Option.bind_some, if_pos, if_neg, q1, q2']
      simp (disch := first | assumption | omega | (simp only [zcat_0, zcat_i, zcat_l, zcat_r, zcat_t]; omega) | simp) only [e_X2_handOn_77, e_X2_handOn_78, e_X2_handOn_81, e_X2_handOn_82, e_X2_handOn_83, e_X2_handOn_84, e_X2_handOn_85, e_X2_handOn_88, e_X2_handOn_91, e_X2_handOn_92, e_X2_handOn_93, e_X2_handOn_94, e_X2_handOn_95, e_X2_handOn_98, e_X2_handOn_99, e_X2_handOn_100, e_X2_handOn_101, e_X2_handOn_104, zpush_i, zpush_l, zpush_v, Option.bind_some, if_pos, if_neg, c_isThread1, ht, q3]
    · refine r3.congr (fun i g0 g21 => ?_) ?_
      · unfold sHd
        rw [if_neg hh]
        by_cases e : i = 6 + p
        · subst e
          simp (disch := omega) only [sRl, sGo, su_ne, su_self]
        · unfold sRl sGo
          dsimp only
          rw [su_ne _ e]
          unfold su
          by_cases e1 : i = 13 + sHo P p S
          · subst e1
            simp (disch := omega) only [if_pos, if_neg]
          · by_cases e2 : i = 17 + sHo P p S
            · subst e2
              simp (disch := omega) only [if_pos, if_neg]
            · by_cases e3 : i = 9 + sHo P p S
              · subst e3
                simp (disch := omega) only [if_pos, if_neg]
              · simp (disch := omega) only [if_pos, if_neg]
      · unfold sHd
        rw [if_neg hh]
        rfl
end C5
