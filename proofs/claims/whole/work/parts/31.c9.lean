section C9
variable {d : Nat} {w : zW} {k j t p q : Int} {S : Sc} {P : Pg} {l : Int → Int}
theorem sDp_off (A : Sf) (hW : WS0 P A.1) (hP : WP P) (hp : 0 ≤ p ∧ p < 3) (h0 : 0 ≤ t) (h4 : t < 4) (hh : A.1.1 (13 + t) = 7) : (sDp P t p A).1.1 (13 + t) = 7 := by
  have hn : t ∉ A.1.2 := fun e => by
    have := (hW.2.2.2 t).mp e
    omega
  obtain ⟨b1, b2, b3, b4⟩ := sHd_off (p := p) hW hP hp h0 h4 hn
  unfold sDp
  split
  · split
    · show su _ _ _ _ = _
      rw [su_ne _ (by omega), b2, hh]
    · show su _ _ _ _ = _
      rw [su_ne _ (by omega), b2, hh]
  · exact hh
theorem WS0.dp {A : Sf} (hW : WS0 P A.1) (hP : WP P) (hp : 0 ≤ p ∧ p < 3) : WS0 P (sDp P t p A).1 := by
  unfold sDp
  split
  · split
    · exact (hW.hd hP hp).dead hp (Or.inr rfl)
    · exact (hW.hd hP hp).dead hp (Or.inl rfl)
  · exact hW
theorem w32_w32 (x : Int) : w32 (w32 x) = w32 x := by
  unfold w32
  exact Int.bmod_bmod
theorem sDp_w {A : Sf} (hf : w32 A.2 = A.2) : w32 (sDp P t p A).2 = (sDp P t p A).2 := by
  unfold sDp
  split
  · split
    · exact hf
    · exact w32_w32 _
  · exact hf
theorem r_die1 (hk : isS k) (hj : isT j) (h0 : 0 ≤ t) (h4 : t < 4) (hC : CS w k S) (hT : TO w j P) (hW : WS0 P S) (hP : WP P) (hp : 0 ≤ p ∧ p < 3) (hf : w32 (w k 10) = w k 10) : ∃ w', Rn (d + 3) 38 15 [(2, k), (2, j), (0, t), (0, p)] [] 92 w = Rn (d + 3) 38 15 [(2, k), (2, j), (0, t), (0, p + 1)] [] 92 w' ∧ CS w' k (sDp P t p (S, w k 10)).1 ∧ FR k w w' ∧ w' k 10 = (sDp P t p (S, w k 10)).2 := by
  obtain ⟨z0, zn, z1, y1, z2, y2, z3, y3, z4, y4, z5, y5, z6, y6, z7, y7, z8, y8, z9, y9⟩ := sSall hk
  obtain ⟨t0, tn, t1, u1, t2, u2, t3, u3, t4, u4, t5, u5, t6, u6⟩ := sTall hj
  obtain ⟨-, c2, -⟩ := hC.1 p hp.1 hp.2
  obtain ⟨p1, p2, p3, p4, p5⟩ := hW.1 p hp.1 hp.2
  have hr : ∀ t, t ∈ S.2 → 0 ≤ t := fun t ht => ((hW.2.2.2 t).mp ht).1
  unfold sDp
  dsimp only
  by_cases ho : S.1 (3 + p) = t + 1
  · rw [if_pos ho]
    have c2' : w (k + 2) p = t := by rw [c2]; unfold ownC; rw [if_neg (by omega)]; omega
    have C1 : CS (zup w (k + 3) p 1) k (su S.1 (6 + p) 1, S.2) := by
      obtain ⟨a1, a2, a3, a4⟩ := hC
      refine ⟨fun p' g0 g3 => ?_, fun t' g0 g4 => ?_, ?_, fun i hi => ?_⟩
      · obtain ⟨c1, c2, c3⟩ := a1 p' g0 g3
        by_cases e : p' = p
        · subst e
          simp (disch := omega) only [zup_off, zup_self, su_ne, su_self, c1, c2, and_self]
        · simp (disch := omega) only [zup_off, su_ne, c1, c2, c3, and_self]
      · obtain ⟨c1, c2, c3, c4⟩ := a2 t' g0 g4
        simp (disch := omega) only [zup_off, su_ne, c1, c2, c3, c4, and_self]
      · simp (disch := omega) only [zup_off, a3]
      · simp (disch := omega) only [zup_off]
        exact a4 i hi
    have F1 : FR k w (zup w (k + 3) p 1) := FR.rf.up (by omega) (by omega)
    have W1 : WS0 P (su S.1 (6 + p) 1, S.2) := hW.dead hp (Or.inr rfl)
    obtain ⟨w1, q1, q2, q3, q4⟩ := r_hand (d := d) hk hj C1 (hT.fr hj hk F1) W1 hP hp
    have e10 : (zup w (k + 3) p 1) k 10 = w k 10 := zup_off _ (Or.inl (by omega))
    rw [sHo_dead (by omega) hr, sHd_dead (by omega) hp hr, e10] at q3
    rw [sHo_dead (by omega) hr, sHd_dead (by omega) hp hr, e10] at q4
    have ex : Rn (d + 3) 38 15 [(2, k), (2, j), (0, t), (0, p)] [] 92 w = Rn (d + 3) 38 15 [(2, k), (2, j), (0, t), (0, p + 1)] [] 92 w1 := by
      rw [e_X2_die_15]
      simp (disch := first | assumption | omega | (simp only [zcat_0, zcat_i, zcat_l, zcat_r, zcat_t]; omega) | simp) only [e_X2_die_16, e_X2_die_17, e_X2_die_20, e_X2_die_21, e_X2_die_24, e_X2_die_25, e_X2_die_26, e_X2_die_27, e_X2_die_30, e_X2_die_31, e_X2_die_34, e_X2_die_35, e_X2_die_36, e_X2_die_37, e_X2_die_38, e_X2_die_39, e_X2_die_40, e_X2_die_43, e_X2_die_46, zpush_i, zpush_l, zpush_v, Option.bind_some, if_pos, if_neg, c2', q1, w32_id]
    refine ⟨w1, ex, ?_, F1.tr q2, ?_⟩
    · by_cases e : sHo P p S = 4
      · rw [if_pos e]
        exact (q3 e).1
      · rw [if_neg e]
        refine (q4 e).1.congr (fun i g0 g1 => ?_) rfl
        show su _ _ _ _ = su (su _ _ _) _ _ _
        by_cases ei : i = 6 + p
        · subst ei
          rw [su_self, su_self]
        · rw [su_ne _ ei, su_ne _ ei, su_ne _ ei]
    · by_cases e : sHo P p S = 4
      · rw [if_pos e]
        exact (q3 e).2
      · rw [if_neg e]
        have := (q4 e).2 hf
        dsimp only at this
        rw [su_self] at this
        exact this
  · rw [if_neg ho]
    have c2' : w (k + 2) p ≠ t := by
      rw [c2]
      unfold ownC
      split <;> omega
    refine ⟨w, ?_, hC, FR.rf, rfl⟩
    rw [e_X2_die_15]
    simp (disch := first | assumption | omega | (simp only [zcat_0, zcat_i, zcat_l, zcat_r, zcat_t]; omega) | simp) only [e_X2_die_16, e_X2_die_17, e_X2_die_20, e_X2_die_21, e_X2_die_24, e_X2_die_25, e_X2_die_26, e_X2_die_27, e_X2_die_30, e_X2_die_31, e_X2_die_34, e_X2_die_35, e_X2_die_36, e_X2_die_37, e_X2_die_38, e_X2_die_39, e_X2_die_40, e_X2_die_43, e_X2_die_46, zpush_i, zpush_l, zpush_v, Option.bind_some, if_pos, if_neg, c2', w32_id]
theorem r_die (hk : isS k) (hj : isT j) (h0 : 0 ≤ t) (h4 : t < 4) (hC : CS w k S) (hT : TO w j P) (hW : WS0 P S) (hP : WP P) (hh : S.1 (13 + t) = 0) (hm : S.1 (17 + t) = 0) (hf : w32 (w k 10) = w k 10) : ∃ w', Cl (d + 3) 38 [(2, k), (2, j), (0, t)] 92 w = some ((9, 0), 92, w') ∧ CS w' k (sX P t (S, w k 10)).1 ∧ FR k w w' ∧ w' k 10 = (sX P t (S, w k 10)).2 := by
  obtain ⟨z0, zn, z1, y1, z2, y2, z3, y3, z4, y4, z5, y5, z6, y6, z7, y7, z8, y8, z9, y9⟩ := sSall hk
  obtain ⟨t0, tn, t1, u1, t2, u2, t3, u3, t4, u4, t5, u5, t6, u6⟩ := sTall hj
  obtain ⟨w1, q1, q2, q3, q4⟩ := r_go0 (d := d + 2) hk hj h0 h4 hC hT hW hP hh hm
  have C1 : CS (zup w1 (k + 5) t 3) k (su (sGo P t S).1 (13 + t) 7, (sGo P t S).2) := by
    obtain ⟨a1, a2, a3, a4⟩ := q2
    have e6 : w1 (k + 6) t = 3 := by
      rw [(a2 t h0 h4).2.2.1]
      unfold sGo
      dsimp only
      rw [su_self]
      split <;> rfl
    refine ⟨fun p' g0 g3 => ?_, fun t' g0 g4 => ?_, ?_, fun i hi => ?_⟩
    · obtain ⟨c1, c2, c3⟩ := a1 p' g0 g3
      simp (disch := omega) only [zup_off, su_ne, c1, c2, c3, and_self]
    · obtain ⟨c1, c2, c3, c4⟩ := a2 t' g0 g4
      by_cases e : t' = t
      · subst e
        simp (disch := omega) only [zup_off, zup_self, su_ne, su_self, c1, c4, e6]
        exact ⟨trivial, rfl, rfl, trivial⟩
      · simp (disch := omega) only [zup_off, su_ne, c1, c2, c3, c4, and_self]
    · simp (disch := omega) only [zup_off, a3]
    · simp (disch := omega) only [zup_off]
      exact a4 i hi
  have e10 : (zup w1 (k + 5) t 3) k 10 = w k 10 := by rw [zup_off _ (Or.inl (by omega)), q4]
  have F1 : FR k w (zup w1 (k + 5) t 3) := q3.up (by omega) (by omega)
  have W1 := hW.bye h0 h4 hh
  generalize hw2 : zup w1 (k + 5) t 3 = w2 at *
  obtain ⟨w3, r1, r2, r3, r4⟩ := r_die1 (d := d) (p := 0) hk hj h0 h4 C1 (hT.fr hj hk F1) W1 hP (by omega) (by rw [e10]; exact hf)
  rw [e10] at r2 r4
  have W3 : WS0 P (sDp P t 0 ((su (sGo P t S).1 (13 + t) 7, (sGo P t S).2), w k 10)).1 := WS0.dp (A := ((su (sGo P t S).1 (13 + t) 7, (sGo P t S).2), w k 10)) W1 hP (by omega)
  have f3 : w32 (w3 k 10) = w3 k 10 := by rw [r4]; exact sDp_w hf
  have F3 := F1.tr r3
  obtain ⟨w4, s1, s2, s3, s4⟩ := r_die1 (d := d) (p := 1) hk hj h0 h4 r2 (hT.fr hj hk F3) W3 hP (by omega) f3
  rw [r4] at s2 s4
  have W4 : WS0 P (sDp P t 1 (sDp P t 0 ((su (sGo P t S).1 (13 + t) 7, (sGo P t S).2), w k 10))).1 := WS0.dp W3 hP (by omega)
  have f4 : w32 (w4 k 10) = w4 k 10 := by rw [s4]; exact sDp_w (sDp_w hf)
  have F4 := F3.tr s3
  obtain ⟨w5, v1, v2, v3, v4⟩ := r_die1 (d := d) (p := 2) hk hj h0 h4 s2 (hT.fr hj hk F4) W4 hP (by omega) f4
  rw [s4] at v2 v4
  refine ⟨w5, ?_, v2, F4.tr v3, v4⟩
  show Rn (d + 3) 38 0 [(2, k), (2, j), (0, t), (9, 0)] [] 92 w = _
  simp only [Int.reduceAdd] at r1 s1 v1
  have en : Rn (d + 3) 38 15 [(2, k), (2, j), (0, t), (0, 3)] [] 92 w5 = some ((9, 0), 92, w5) := by
    simp (disch := first | assumption | omega | (simp only [zcat_0, zcat_i, zcat_l, zcat_r, zcat_t]; omega) | simp) only [e_X2_die_15, e_X2_die_16, e_X2_die_17, e_X2_die_49, zpush_i, zpush_l, zpush_v, Option.bind_some, if_pos, if_neg]
  simp (disch := first | assumption | omega | (simp only [zcat_0, zcat_i, zcat_l, zcat_r, zcat_t]; omega) | simp) only [e_X2_die_0, e_X2_die_1, e_X2_die_2, e_X2_die_3, e_X2_die_6, e_X2_die_7, e_X2_die_10, e_X2_die_11, e_X2_die_12, e_X2_die_13, e_X2_die_14, zpush_i, zpush_l, zpush_v, Option.bind_some, if_pos, if_neg, q1, hw2, r1, s1, v1, en]
end C9
