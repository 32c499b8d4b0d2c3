section C8
variable {d : Nat} {w : zW} {k j t p q : Int} {S : Sc} {P : Pg} {l : Int → Int}
theorem r_unlock (hk : isS k) (hj : isT j) (h0 : 0 ≤ t) (h4 : t < 4) (hC : CS w k S) (hT : TO w j P) (hW : WS P S) (hP : WP P) (hh : S.1 (13 + t) = 0) (hm : S.1 (17 + t) = 0) (hp : 0 ≤ p ∧ p < 3) (hf : w32 (w k 10) = w k 10) : ∃ w', Cl (d + 3) 37 [(2, k), (2, j), (0, t), (0, p)] 92 w = some ((9, 0), 92, w') ∧ CS w' k (if S.1 (3 + p) = t + 1 then sGo P t (sHd P p S) else sGo P t S) ∧ FR k w w' ∧ w' k 10 = w k 10 := by
  obtain ⟨z0, zn, z1, y1, z2, y2, z3, y3, z4, y4, z5, y5, z6, y6, z7, y7, z8, y8, z9, y9⟩ := sSall hk
  obtain ⟨t0, tn, t1, u1, t2, u2, t3, u3, t4, u4, t5, u5, t6, u6⟩ := sTall hj
  obtain ⟨-, c2, -⟩ := hC.1 p hp.1 hp.2
  obtain ⟨p1, p2, p3, p4, p5⟩ := hW.1.1 p hp.1 hp.2
  have hn : t ∉ S.2 := fun e => by
    have := (hW.1.2.2.2 t).mp e
    omega
  by_cases ho : S.1 (3 + p) = t + 1
  · rw [if_pos ho]
    have c2' : w (k + 2) p = t := by rw [c2]; unfold ownC; rw [if_neg (by omega)]; omega
    obtain ⟨w1, q1, q2, q3, q4⟩ := r_hand (d := d) hk hj hC hT hW.1 hP hp
    have hd0 := hW.2 p hp.1 hp.2 (by omega)
    have q5 : CS w1 k (sHd P p S) ∧ w1 k 10 = w k 10 := by
      by_cases e : sHo P p S = 4
      · exact q3 e
      · obtain ⟨r1, r2⟩ := q4 e
        have r2' := r2 hf
        rw [hd0, Int.add_zero, hf] at r2'
        refine ⟨r1.congr (fun i g0 g1 => ?_) rfl, r2'⟩
        by_cases ei : i = 6 + p
        · subst ei
          show _ = su (sHd P p S).1 (6 + p) 0 (6 + p)
          rw [su_self, sHd_pl hW.1 hP hp _ (by omega) (by omega), hd0]
        · exact (su_ne _ ei).symm
    obtain ⟨b1, b2, b3, b4⟩ := sHd_off (p := p) hW.1 hP hp h0 h4 hn
    obtain ⟨w2, g1, g2, g3, g4⟩ := r_go0 (d := d + 2) hk hj h0 h4 q5.1 (hT.fr hj hk q2) (hW.1.hd hP hp) hP (by rw [b2]; exact hh) (by rw [b3]; exact hm)
    refine ⟨w2, ?_, g2, q2.tr g3, by rw [g4, q5.2]⟩
    show Rn (d + 3) 37 0 [(2, k), (2, j), (0, t), (0, p)] [] 92 w = _
    simp (disch := first | assumption | omega | (simp only [zcat_0, zcat_i, zcat_l, zcat_r, zcat_t]; omega) | simp) only [e_X2_unlock_0, e_X2_unlock_1, e_X2_unlock_4, e_X2_unlock_5, e_X2_unlock_6, e_X2_unlock_7, e_X2_unlock_10, e_X2_unlock_11, e_X2_unlock_12, e_X2_unlock_13, e_X2_unlock_16, e_X2_unlock_17, e_X2_unlock_18, e_X2_unlock_19, e_X2_unlock_22, zpush_i, zpush_l, zpush_v, Option.bind_some, if_pos, if_neg, c2', q1, g1]
  · rw [if_neg ho]
    have c2' : w (k + 2) p ≠ t := by
      rw [c2]
      unfold ownC
      split <;> omega
    obtain ⟨w2, g1, g2, g3, g4⟩ := r_go0 (d := d + 2) hk hj h0 h4 hC hT hW.1 hP hh hm
    refine ⟨w2, ?_, g2, g3, g4⟩
    show Rn (d + 3) 37 0 [(2, k), (2, j), (0, t), (0, p)] [] 92 w = _
    simp (disch := first | assumption | omega | (simp only [zcat_0, zcat_i, zcat_l, zcat_r, zcat_t]; omega) | simp) only [e_X2_unlock_0, e_X2_unlock_1, e_X2_unlock_4, e_X2_unlock_5, e_X2_unlock_6, e_X2_unlock_7, e_X2_unlock_10, e_X2_unlock_11, e_X2_unlock_12, e_X2_unlock_13, e_X2_unlock_16, e_X2_unlock_17, e_X2_unlock_18, e_X2_unlock_19, e_X2_unlock_22, zpush_i, zpush_l, zpush_v, Option.bind_some, if_pos, if_neg, c2', g1]
theorem sL1_dead {a v : Int} (ha : 6 ≤ a ∧ a ≤ 8) (h0 : 0 ≤ t) : sL1 (su S.1 a v, S.2) l t = sL1 S l t := by
  unfold sL1
  dsimp only
  have e1 : su S.1 a v (13 + t) = S.1 (13 + t) := su_ne _ (by omega)
  simp only [e1]
  by_cases h : 4 ≤ S.1 (13 + t) ∧ S.1 (13 + t) ≤ 6
  · have e2 : su S.1 a v (S.1 (13 + t) - 1) = S.1 (S.1 (13 + t) - 1) := su_ne _ (by omega)
    simp only [e2]
  · rw [if_neg (fun z => h ⟨z.1, z.2.1⟩), if_neg (fun z => h ⟨z.1, z.2.1⟩)]
theorem sL4_dead {a v : Int} (ha : 6 ≤ a ∧ a ≤ 8) : sL4 (su S.1 a v, S.2) l = sL4 S l := by
  unfold sL4
  rw [sL1_dead ha (by omega), sL1_dead ha (by omega), sL1_dead ha (by omega), sL1_dead ha (by omega)]
theorem sHr_dead {s : Int → Int} {a v : Int} (ha : 6 ≤ a ∧ a ≤ 8) : ∀ (r : List Int) (h : Int), (∀ t, t ∈ r → 0 ≤ t) → sHr (su s a v) l p r h = sHr s l p r h
  | [], h, _ => rfl
  | t :: r, h, hr => by
    rw [sHr, sHr, su_ne _ (show 13 + t ≠ a by have := hr t (List.mem_cons_self ..); omega), sHr_dead ha r _ (fun x hx => hr x (List.mem_cons_of_mem _ hx))]
theorem sHo_dead {a v : Int} (ha : 6 ≤ a ∧ a ≤ 8) (hr : ∀ t, t ∈ S.2 → 0 ≤ t) : sHo P p (su S.1 a v, S.2) = sHo P p S := by
  unfold sHo sLd
  dsimp only
  rw [sL4_dead ha, sL4_dead ha, sL4_dead ha, sHr_dead ha _ _ hr]
theorem sHd_dead {a v : Int} (ha : 6 ≤ a ∧ a ≤ 8) (hp : 0 ≤ p ∧ p < 3) (hr : ∀ t, t ∈ S.2 → 0 ≤ t) : sHd P p (su S.1 a v, S.2) = (su (sHd P p S).1 a v, (sHd P p S).2) := by
  have sw : ∀ (s : Int → Int) (b u : Int), b ≠ a → su (su s a v) b u = su (su s b u) a v := by
    intro s b u hb
    funext x
    unfold su
    by_cases e : x = b
    · rw [if_pos e, if_neg (by omega), if_pos e]
    · rw [if_neg e]
      by_cases e2 : x = a
      · rw [if_pos e2, if_pos e2]
      · rw [if_neg e2, if_neg e2, if_neg e]
  unfold sHd
  rw [sHo_dead ha hr]
  split
  · dsimp only
    rw [sw _ _ _ (by omega)]
  · next hh =>
    have hin : 0 ≤ sHo P p S := by
      rcases sHo_in (P := P) (p := p) S with h | h
      · exact absurd h hh
      · exact hr _ h
    unfold sRl sGo
    dsimp only
    have e9 : ∀ s : Int → Int, su s a v (9 + sHo P p S) = s (9 + sHo P p S) := fun s => su_ne s (by omega)
    rw [sw _ _ _ (by omega)]
    simp only [e9]
    rw [sw _ _ _ (by omega), sw _ _ _ (by omega), sw _ _ _ (by omega)]
theorem WS0.bye (h : WS0 P S) (h0 : 0 ≤ t) (h4 : t < 4) (hh : S.1 (13 + t) = 0) : WS0 P (su (sGo P t S).1 (13 + t) 7, (sGo P t S).2) := by
  have g := h.go h0 h4 hh
  have e17 : (sGo P t S).1 (17 + t) = 0 := by
    unfold sGo
    simp (disch := omega) only [su_ne, su_self]
  refine ⟨fun p g0 g3 => ?_, fun u g0 g4 => ?_, g.2.2.1, fun u => ?_⟩
  · have := g.1 p g0 g3
    simp (disch := omega) only [su_ne]
    exact this
  · obtain ⟨f1, f2, f3, f4, f5, f6⟩ := g.2.1 u g0 g4
    by_cases e : u = t
    · subst e
      simp (disch := omega) only [su_ne, su_self]
      refine ⟨f1, f2, by omega, by omega, fun z => absurd rfl z, Or.inl e17⟩
    · simp (disch := omega) only [su_ne]
      exact ⟨f1, f2, f3, f4, f5, f6⟩
  · have hn : t ∉ S.2 := fun e => by
      have := (h.2.2.2 t).mp e
      omega
    by_cases e : u = t
    · subst e
      simp (disch := omega) only [su_self]
      constructor
      · intro z; exact absurd z hn
      · intro z; omega
    · by_cases hu : 13 + u = 13 + t
      · omega
      · simp (disch := omega) only [su_ne]
        exact g.2.2.2 u
end C8
