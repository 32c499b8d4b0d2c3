section C7
variable {d : Nat} {w : zW} {k j t p q : Int} {S : Sc} {P : Pg} {l : Int → Int}
theorem CS.how (hC : CS w k S) (h0 : 0 ≤ t) (h4 : t < 4) {h : Int} (e : howC h = w (k + 5) t) : CS (zup w (k + 6) t (whC h)) k (su S.1 (13 + t) h, S.2) := by
  obtain ⟨a1, a2, a3, a4⟩ := hC
  refine ⟨fun p' g0 g3 => ?_, fun t' g0 g4 => ?_, ?_, fun i hi => ?_⟩
  · obtain ⟨c1, c2, c3⟩ := a1 p' g0 g3
    simp (disch := omega) only [zup_off, su_ne, c1, c2, c3, and_self]
  · obtain ⟨c1, c2, c3, c4⟩ := a2 t' g0 g4
    by_cases e' : t' = t
    · subst e'
      simp (disch := omega) only [zup_off, zup_self, su_ne, su_self, c1, c4, e, and_self]
    · simp (disch := omega) only [zup_off, su_ne, c1, c2, c3, c4, and_self]
  · simp (disch := omega) only [zup_off, a3]
  · simp (disch := omega) only [zup_off]
    exact a4 i hi
theorem r_take (hk : isS k) (h0 : 0 ≤ t) (hp : 0 ≤ p ∧ p < 3) (hC : CS w k S) (hd : S.1 (6 + p) = 0 ∨ S.1 (6 + p) = 1) (hf : w32 (w k 10) = w k 10) : ∃ w', Cl d 40 [(2, k), (0, t), (0, p)] 92 w = some ((9, 0), 92, w') ∧ CS w' k (su (su S.1 (3 + p) (t + 1)) (6 + p) 0, S.2) ∧ FR k w w' ∧ w' k 10 = w32 (w k 10 + S.1 (6 + p)) := by
  have ht := c_take (d := d) (t := t) (w := w) hk hp.1 hp.2
  have c3 : w (k + 3) p = S.1 (6 + p) := (hC.1 p hp.1 hp.2).2.2
  rw [c3] at ht
  generalize hw2 : zup (if S.1 (6 + p) = 1 then zup (zup w (k + 2) p t) k 10 (w32 (w k 10 + 1)) else zup w (k + 2) p t) (k + 3) p 0 = w2 at ht
  have g2 : ∀ a i, a ≠ k + 3 ∨ i ≠ p → a ≠ k ∨ i ≠ 10 → w2 a i = (zup w (k + 2) p t) a i := by
    intro a i n1 n2
    rw [← hw2, zup_off _ n1]
    split
    · rw [zup_off _ n2]
    · rfl
  have g3 : w2 (k + 3) p = 0 := by rw [← hw2, zup_self]
  have g4 : w2 k 10 = w32 (w k 10 + S.1 (6 + p)) := by
    rw [← hw2, zup_off _ (Or.inl (by omega))]
    split
    · next h1 => rw [zup_self, h1]
    · rw [zup_off _ (Or.inl (by omega)), show S.1 (6 + p) = 0 by omega, Int.add_zero, hf]
  have F2 : FR k w w2 := by
    intro a ha
    have : w2 a = (zup w (k + 2) p t) a := by
      funext i
      exact g2 a i (Or.inl (by omega)) (Or.inl (by omega))
    rw [this, zup_ne (by omega)]
  refine ⟨w2, ht, ?_, F2, g4⟩
  obtain ⟨a1, a2, a3, a4⟩ := hC
  have e1 : ownC (t + 1) = t := by
    unfold ownC
    rw [if_neg (by omega)]
    omega
  refine ⟨fun p' b0 b3 => ?_, fun t' b0 b4 => ?_, ?_, fun i hi => ?_⟩
  · obtain ⟨c1, c2, c3⟩ := a1 p' b0 b3
    by_cases e : p' = p
    · subst e
      rw [g3, g2 (k + 1) p' (Or.inl (by omega)) (Or.inl (by omega)), g2 (k + 2) p' (Or.inl (by omega)) (Or.inl (by omega))]
      simp (disch := omega) only [zup_off, zup_self, su_ne, su_self, c1, e1, and_self]
    · rw [g2 (k + 3) p' (Or.inr e) (Or.inl (by omega)), g2 (k + 1) p' (Or.inl (by omega)) (Or.inl (by omega)), g2 (k + 2) p' (Or.inl (by omega)) (Or.inl (by omega))]
      simp (disch := omega) only [zup_off, su_ne, c1, c2, c3, and_self]
  · obtain ⟨c1, c2, c3, c4⟩ := a2 t' b0 b4
    rw [g2 (k + 4) t' (Or.inl (by omega)) (Or.inl (by omega)), g2 (k + 5) t' (Or.inl (by omega)) (Or.inl (by omega)), g2 (k + 6) t' (Or.inl (by omega)) (Or.inl (by omega)), g2 (k + 7) t' (Or.inl (by omega)) (Or.inl (by omega))]
    simp (disch := omega) only [zup_off, su_ne, c1, c2, c3, c4, and_self]
  · rw [g2 k 9 (Or.inl (by omega)) (Or.inr (by omega))]
    simp (disch := omega) only [zup_off, a3]
  · rw [g2 (k + 8) i (Or.inl (by omega)) (Or.inl (by omega))]
    simp (disch := omega) only [zup_off]
    exact a4 i hi
/-- what a move has done to the threads before i -/
def mvS (S : Sc) (p q i : Int) : Sc := (fun x => if 13 ≤ x ∧ x < 13 + i ∧ S.1 x = 1 + p then 1 + q else S.1 x, S.2)
theorem r_move_l (hk : isS k) (hW : WS0 P S) (hp : 0 ≤ p ∧ p < 3) (hq : 0 ≤ q ∧ q < 3) : ∀ (n i : Nat) (w : zW), i + n = 4 → CS w k (mvS S p q i) → ∃ w', Rn (d + 2) 34 13 [(2, k), (2, j), (0, t), (0, p), (0, q), (0, (i : Int))] [] 92 w = Rn (d + 2) 34 45 [(2, k), (2, j), (0, t), (0, p), (0, q), (0, 4)] [] 92 w' ∧ CS w' k (mvS S p q 4) ∧ FR k w w' ∧ w' k 10 = w k 10 := by
  obtain ⟨z0, zn, z1, y1, z2, y2, z3, y3, z4, y4, z5, y5, z6, y6, z7, y7, z8, y8, z9, y9⟩ := sSall hk
  intro n
  induction n with
  | zero =>
    intro i w hi hC
    obtain rfl : i = 4 := by omega
    refine ⟨w, ?_, hC, FR.rf, rfl⟩
    simp (disch := first | assumption | omega | (simp only [zcat_0, zcat_i, zcat_l, zcat_r, zcat_t]; omega) | simp) only [e_X2_move_13, e_X2_move_15, e_X2_move_16, zpush_i, zpush_l, zpush_v, Option.bind_some, if_pos, if_neg]
    rfl
  | succ n ih =>
    intro i w hi hC
    have hx := (hW.2.1 i (by omega) (by omega))
    have e13 : (mvS S p q i).1 (13 + (i : Int)) = S.1 (13 + i) := by
      unfold mvS
      exact if_neg (by omega)
    have his := r_is1 (d := d) (p := p) hk (show (0 : Int) ≤ i by omega) (by omega) hC (by rw [e13]; omega) hp
    rw [e13] at his
    by_cases hh : S.1 (13 + (i : Int)) = 1 + p
    · rw [if_pos hh] at his
      have h5 := (hC.2.1 i (by omega) (by omega)).2.1
      rw [e13, hh] at h5
      have e1 : ∀ r : Int, 0 ≤ r → r < 3 → howC (1 + r) = 1 ∧ whC (1 + r) = r := by
        intro r r0 r3
        constructor
        · unfold howC; simp (disch := omega) only [if_pos, if_neg]
        · unfold whC; simp (disch := omega) only [if_pos, if_neg]; omega
      have C1 := hC.how (h := 1 + q) (show (0 : Int) ≤ i by omega) (by omega) (by rw [h5, (e1 p hp.1 hp.2).1, (e1 q hq.1 hq.2).1])
      rw [(e1 q hq.1 hq.2).2] at C1
      have C2 : CS (zup w (k + 6) i q) k (mvS S p q ((i + 1 : Nat) : Int)) := by
        refine C1.congr (fun x g0 g1 => ?_) rfl
        show (if 13 ≤ x ∧ x < 13 + ((i + 1 : Nat) : Int) ∧ S.1 x = 1 + p then 1 + q else S.1 x) = su (mvS S p q i).1 (13 + i) (1 + q) x
        by_cases e : x = 13 + i
        · subst e
          rw [su_self, if_pos ⟨by omega, by omega, hh⟩]
        · rw [su_ne _ e]
          show _ = (if 13 ≤ x ∧ x < 13 + (i : Int) ∧ S.1 x = 1 + p then 1 + q else S.1 x)
          by_cases e2 : 13 ≤ x ∧ x < 13 + (i : Int) ∧ S.1 x = 1 + p
          · rw [if_pos e2, if_pos ⟨e2.1, by omega, e2.2.2⟩]
          · rw [if_neg e2, if_neg (fun z => e2 ⟨z.1, by omega, z.2.2⟩)]
      obtain ⟨w', g1, g2, g3, g4⟩ := ih (i + 1) _ (by omega) C2
      refine ⟨w', ?_, g2, (FR.rf.up (by omega) (by omega)).tr g3, by rw [g4, zup_off _ (Or.inl (by omega))]⟩
      rw [← g1, show ((i + 1 : Nat) : Int) = (i : Int) + 1 by omega, e_X2_move_13]
      simp (disch := first | assumption | omega | (simp only [zcat_0, zcat_i, zcat_l, zcat_r, zcat_t]; omega) | simp) only [e_X2_move_15, e_X2_move_16, e_X2_move_19, e_X2_move_20, e_X2_move_22, e_X2_move_23, e_X2_move_24, e_X2_move_27, e_X2_move_30, e_X2_move_31, e_X2_move_34, e_X2_move_36, e_X2_move_38, e_X2_move_39, e_X2_move_42, zpush_i, zpush_l, zpush_v, Option.bind_some, if_pos, if_neg, his, w32_id]
    · rw [if_neg hh] at his
      have C2 : CS w k (mvS S p q ((i + 1 : Nat) : Int)) := by
        refine hC.congr (fun x g0 g1 => ?_) rfl
        show (if 13 ≤ x ∧ x < 13 + ((i + 1 : Nat) : Int) ∧ S.1 x = 1 + p then 1 + q else S.1 x) = (if 13 ≤ x ∧ x < 13 + (i : Int) ∧ S.1 x = 1 + p then 1 + q else S.1 x)
        by_cases e2 : 13 ≤ x ∧ x < 13 + (i : Int) ∧ S.1 x = 1 + p
        · rw [if_pos e2, if_pos ⟨e2.1, by omega, e2.2.2⟩]
        · rw [if_neg e2, if_neg]
          rintro ⟨z1, z2, z3⟩
          by_cases e : x = 13 + i
          · subst e; exact hh z3
          · exact e2 ⟨z1, by omega, z3⟩
      obtain ⟨w', g1, g2, g3, g4⟩ := ih (i + 1) _ (by omega) C2
      refine ⟨w', ?_, g2, g3, g4⟩
      rw [← g1, show ((i + 1 : Nat) : Int) = (i : Int) + 1 by omega, e_X2_move_13]
      simp (disch := first | assumption | omega | (simp only [zcat_0, zcat_i, zcat_l, zcat_r, zcat_t]; omega) | simp) only [e_X2_move_15, e_X2_move_16, e_X2_move_19, e_X2_move_20, e_X2_move_22, e_X2_move_23, e_X2_move_24, e_X2_move_27, e_X2_move_30, e_X2_move_31, e_X2_move_34, e_X2_move_36, e_X2_move_38, e_X2_move_39, e_X2_move_42, zpush_i, zpush_l, zpush_v, Option.bind_some, if_pos, if_neg, his, w32_id]
theorem r_move (hk : isS k) (hj : isT j) (h0 : 0 ≤ t) (h4 : t < 4) (hC : CS w k S) (hT : TO w j P) (hW : WS0 P S) (hP : WP P) (hh : S.1 (13 + t) = 0) (hm : S.1 (17 + t) = 0) (hp : 0 ≤ p ∧ p < 3) (hq : 0 ≤ q ∧ q < 3) : ∃ w', Cl (d + 3) 34 [(2, k), (2, j), (0, t), (0, p), (0, q)] 92 w = some ((9, 0), 92, w') ∧ CS w' k (sGo P t (sMv P p q S)) ∧ FR k w w' ∧ w' k 10 = w k 10 := by
  have hn : t ∉ S.2 := fun e => by
    have := (hW.2.2.2 t).mp e
    omega
  have hf := r_first (d := d) (p := p) hk hC hW hp
  obtain ⟨w1, q1, q2, q3, q4⟩ := r_wk1 (d := d + 1) (p := p) hk hj hC hT hW hP
  have W1 : WS0 P (sWk P p 1 S) := WS0.wk (p := p) 1 hW
  have q2' : CS w1 k (mvS (sWk P p 1 S) p q ((0 : Nat) : Int)) := by
    refine CS.congr (S := sWk P p 1 S) q2 (fun x g0 g1 => if_neg (by omega)) rfl
  obtain ⟨w2, g1, g2, g3, g4⟩ := r_move_l (d := d + 1) (j := j) (t := t) hk W1 hp hq 4 0 w1 rfl q2'
  have e : mvS (sWk P p 1 S) p q 4 = sMv P p q S := by
    unfold mvS sMv
    congr 1
    funext x
    by_cases e : 13 ≤ x ∧ x < 13 + 4 ∧ (sWk P p 1 S).1 x = 1 + p
    · rw [if_pos e, if_pos ⟨e.1, by omega, e.2.2⟩]
    · rw [if_neg e, if_neg (fun z => e ⟨z.1, by omega, z.2.2⟩)]
  rw [e] at g2
  obtain ⟨b1, b2, b3, b4⟩ := sWk_off (p := p) 1 hW h0 h4 hn
  obtain ⟨w3, v1, v2, v3, v4⟩ := r_go0 (d := d + 2) hk hj h0 h4 g2 ((hT.fr hj hk q3).fr hj hk g3) (hW.mv hq hp) hP (by show (if 13 ≤ 13 + t ∧ 13 + t ≤ 16 ∧ (sWk P p 1 S).1 (13 + t) = 1 + p then 1 + q else (sWk P p 1 S).1 (13 + t)) = 0; rw [b2, if_neg (by omega)]; exact hh) (by show (if 13 ≤ 17 + t ∧ 17 + t ≤ 16 ∧ (sWk P p 1 S).1 (17 + t) = 1 + p then 1 + q else (sWk P p 1 S).1 (17 + t)) = 0; rw [b3, if_neg (by omega)]; exact hm)
  refine ⟨w3, ?_, v2, (q3.tr g3).tr v3, by rw [v4, g4, q4]⟩
  show Rn (d + 3) 34 0 [(2, k), (2, j), (0, t), (0, p), (0, q), (9, 0)] [] 92 w = _
  obtain ⟨z0, zn, z1, y1, z2, y2, z3, y3, z4, y4, z5, y5, z6, y6, z7, y7, z8, y8, z9, y9⟩ := sSall hk
  obtain ⟨t0, tn, t1, u1, t2, u2, t3, u3, t4, u4, t5, u5, t6, u6⟩ := sTall hj
  have g1' : Rn (d + 3) 34 13 [(2, k), (2, j), (0, t), (0, p), (0, q), (0, 0)] [] 92 w1 = _ := g1
  simp (disch := first | assumption | omega | (simp only [zcat_0, zcat_i, zcat_l, zcat_r, zcat_t]; omega) | simp) only [e_X2_move_0, e_X2_move_1, e_X2_move_2, e_X2_move_3, e_X2_move_4, e_X2_move_7, e_X2_move_10, e_X2_move_11, e_X2_move_45, e_X2_move_46, e_X2_move_47, e_X2_move_48, e_X2_move_51, zpush_i, zpush_l, zpush_v, Option.bind_some, if_pos, if_neg, hf, q1, g1', v1]
theorem r_lock (hk : isS k) (hj : isT j) (h0 : 0 ≤ t) (h4 : t < 4) (hC : CS w k S) (hT : TO w j P) (hW : WS0 P S) (hP : WP P) (hh : S.1 (13 + t) = 0) (hm : S.1 (17 + t) = 0) (hp : 0 ≤ p ∧ p < 3) (hr : S.2.length < 4) (hn : t < P 0 6) (hf : w32 (w k 10) = w k 10) : ∃ w', Cl (d + 3) 35 [(2, k), (2, j), (0, t), (0, p)] 92 w = some ((9, 0), 92, w') ∧ CS w' k (sLk P t p (S, w k 10)).1 ∧ FR k w w' ∧ w' k 10 = (sLk P t p (S, w k 10)).2 := by
  obtain ⟨z0, zn, z1, y1, z2, y2, z3, y3, z4, y4, z5, y5, z6, y6, z7, y7, z8, y8, z9, y9⟩ := sSall hk
  obtain ⟨t0, tn, t1, u1, t2, u2, t3, u3, t4, u4, t5, u5, t6, u6⟩ := sTall hj
  obtain ⟨-, c2, -⟩ := hC.1 p hp.1 hp.2
  obtain ⟨p1, p2, p3, p4, p5⟩ := hW.1 p hp.1 hp.2
  have hP2 := hP.2.1
  unfold sLk
  dsimp only
  by_cases ho : S.1 (3 + p) = 0
  · rw [if_pos ho]
    obtain ⟨w1, q1, q2, q3, q4⟩ := r_take (d := d + 2) hk h0 hp hC p5 hf
    have W1 : WS0 P (su (su S.1 (3 + p) (t + 1)) (6 + p) 0, S.2) := (hW.own hp (u := t + 1) (by omega)).dead hp (Or.inl rfl)
    obtain ⟨w2, g1, g2, g3, g4⟩ := r_go0 (d := d + 2) hk hj h0 h4 q2 (hT.fr hj hk q3) W1 hP (by simp (disch := omega) only [su_ne]; exact hh) (by simp (disch := omega) only [su_ne]; exact hm)
    refine ⟨w2, ?_, g2, q3.tr g3, by rw [g4, q4]⟩
    show Rn (d + 3) 35 0 [(2, k), (2, j), (0, t), (0, p)] [] 92 w = _
    rw [ho] at c2
    have c2' : w (k + 2) p = 4 := c2
    simp (disch := first | assumption | omega | (simp only [zcat_0, zcat_i, zcat_l, zcat_r, zcat_t]; omega) | simp) only [e_X2_lock_0, e_X2_lock_1, e_X2_lock_4, e_X2_lock_5, e_X2_lock_6, e_X2_lock_7, e_X2_lock_10, e_X2_lock_11, e_X2_lock_12, e_X2_lock_13, e_X2_lock_16, e_X2_lock_17, e_X2_lock_18, e_X2_lock_19, e_X2_lock_22, e_X2_lock_25, e_X2_lock_26, e_X2_lock_27, e_X2_lock_30, e_X2_lock_31, e_X2_lock_32, e_X2_lock_33, e_X2_lock_36, e_X2_lock_39, e_X2_lock_40, e_X2_lock_41, e_X2_lock_42, e_X2_lock_45, e_X2_lock_48, e_X2_lock_49, e_X2_lock_50, e_X2_lock_51, e_X2_lock_52, e_X2_lock_55, zpush_i, zpush_l, zpush_v, Option.bind_some, if_pos, if_neg, c2', q1, g1]
  · rw [if_neg ho]
    have c2' : w (k + 2) p = S.1 (3 + p) - 1 := by rw [c2]; unfold ownC; rw [if_neg ho]
    have hl := r_leads (d := d) (t := t) hk hC hW hP h0 h4 (o := S.1 (3 + p) - 1) (Or.inr (by omega))
    by_cases hx : sLt S t 4 (S.1 (3 + p) - 1) = true
    · rw [if_pos hx]
      rw [if_pos hx] at hl
      obtain ⟨w2, g1, g2, g3, g4⟩ := r_go0 (d := d + 2) hk hj h0 h4 hC hT hW hP hh hm
      refine ⟨w2, ?_, g2, g3, g4⟩
      show Rn (d + 3) 35 0 [(2, k), (2, j), (0, t), (0, p)] [] 92 w = _
      simp (disch := first | assumption | omega | (simp only [zcat_0, zcat_i, zcat_l, zcat_r, zcat_t]; omega) | simp) only [e_X2_lock_0, e_X2_lock_1, e_X2_lock_4, e_X2_lock_5, e_X2_lock_6, e_X2_lock_7, e_X2_lock_10, e_X2_lock_11, e_X2_lock_12, e_X2_lock_13, e_X2_lock_16, e_X2_lock_17, e_X2_lock_18, e_X2_lock_19, e_X2_lock_22, e_X2_lock_25, e_X2_lock_26, e_X2_lock_27, e_X2_lock_30, e_X2_lock_31, e_X2_lock_32, e_X2_lock_33, e_X2_lock_36, e_X2_lock_39, e_X2_lock_40, e_X2_lock_41, e_X2_lock_42, e_X2_lock_45, e_X2_lock_48, e_X2_lock_49, e_X2_lock_50, e_X2_lock_51, e_X2_lock_52, e_X2_lock_55, zpush_i, zpush_l, zpush_v, Option.bind_some, if_pos, if_neg, c2', hl, g1]
    · rw [if_neg hx]
      rw [if_neg hx] at hl
      obtain ⟨w1, q1, q2, q3, q4⟩ := r_join (d := d + 2) hk h0 h4 hC hr hp (Or.inr ⟨rfl, rfl⟩)
      refine ⟨w1, ?_, q2, q3, q4⟩
      show Rn (d + 3) 35 0 [(2, k), (2, j), (0, t), (0, p)] [] 92 w = _
      simp (disch := first | assumption | omega | (simp only [zcat_0, zcat_i, zcat_l, zcat_r, zcat_t]; omega) | simp) only [e_X2_lock_0, e_X2_lock_1, e_X2_lock_4, e_X2_lock_5, e_X2_lock_6, e_X2_lock_7, e_X2_lock_10, e_X2_lock_11, e_X2_lock_12, e_X2_lock_13, e_X2_lock_16, e_X2_lock_17, e_X2_lock_18, e_X2_lock_19, e_X2_lock_22, e_X2_lock_25, e_X2_lock_26, e_X2_lock_27, e_X2_lock_30, e_X2_lock_31, e_X2_lock_32, e_X2_lock_33, e_X2_lock_36, e_X2_lock_39, e_X2_lock_40, e_X2_lock_41, e_X2_lock_42, e_X2_lock_45, e_X2_lock_48, e_X2_lock_49, e_X2_lock_50, e_X2_lock_51, e_X2_lock_52, e_X2_lock_55, zpush_i, zpush_l, zpush_v, Option.bind_some, if_pos, if_neg, c2', hl, q1]
end C7
