section C11
variable {t p q f : Int} {S S' : Sc} {P : Pg}
def OD (S : Sc) : Prop := ∀ p, 0 ≤ p → p < 3 → S.1 (3 + p) ≠ 0 → S.1 (6 + p) = 0
theorem OD.pl (h : OD S) (e : ∀ i, 3 ≤ i → i < 9 → S'.1 i = S.1 i) : OD S' := fun p h0 h3 => by
  rw [e _ (by omega) (by omega), e _ (by omega) (by omega)]
  exact h p h0 h3
theorem OD.go (h : OD S) (h0 : 0 ≤ t) : OD (sGo P t S) := h.pl (fun i _ hi => sGo_pl h0 i hi)
theorem OD.dp {A : Sf} (h : OD A.1) (hW : WS0 P A.1) (hP : WP P) (hp : 0 ≤ p ∧ p < 3) : OD (sDp P t p A).1 := by
  unfold sDp
  by_cases ho : A.1.1 (3 + p) = t + 1
  · rw [if_pos ho]
    by_cases hh : sHo P p A.1 = 4
    · rw [if_pos hh]
      intro p' h0 h3
      dsimp only
      by_cases e : p' = p
      · subst e
        rw [su_ne _ (by omega), sHd_ow hW hP hp, if_pos hh]
        intro z
        exact absurd rfl z
      · rw [su_ne _ (by omega), su_ne _ (by omega), sHd_pl hW hP hp _ (by omega) (by omega), sHd_pl hW hP hp _ (by omega) (by omega)]
        exact h p' h0 h3
    · rw [if_neg hh]
      intro p' h0 h3
      dsimp only
      by_cases e : p' = p
      · subst e
        rw [su_self]
        exact fun _ => rfl
      · rw [su_ne _ (by omega), su_ne _ (by omega), sHd_pl hW hP hp _ (by omega) (by omega), sHd_pl hW hP hp _ (by omega) (by omega)]
        exact h p' h0 h3
  · rw [if_neg ho]
    exact h
theorem sMv_pl (hW : WS0 P S) (i : Int) (hi : i < 9) : (sMv P p q S).1 i = S.1 i := by
  show (if 13 ≤ i ∧ i ≤ 16 ∧ (sWk P p 1 S).1 i = 1 + p then 1 + q else (sWk P p 1 S).1 i) = _
  rw [if_neg (by omega), sWk_pl 1 hW i hi]
theorem sMv_off (hW : WS0 P S) (h0 : 0 ≤ t) (h4 : t < 4) (hh : S.1 (13 + t) = 0) (hp : 0 ≤ p) : (sMv P p q S).1 (13 + t) = 0 ∧ (sMv P p q S).1 (17 + t) = S.1 (17 + t) := by
  have hn : t ∉ S.2 := fun e => by
    have := (hW.2.2.2 t).mp e
    omega
  obtain ⟨b1, b2, b3, b4⟩ := sWk_off (p := p) 1 hW h0 h4 hn
  constructor
  · show (if 13 ≤ 13 + t ∧ 13 + t ≤ 16 ∧ (sWk P p 1 S).1 (13 + t) = 1 + p then 1 + q else (sWk P p 1 S).1 (13 + t)) = 0
    rw [b2, if_neg (by omega), hh]
  · show (if 13 ≤ 17 + t ∧ 17 + t ≤ 16 ∧ (sWk P p 1 S).1 (17 + t) = 1 + p then 1 + q else (sWk P p 1 S).1 (17 + t)) = _
    rw [if_neg (by omega), b3]
theorem WS0.mid (h : WS0 P S) (h0 : 0 ≤ t) (h4 : t < 4) (hh : S.1 (13 + t) = 0) (hc : P 4 (5 * t + S.1 (9 + t)) = 98) : WS0 P (su S.1 (17 + t) 1, S.2) := by
  refine ⟨fun p g0 g3 => ?_, fun u g0 g4 => ?_, h.2.2.1, fun u => ?_⟩
  · have := h.1 p g0 g3
    simp (disch := omega) only [su_ne]
    exact this
  · obtain ⟨f1, f2, f3, f4, f5, f6⟩ := h.2.1 u g0 g4
    by_cases e : u = t
    · subst e
      simp (disch := omega) only [su_ne, su_self]
      exact ⟨f1, f2, f3, f4, f5, Or.inr ⟨trivial, hh, hc⟩⟩
    · simp (disch := omega) only [su_ne]
      exact ⟨f1, f2, f3, f4, f5, f6⟩
  · constructor
    · intro z
      have := (h.2.2.2 u).mp z
      dsimp only
      rw [su_ne _ (by omega)]
      exact this
    · intro z
      have z' : 0 ≤ u ∧ u < 4 ∧ 1 ≤ su S.1 (17 + t) 1 (13 + u) ∧ su S.1 (17 + t) 1 (13 + u) ≤ 6 := z
      rw [su_ne _ (by omega)] at z'
      exact (h.2.2.2 u).mpr z'
theorem WS.act (hW : WS P S) (hP : WP P) (h0 : 0 ≤ t) (h4 : t < 4) (hh : S.1 (13 + t) = 0) : WS P (sAct P t (S, f)).1 := by
  obtain ⟨f1, f2, f3, f4, f5, f6⟩ := hW.1.2.1 t h0 h4
  have f5' := f5 (by omega)
  have hlt : t < P 0 6 := by
    have := (hP.2.2.2.1 t h0 h4).2.2.2.2
    omega
  have hn : t ∉ S.2 := fun e => by
    have := (hW.1.2.2.2 t).mp e
    omega
  have hD : OD S := hW.2
  have hop := hP.2.2.2.2 t (S.1 (9 + t)) h0 h4 f1 f5'
  suffices H : WS0 P (sAct P t (S, f)).1 ∧ OD (sAct P t (S, f)).1 from H
  unfold sAct
  dsimp only
  generalize P 5 (5 * t + S.1 (9 + t)) = p at *
  generalize P 6 (5 * t + S.1 (9 + t)) = v at *
  have gd : WS0 P (sGo P t S) ∧ OD (sGo P t S) := ⟨hW.1.go h0 h4 hh, hD.go h0⟩
  have jd : ∀ u : Int, 1 ≤ u ∧ u ≤ 6 → WS0 P (sJn t u S) ∧ OD (sJn t u S) := fun u hu => ⟨hW.1.jn h0 h4 hh hu, hD.pl (fun i _ hi => by
    show su (su S.1 (17 + t) 0) (13 + t) u i = _
    rw [su_ne _ (by omega), su_ne _ (by omega)])⟩
  by_cases hx : P 4 (5 * t + S.1 (9 + t)) = 120
  · rw [if_pos hx]
    unfold sX
    have W1 := hW.1.bye h0 h4 hh
    have D1 : OD (su (sGo P t S).1 (13 + t) 7, (sGo P t S).2) := (hD.go (P := P) h0).pl (fun i _ hi => su_ne _ (by omega))
    have W2 : WS0 P (sDp P t 0 ((su (sGo P t S).1 (13 + t) 7, (sGo P t S).2), f)).1 := WS0.dp (A := ((su (sGo P t S).1 (13 + t) 7, (sGo P t S).2), f)) W1 hP (by omega)
    have D2 : OD (sDp P t 0 ((su (sGo P t S).1 (13 + t) 7, (sGo P t S).2), f)).1 := OD.dp (A := ((su (sGo P t S).1 (13 + t) 7, (sGo P t S).2), f)) D1 W1 hP (by omega)
    have W3 : WS0 P (sDp P t 1 (sDp P t 0 ((su (sGo P t S).1 (13 + t) 7, (sGo P t S).2), f))).1 := W2.dp hP (by omega)
    have D3 : OD (sDp P t 1 (sDp P t 0 ((su (sGo P t S).1 (13 + t) 7, (sGo P t S).2), f))).1 := D2.dp W2 hP (by omega)
    exact ⟨W3.dp hP (by omega), D3.dp W3 hP (by omega)⟩
  · rw [if_neg hx]
    rcases hop with e | ⟨p0, p2, hop⟩
    · exact absurd e hx
    have pp : 0 ≤ p ∧ p < 3 := by omega
    have vd : ∀ u : Int, 0 ≤ u ∧ u ≤ 3 → WS0 P (sGo P t (su S.1 p u, S.2)) ∧ OD (sGo P t (su S.1 p u, S.2)) := fun u hu => ⟨(hW.1.val pp hu).go h0 h4 (by show su S.1 p u _ = _; rw [su_ne _ (by omega), hh]), OD.go (hD.pl (fun i hi _ => su_ne _ (by omega))) h0⟩
    obtain ⟨n1, n2, n3, n4, n5⟩ := hW.1.1 p pp.1 pp.2
    by_cases c1 : P 4 (5 * t + S.1 (9 + t)) = 115
    · rw [if_pos c1]
      exact vd v (by omega)
    rw [if_neg c1]
    by_cases c2 : P 4 (5 * t + S.1 (9 + t)) = 105
    · rw [if_pos c2]
      exact vd _ (by split <;> omega)
    rw [if_neg c2]
    by_cases c3 : P 4 (5 * t + S.1 (9 + t)) = 119
    · rw [if_pos c3]
      split
      · exact jd _ (by omega)
      · exact gd
    rw [if_neg c3]
    by_cases c4 : P 4 (5 * t + S.1 (9 + t)) = 98
    · rw [if_pos c4]
      split
      · exact jd _ (by omega)
      · split
        · exact ⟨hW.1.mid h0 h4 hh c4, hD.pl (fun i _ hi => su_ne _ (by omega))⟩
        · exact gd
    rw [if_neg c4]
    by_cases c5 : P 4 (5 * t + S.1 (9 + t)) = 107
    · rw [if_pos c5]
      obtain ⟨b1, b2, b3, b4⟩ := sWk_off (p := p) v.toNat hW.1 h0 h4 hn
      exact ⟨(hW.1.wk _).go h0 h4 (by rw [b2, hh]), OD.go (hD.pl (fun i _ hi => sWk_pl _ hW.1 i hi)) h0⟩
    rw [if_neg c5]
    by_cases c6 : P 4 (5 * t + S.1 (9 + t)) = 113
    · rw [if_pos c6]
      exact ⟨(hW.1.mv (by omega) pp).go h0 h4 (sMv_off hW.1 h0 h4 hh pp.1).1, OD.go (hD.pl (fun i _ hi => sMv_pl hW.1 i hi)) h0⟩
    rw [if_neg c6]
    by_cases c7 : P 4 (5 * t + S.1 (9 + t)) = 108
    · rw [if_pos c7]
      unfold sLk
      dsimp only
      split
      · have W1 : WS0 P (su (su S.1 (3 + p) (t + 1)) (6 + p) 0, S.2) := (hW.1.own pp (u := t + 1) (by omega)).dead pp (Or.inl rfl)
        refine ⟨W1.go h0 h4 (by simp (disch := omega) only [su_ne]; exact hh), OD.go (fun p' g0 g3 => ?_) h0⟩
        dsimp only
        by_cases e : p' = p
        · subst e
          rw [su_self]
          exact fun _ => rfl
        · rw [su_ne _ (by omega), su_ne _ (by omega), su_ne _ (by omega), su_ne _ (by omega)]
          exact hD p' g0 g3
      · split
        · exact gd
        · exact jd _ (by omega)
    rw [if_neg c7]
    split
    · next ho =>
      obtain ⟨b1, b2, b3, b4⟩ := sHd_off (p := p) hW.1 hP pp h0 h4 hn
      refine ⟨(hW.1.hd hP pp).go h0 h4 (by rw [b2, hh]), OD.go (fun p' g0 g3 => ?_) h0⟩
      rw [sHd_pl hW.1 hP pp (6 + p') (by omega) (by omega)]
      by_cases e : p' = p
      · subst e
        intro _
        exact hD p' g0 g3 (by omega)
      · rw [sHd_pl hW.1 hP pp (3 + p') (by omega) (by omega)]
        exact hD p' g0 g3
    · exact gd
theorem sAct_w (hf : w32 f = f) : w32 (sAct P t (S, f)).2 = (sAct P t (S, f)).2 := by
  unfold sAct
  dsimp only
  split
  · exact sDp_w (sDp_w (sDp_w hf))
  iterate 6
    split
    · first | exact hf | (split <;> first | exact hf | (split <;> exact hf))
  split
  · unfold sLk
    dsimp only
    split
    · exact w32_w32 _
    · split <;> exact hf
  · split <;> exact hf
end C11
