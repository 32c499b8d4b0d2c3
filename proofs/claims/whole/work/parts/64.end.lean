/-! EVERY STEP GOES ON: what can be counted grows, so an end is always found -/
def ph (S : Sc) (t : Int) : Int := 4 * S.1 (9 + t) + (if 1 ≤ S.1 (13 + t) ∧ S.1 (13 + t) ≤ 6 then 2 else S.1 (17 + t))
def GE (S S' : Sc) : Prop := ∀ t, 0 ≤ t → t < 4 → ph S t ≤ ph S' t
section E1
variable {t p q f : Int} {S S' S'' : Sc} {P : Pg} {L : BL}
theorem GE.rf : GE S S := fun _ _ _ => Int.le_refl _
theorem GE.tr (h : GE S S') (h' : GE S' S'') : GE S S'' := fun t h0 h4 => Int.le_trans (h t h0 h4) (h' t h0 h4)
theorem GE.of (h : ∀ i, 9 ≤ i → i < 21 → S'.1 i = S.1 i) : GE S S' := fun t h0 h4 => by
  unfold ph
  rw [h (9 + t) (by omega) (by omega), h (13 + t) (by omega) (by omega), h (17 + t) (by omega) (by omega)]
  exact Int.le_refl _
theorem ph_go (hW : WS0 P S) (h0 : 0 ≤ t) (h4 : t < 4) : ph S t < ph (sGo P t S) t := by
  obtain ⟨f1, f2, f3, f4, f5, f6⟩ := hW.2.1 t h0 h4
  unfold ph sGo
  simp (disch := omega) only [su_ne, su_self]
  split <;> split <;> split <;> omega
theorem GE.go (hW : WS0 P S) (h0 : 0 ≤ t) (h4 : t < 4) : GE S (sGo P t S) := fun u u0 u4 => by
  by_cases e : u = t
  · subst e
    have := ph_go hW h0 h4
    omega
  · unfold ph sGo
    simp (disch := omega) only [su_ne]
    exact Int.le_refl _
theorem GE.rl (hW : WS0 P S) (h0 : 0 ≤ t) (h4 : t < 4) : GE S (sRl P t S) := fun u u0 u4 => by
  have h := GE.go (P := P) hW h0 h4 u u0 u4
  exact h
theorem GE.wk : ∀ (n : Nat) {S : Sc}, WS0 P S → GE S (sWk P p n S)
  | 0, _, _ => GE.rf
  | n + 1, S, hW => by
    rw [sWk]
    split
    · exact GE.wk n hW
    · next h =>
      rcases sFa_in (s := S.1) (p := p) S.2 with c | c
      · exact absurd c h
      · have hm := (hW.2.2.2 _).mp c
        exact (GE.rl (P := P) hW hm.1 hm.2.1).tr (GE.wk n (hW.rl c))
theorem GE.mv (hW : WS0 P S) (hp : 0 ≤ p ∧ p < 3) (hq : 0 ≤ q ∧ q < 3) : GE S (sMv P p q S) := by
  refine (GE.wk (P := P) (p := p) 1 hW).tr (fun t h0 h4 => ?_)
  unfold ph
  have e9 : (sMv P p q S).1 (9 + t) = (sWk P p 1 S).1 (9 + t) := if_neg (by omega)
  have e17 : (sMv P p q S).1 (17 + t) = (sWk P p 1 S).1 (17 + t) := if_neg (by omega)
  rw [e9, e17]
  by_cases c : (sWk P p 1 S).1 (13 + t) = 1 + p
  · have e13 : (sMv P p q S).1 (13 + t) = 1 + q := if_pos ⟨by omega, by omega, c⟩
    rw [e13, c, if_pos (by omega), if_pos (by omega)]
    exact Int.le_refl _
  · have e13 : (sMv P p q S).1 (13 + t) = (sWk P p 1 S).1 (13 + t) := if_neg (fun z => c z.2.2)
    rw [e13]
    exact Int.le_refl _
theorem GE.hd (hW : WS0 P S) (hP : WP P) (hp : 0 ≤ p ∧ p < 3) : GE S (sHd P p S) := by
  unfold sHd
  split
  · exact GE.of (fun i h0 _ => su_ne _ (by omega))
  · next h =>
    rcases sHo_in (P := P) (p := p) S with c | c
    · exact absurd c h
    · obtain ⟨t0, tn, t4⟩ := row_lt hW hP c
      have W1 : WS0 P (su S.1 (3 + p) (sHo P p S + 1), S.2) := hW.own hp (by omega)
      exact (GE.of (S' := (su S.1 (3 + p) (sHo P p S + 1), S.2)) (fun i h0 _ => su_ne _ (by omega))).tr (GE.rl W1 t0 t4)
theorem GE.dp {A : Sf} (hW : WS0 P A.1) (hP : WP P) (hp : 0 ≤ p ∧ p < 3) : GE A.1 (sDp P t p A).1 := by
  unfold sDp
  split
  · split
    · exact (GE.hd hW hP hp).tr (GE.of (fun i h0 _ => su_ne _ (by omega)))
    · exact (GE.hd hW hP hp).tr (GE.of (fun i h0 _ => su_ne _ (by omega)))
  · exact GE.rf
theorem ph_act (hW : WS P S) (hP : WP P) (h0 : 0 ≤ t) (h4 : t < 4) (hh : S.1 (13 + t) = 0) : GE S (sAct P t (S, f)).1 ∧ ph S t < ph (sAct P t (S, f)).1 t := by
  obtain ⟨f1, f2, f3, f4, f5, f6⟩ := hW.1.2.1 t h0 h4
  have f5' := f5 (by omega)
  have hn : t ∉ S.2 := fun e => by
    have := (hW.1.2.2.2 t).mp e
    omega
  have hop := hP.2.2.2.2 t (S.1 (9 + t)) h0 h4 f1 f5'
  have hlt : t < P 0 6 := by
    have := (hP.2.2.2.1 t h0 h4).2.2.2.2
    omega
  have gs : ∀ {S1 : Sc}, WS0 P S1 → GE S S1 → GE S (sGo P t S1) ∧ ph S t < ph (sGo P t S1) t := fun hW1 hg => ⟨hg.tr (GE.go hW1 h0 h4), by
    have a := hg t h0 h4
    have b := ph_go hW1 h0 h4
    omega⟩
  have jn : ∀ u : Int, 1 ≤ u ∧ u ≤ 6 → GE S (sJn t u S) ∧ ph S t < ph (sJn t u S) t := fun u hu => by
    have e : ph S t < ph (sJn t u S) t := by
      unfold ph sJn
      simp (disch := omega) only [su_ne, su_self, if_pos hu]
      rw [hh, if_neg (by omega)]
      omega
    refine ⟨fun v v0 v4 => ?_, e⟩
    by_cases c : v = t
    · subst c; omega
    · unfold ph sJn
      simp (disch := omega) only [su_ne]
      exact Int.le_refl _
  have g1 := gs hW.1 GE.rf
  unfold sAct
  dsimp only
  generalize P 5 (5 * t + S.1 (9 + t)) = p at *
  generalize P 6 (5 * t + S.1 (9 + t)) = v at *
  by_cases hx : P 4 (5 * t + S.1 (9 + t)) = 120
  · rw [if_pos hx]
    unfold sX
    have W1 := hW.1.bye h0 h4 hh
    have e7 : ∀ u, 0 ≤ u → u < 4 → ph (su (sGo P t S).1 (13 + t) 7, (sGo P t S).2) u = ph (sGo P t S) u := fun u u0 u4 => by
      by_cases c : u = t
      · subst c
        unfold ph sGo
        simp (disch := omega) only [su_ne, su_self]
        rw [if_neg (by omega)]
        split
        · rw [if_neg (by omega)]
        · rw [if_neg (by omega)]
      · unfold ph
        simp (disch := omega) only [su_ne]
    have G1 : GE S (su (sGo P t S).1 (13 + t) 7, (sGo P t S).2) := fun u u0 u4 => by rw [e7 u u0 u4]; exact g1.1 u u0 u4
    have s1 : ph S t < ph (su (sGo P t S).1 (13 + t) 7, (sGo P t S).2) t := by rw [e7 t h0 h4]; exact g1.2
    have W2 : WS0 P (sDp P t 0 ((su (sGo P t S).1 (13 + t) 7, (sGo P t S).2), f)).1 := WS0.dp (A := ((su (sGo P t S).1 (13 + t) 7, (sGo P t S).2), f)) W1 hP (by omega)
    have W3 : WS0 P (sDp P t 1 (sDp P t 0 ((su (sGo P t S).1 (13 + t) 7, (sGo P t S).2), f))).1 := W2.dp hP (by omega)
    have D1 : GE (su (sGo P t S).1 (13 + t) 7, (sGo P t S).2) (sDp P t 0 ((su (sGo P t S).1 (13 + t) 7, (sGo P t S).2), f)).1 := GE.dp (A := ((su (sGo P t S).1 (13 + t) 7, (sGo P t S).2), f)) W1 hP (by omega)
    have D2 : GE _ (sDp P t 1 (sDp P t 0 ((su (sGo P t S).1 (13 + t) 7, (sGo P t S).2), f))).1 := GE.dp W2 hP (by omega)
    have D3 : GE _ (sDp P t 2 (sDp P t 1 (sDp P t 0 ((su (sGo P t S).1 (13 + t) 7, (sGo P t S).2), f)))).1 := GE.dp W3 hP (by omega)
    have D := (D1.tr D2).tr D3
    exact ⟨G1.tr D, Int.lt_of_lt_of_le s1 (D t h0 h4)⟩
  · rw [if_neg hx]
    rcases hop with e | ⟨p0, p2, hop⟩
    · exact absurd e hx
    have pp : 0 ≤ p ∧ p < 3 := by omega
    have vd : ∀ u : Int, 0 ≤ u ∧ u ≤ 3 → GE S (sGo P t (su S.1 p u, S.2)) ∧ ph S t < ph (sGo P t (su S.1 p u, S.2)) t := fun u hu => gs (hW.1.val pp hu) (GE.of (fun i hi _ => su_ne _ (by omega)))
    obtain ⟨n1, n2, n3, n4, n5⟩ := hW.1.1 p pp.1 pp.2
    by_cases c1 : P 4 (5 * t + S.1 (9 + t)) = 115
    · rw [if_pos c1]
      exact vd v (by omega)
    rw [if_neg c1]
    by_cases c2 : P 4 (5 * t + S.1 (9 + t)) = 105
    · rw [if_pos c2]
      exact vd _ (by split <;> omega)
    rw [if_neg c2]
    by_cases c3 : P 4 (5 * t + S.1 (9 + t)) = 119
    · rw [if_pos c3]
      split
      · exact jn _ (by omega)
      · exact g1
    rw [if_neg c3]
    by_cases c4 : P 4 (5 * t + S.1 (9 + t)) = 98
    · rw [if_pos c4]
      split
      · exact jn _ (by omega)
      · next hm =>
        split
        · have e : ph S t < ph (su S.1 (17 + t) 1, S.2) t := by
            unfold ph
            simp (disch := omega) only [su_ne, su_self]
            rw [hh, if_neg (by omega), if_neg (by omega)]
            omega
          refine ⟨fun u u0 u4 => ?_, e⟩
          by_cases c : u = t
          · subst c; exact Int.le_of_lt e
          · unfold ph
            simp (disch := omega) only [su_ne]
            exact Int.le_refl _
        · exact g1
    rw [if_neg c4]
    by_cases c5 : P 4 (5 * t + S.1 (9 + t)) = 107
    · rw [if_pos c5]
      exact gs (hW.1.wk _) (GE.wk _ hW.1)
    rw [if_neg c5]
    by_cases c6 : P 4 (5 * t + S.1 (9 + t)) = 113
    · rw [if_pos c6]
      exact gs (hW.1.mv (by omega) pp) (GE.mv hW.1 pp (by omega))
    rw [if_neg c6]
    by_cases c7 : P 4 (5 * t + S.1 (9 + t)) = 108
    · rw [if_pos c7]
      unfold sLk
      dsimp only
      split
      · exact gs ((hW.1.own pp (u := t + 1) (by omega)).dead pp (Or.inl rfl)) (GE.of (fun i hi _ => by
          show su (su S.1 (3 + p) (t + 1)) (6 + p) 0 i = _
          rw [su_ne _ (by omega), su_ne _ (by omega)]))
      · split
        · exact g1
        · exact jn _ (by omega)
    rw [if_neg c7]
    split
    · exact gs (hW.1.hd hP pp) (GE.hd hW.1 hP pp)
    · exact g1
/-- what comes of those before i is there -/
def CLO (P : Pg) (L : BL) (i : Nat) : Prop := ∀ j : Nat, j < i → ∀ t : Nat, t < 4 → (eS L j).1 (13 + t) = 0 → hasC L (packC (sAct P t (eS L j, 0)).1) = true
theorem hasC_mono {L L' : BL} (hl : L.length ≤ L'.length) (hg : ∀ j : Nat, j < L.length → L'.getD j e00 = L.getD j e00) {x : Int} (h : hasC L x = true) : hasC L' x = true := by
  obtain ⟨j, hj, e⟩ := hasC_iff.mp h
  refine hasC_iff.mpr ⟨j, by omega, ?_⟩
  unfold eS at e ⊢
  rw [hg j hj]
  exact e
theorem aCome_has {e : Ent} (h : (aCome L e).length ≤ 3000) : hasC (aCome L e) (packC e.1) = true := by
  unfold aCome at h ⊢
  split
  · next c => exact c
  · next c =>
    rw [if_neg c] at h
    split
    · exact hasC_iff.mpr ⟨L.length, by simp, by rw [eS_at]⟩
    · next c2 =>
      rw [if_neg c2] at h
      omega
theorem aTs_clo {i : Nat} (hi : i < L.length) : ∀ t : Nat, t ≤ 4 → (aTs P L i t).length ≤ 3000 → ∀ u : Nat, u < t → (eS L i).1 (13 + u) = 0 → hasC (aTs P L i t) (packC (sAct P u (eS L i, 0)).1) = true
  | 0, _, _, u, hu, _ => absurd hu (Nat.not_lt_zero _)
  | t + 1, h4, hl, u, hu, hh => by
    have es : eS (aTs P L i t) i = eS L i := by unfold eS; rw [aTs_get hi t]
    have hlt : (aTs P L i t).length ≤ (aTs P L i (t + 1)).length := aT_len
    by_cases c : u = t
    · subst c
      rw [aTs] at hl ⊢
      unfold aT at hl ⊢
      rw [es] at hl ⊢
      rw [if_pos hh] at hl ⊢
      exact aCome_has hl
    · have ih := aTs_clo hi t (by omega) (by omega) u (by omega) hh
      exact hasC_mono hlt (fun j hj => aT_get hj) ih
theorem aX_len : ∀ (f i : Nat) (L : BL), L.length ≤ (aX P f i L).length
  | 0, _, _ => Nat.le_refl _
  | f + 1, i, L => by
    rw [aX]
    split
    · exact Nat.le_trans (aTs_len 4) (aX_len f (i + 1) _)
    · exact Nat.le_refl _
theorem aX_clo : ∀ (f i : Nat) (L : BL), i + f = 3001 → i ≤ L.length → CLO P L i → (aX P f i L).length ≤ 3000 → CLO P (aX P f i L) (aX P f i L).length
  | 0, i, L, hi, hl, hC, h => by
    have h' : L.length ≤ 3000 := h
    omega
  | f + 1, i, L, hi, hl, hC, h => by
    rw [aX] at h ⊢
    by_cases c : i < L.length ∧ L.length ≤ 3000
    · rw [if_pos c] at h ⊢
      have h2 : (aTs P L i 4).length ≤ 3000 := Nat.le_trans (aX_len f (i + 1) _) h
      refine aX_clo f (i + 1) _ (by omega) (Nat.lt_of_lt_of_le c.1 (aTs_len 4)) (fun j hj t ht hh => ?_) h
      have es : eS (aTs P L i 4) j = eS L j := by unfold eS; rw [aTs_get (by omega) 4]
      rw [es] at hh ⊢
      by_cases e : j = i
      · subst e
        exact aTs_clo c.1 4 (by omega) h2 t ht hh
      · exact hasC_mono (aTs_len 4) (fun j hj => aTs_get hj 4) (hC j (by omega) t ht hh)
    · rw [if_neg c] at h ⊢
      intro j hj
      exact hC j (by omega)
theorem ph_in (hP : WP P) (hW : WS0 P S) (h0 : 0 ≤ t) (h4 : t < 4) : 0 ≤ ph S t ∧ ph S t ≤ 22 := by
  obtain ⟨f1, f2, f3, f4, f5, f6⟩ := hW.2.1 t h0 h4
  have := hP.2.2.2.1 t h0 h4
  unfold ph
  split <;> omega
theorem ph_se (h : SE S S') (h0 : 0 ≤ t) (h4 : t < 4) : ph S' t = ph S t := by
  unfold ph
  rw [h.1 (9 + t) (by omega) (by omega), h.1 (13 + t) (by omega) (by omega), h.1 (17 + t) (by omega) (by omega)]
def phs (S : Sc) : Int := ph S 0 + ph S 1 + ph S 2 + ph S 3
theorem end_l (hP : WP P) (hL : LG P L) (hC : CLO P L L.length) : ∀ (m j : Nat), j < L.length → 88 - phs (eS L j) < m → ∃ i : Nat, i < L.length ∧ bEnd (eS L i) := by
  intro m
  induction m with
  | zero =>
    intro j hj h
    exfalso
    have hW := (hL.2.1 j hj).1
    have a0 := ph_in (t := 0) hP hW (by omega) (by omega)
    have a1 := ph_in (t := 1) hP hW (by omega) (by omega)
    have a2 := ph_in (t := 2) hP hW (by omega) (by omega)
    have a3 := ph_in (t := 3) hP hW (by omega) (by omega)
    unfold phs at h
    omega
  | succ m ih =>
    intro j hj h
    by_cases hE : bEnd (eS L j)
    · exact ⟨j, hj, hE⟩
    have hW := hL.2.1 j hj
    have hex : ∃ t : Nat, t < 4 ∧ (eS L j).1 (13 + t) = 0 := by
      by_cases c0 : (eS L j).1 13 = 0
      · exact ⟨0, by omega, c0⟩
      by_cases c1 : (eS L j).1 14 = 0
      · exact ⟨1, by omega, c1⟩
      by_cases c2 : (eS L j).1 15 = 0
      · exact ⟨2, by omega, c2⟩
      by_cases c3 : (eS L j).1 16 = 0
      · exact ⟨3, by omega, c3⟩
      exact absurd ⟨c0, c1, c2, c3⟩ hE
    clear hE
    obtain ⟨t, ht, hh⟩ := hex
    obtain ⟨j', hj', e⟩ := hasC_iff.mp (hC j hj t ht hh)
    have hW' := hL.2.1 j' hj'
    have WA := hW.act (f := 0) hP (show (0 : Int) ≤ t by omega) (by omega) hh
    have se := packC_inj hP WA.1 hW'.1 e.symm
    obtain ⟨g1, g2⟩ := ph_act (f := 0) hW hP (show (0 : Int) ≤ t by omega) (by omega) hh
    have b0 := g1 0 (by omega) (by omega)
    have b1 := g1 1 (by omega) (by omega)
    have b2 := g1 2 (by omega) (by omega)
    have b3 := g1 3 (by omega) (by omega)
    rw [← ph_se se (by omega) (by omega)] at b0 b1 b2 b3 g2
    refine ih j' hj' ?_
    unfold phs at h ⊢
    have : t = 0 ∨ t = 1 ∨ t = 2 ∨ t = 3 := by omega
    rcases this with rfl | rfl | rfl | rfl
    · have g2' : ph (eS L j) 0 < ph (eS L j') 0 := g2
      omega
    · have g2' : ph (eS L j) 1 < ph (eS L j') 1 := g2
      omega
    · have g2' : ph (eS L j) 2 < ph (eS L j') 2 := g2
      omega
    · have g2' : ph (eS L j) 3 < ph (eS L j') 3 := g2
      omega
theorem aF_end (hP : WP P) (hW : WS P S) (hl : (aF P S).length ≤ 3000) : ∃ i : Nat, i < (aF P S).length ∧ bEnd (eS (aF P S) i) := by
  have hL : LG P (aF P S) := LG.x hP 3001 0 (LG.one hW)
  have h0 : 0 < (aF P S).length := Nat.lt_of_lt_of_le (by simp) (aX_len (P := P) 3001 0 [(S, -9, -9, 0)])
  have hC : CLO P (aF P S) (aF P S).length := aX_clo 3001 0 [(S, -9, -9, 0)] rfl (by simp) (fun j hj => absurd hj (Nat.not_lt_zero _)) hl
  exact end_l hP hL hC (88 - phs (eS (aF P S) 0)).toNat.succ 0 h0 (by omega)
theorem aWs_ends (L : BL) {j : Nat} (hE : bEnd (eS L j)) : ∀ i : Nat, j < i → 0 < aWs L i 0
  | 0, h => absurd h (Nat.not_lt_zero _)
  | i + 1, h => by
    have hI := AI.all L i
    have o : aWo (eS L i) (aWs L i) 0 = aWs L i 0 := by
      unfold aWo
      simp (disch := omega) only [su_ne]
    have hb : aWb (eS L i) i (aWs L i) 0 = if bEnd (eS L i) then aWs L i 0 + 1 else aWs L i 0 := by
      unfold aWb
      split
      · unfold aWe
        simp (disch := omega) only [su_ne, su_self]
        rw [o]
      · exact o
    have hw : aWs L (i + 1) 0 = aWb (eS L i) i (aWs L i) 0 := by
      rw [aWs]
      unfold aW
      split
      · unfold aWk
        simp (disch := omega) only [su_ne]
      · rfl
    rw [hw, hb]
    by_cases c : j = i
    · subst c
      rw [if_pos hE]
      have := hI.1
      omega
    · have ih := aWs_ends L hE i (by omega)
      split <;> omega
theorem aF_ends (hP : WP P) (hW : WS P S) (hl : (aF P S).length ≤ 3000) : 0 < aWs (aF P S) (aF P S).length 0 := by
  obtain ⟨i, hi, hE⟩ := aF_end hP hW hl
  exact aWs_ends _ hE _ hi
end E1
